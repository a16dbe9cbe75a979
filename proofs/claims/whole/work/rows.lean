section
-- ===== PART A: goes FIRST, ahead of the names: the tables' words, and 'selects' of the private methods out of them =====
/-- a private method of a class that the tables say can be made, by its rows of tables_1 -/
def lw_okq (q : MethodName × Nat) : Prop := (q.1.cls ≠ "java/lang/invoke/MethodHandle" ∧ q.1.cls ≠ "java/lang/invoke/VarHandle") ∧ Cond.instantiable q.1.cls q.2 ∈ tables_1 ∧ Cond.privateMethod q.1 ∈ tables_1 ∧ Cond.instanceMethod q.1 ∈ tables_1
theorem lw_p0 : lw_okq (⟨"StickyRoutes", "refuse", "(I)I"⟩, 9) := ⟨⟨by decide +kernel, by decide +kernel⟩, List.mem_of_getElem? (i := 8) (by decide +kernel), List.mem_of_getElem? (i := 155) (by decide +kernel), List.mem_of_getElem? (i := 156) (by decide +kernel)⟩
theorem lw_p1 : lw_okq (⟨"StickyRoutes", "keepState", "()V"⟩, 9) := ⟨⟨by decide +kernel, by decide +kernel⟩, List.mem_of_getElem? (i := 8) (by decide +kernel), List.mem_of_getElem? (i := 159) (by decide +kernel), List.mem_of_getElem? (i := 160) (by decide +kernel)⟩
theorem lw_p2 : lw_okq (⟨"StickyRoutes", "isPair", "(II)Z"⟩, 9) := ⟨⟨by decide +kernel, by decide +kernel⟩, List.mem_of_getElem? (i := 8) (by decide +kernel), List.mem_of_getElem? (i := 175) (by decide +kernel), List.mem_of_getElem? (i := 176) (by decide +kernel)⟩
theorem lw_p3 : lw_okq (⟨"StickyRoutes$Net", "count", "(II)V"⟩, 13) := ⟨⟨by decide +kernel, by decide +kernel⟩, List.mem_of_getElem? (i := 16) (by decide +kernel), List.mem_of_getElem? (i := 226) (by decide +kernel), List.mem_of_getElem? (i := 227) (by decide +kernel)⟩
theorem lw_p4 : lw_okq (⟨"StickyRoutes$Net", "servesOver", "(I)Z"⟩, 13) := ⟨⟨by decide +kernel, by decide +kernel⟩, List.mem_of_getElem? (i := 16) (by decide +kernel), List.mem_of_getElem? (i := 235) (by decide +kernel), List.mem_of_getElem? (i := 236) (by decide +kernel)⟩
theorem lw_p5 : lw_okq (⟨"StickyRoutes$Net", "redraw", "(II)V"⟩, 13) := ⟨⟨by decide +kernel, by decide +kernel⟩, List.mem_of_getElem? (i := 16) (by decide +kernel), List.mem_of_getElem? (i := 239) (by decide +kernel), List.mem_of_getElem? (i := 240) (by decide +kernel)⟩
theorem lw_p6 : lw_okq (⟨"StickyRoutes$Net", "advanceX", "()V"⟩, 13) := ⟨⟨by decide +kernel, by decide +kernel⟩, List.mem_of_getElem? (i := 16) (by decide +kernel), List.mem_of_getElem? (i := 243) (by decide +kernel), List.mem_of_getElem? (i := 244) (by decide +kernel)⟩
theorem lw_p7 : lw_okq (⟨"StickyRoutes$Net", "addCall", "(IIII)I"⟩, 13) := ⟨⟨by decide +kernel, by decide +kernel⟩, List.mem_of_getElem? (i := 16) (by decide +kernel), List.mem_of_getElem? (i := 257) (by decide +kernel), List.mem_of_getElem? (i := 258) (by decide +kernel)⟩
theorem lw_p8 : lw_okq (⟨"StickyRoutes$Net", "hold", "(II)V"⟩, 13) := ⟨⟨by decide +kernel, by decide +kernel⟩, List.mem_of_getElem? (i := 16) (by decide +kernel), List.mem_of_getElem? (i := 261) (by decide +kernel), List.mem_of_getElem? (i := 262) (by decide +kernel)⟩
theorem lw_p9 : lw_okq (⟨"StickyRoutes$Net", "endHour", "()I"⟩, 13) := ⟨⟨by decide +kernel, by decide +kernel⟩, List.mem_of_getElem? (i := 16) (by decide +kernel), List.mem_of_getElem? (i := 273) (by decide +kernel), List.mem_of_getElem? (i := 274) (by decide +kernel)⟩
theorem lw_p10 : lw_okq (⟨"StickyRoutes$Net", "moveCall", "(II)V"⟩, 13) := ⟨⟨by decide +kernel, by decide +kernel⟩, List.mem_of_getElem? (i := 16) (by decide +kernel), List.mem_of_getElem? (i := 277) (by decide +kernel), List.mem_of_getElem? (i := 278) (by decide +kernel)⟩
theorem lw_p11 : lw_okq (⟨"StickyRoutes$Net", "askByPlan", "()V"⟩, 13) := ⟨⟨by decide +kernel, by decide +kernel⟩, List.mem_of_getElem? (i := 16) (by decide +kernel), List.mem_of_getElem? (i := 284) (by decide +kernel), List.mem_of_getElem? (i := 285) (by decide +kernel)⟩
theorem lw_p12 : lw_okq (⟨"StickyRoutes", "refusedWith", "(III)I"⟩, 9) := ⟨⟨by decide +kernel, by decide +kernel⟩, List.mem_of_getElem? (i := 8) (by decide +kernel), List.mem_of_getElem? (i := 339) (by decide +kernel), List.mem_of_getElem? (i := 340) (by decide +kernel)⟩
theorem lw_p13 : lw_okq (⟨"StickyRoutes$Text", "skipBlanks", "()V"⟩, 7) := ⟨⟨by decide +kernel, by decide +kernel⟩, List.mem_of_getElem? (i := 89) (by decide +kernel), List.mem_of_getElem? (i := 376) (by decide +kernel), List.mem_of_getElem? (i := 377) (by decide +kernel)⟩
theorem lw_p14 : lw_okq (⟨"StickyRoutes$Text", "readOrder", "(I)V"⟩, 7) := ⟨⟨by decide +kernel, by decide +kernel⟩, List.mem_of_getElem? (i := 89) (by decide +kernel), List.mem_of_getElem? (i := 380) (by decide +kernel), List.mem_of_getElem? (i := 381) (by decide +kernel)⟩
theorem lw_p15 : lw_okq (⟨"StickyRoutes$Text", "readKind", "()I"⟩, 7) := ⟨⟨by decide +kernel, by decide +kernel⟩, List.mem_of_getElem? (i := 89) (by decide +kernel), List.mem_of_getElem? (i := 384) (by decide +kernel), List.mem_of_getElem? (i := 385) (by decide +kernel)⟩
def lw_privs_1 : List (MethodName × Nat) := [(⟨"StickyRoutes", "refuse", "(I)I"⟩, 9), (⟨"StickyRoutes", "keepState", "()V"⟩, 9), (⟨"StickyRoutes", "isPair", "(II)Z"⟩, 9), (⟨"StickyRoutes$Net", "count", "(II)V"⟩, 13), (⟨"StickyRoutes$Net", "servesOver", "(I)Z"⟩, 13), (⟨"StickyRoutes$Net", "redraw", "(II)V"⟩, 13), (⟨"StickyRoutes$Net", "advanceX", "()V"⟩, 13), (⟨"StickyRoutes$Net", "addCall", "(IIII)I"⟩, 13), (⟨"StickyRoutes$Net", "hold", "(II)V"⟩, 13), (⟨"StickyRoutes$Net", "endHour", "()I"⟩, 13), (⟨"StickyRoutes$Net", "moveCall", "(II)V"⟩, 13), (⟨"StickyRoutes$Net", "askByPlan", "()V"⟩, 13), (⟨"StickyRoutes", "refusedWith", "(III)I"⟩, 9), (⟨"StickyRoutes$Text", "skipBlanks", "()V"⟩, 7), (⟨"StickyRoutes$Text", "readOrder", "(I)V"⟩, 7), (⟨"StickyRoutes$Text", "readKind", "()I"⟩, 7)]
theorem lw_r1 : ∀ q ∈ lw_privs_1, lw_okq q := List.forall_mem_cons.mpr ⟨lw_p0, List.forall_mem_cons.mpr ⟨lw_p1, List.forall_mem_cons.mpr ⟨lw_p2, List.forall_mem_cons.mpr ⟨lw_p3, List.forall_mem_cons.mpr ⟨lw_p4, List.forall_mem_cons.mpr ⟨lw_p5, List.forall_mem_cons.mpr ⟨lw_p6, List.forall_mem_cons.mpr ⟨lw_p7, List.forall_mem_cons.mpr ⟨lw_p8, List.forall_mem_cons.mpr ⟨lw_p9, List.forall_mem_cons.mpr ⟨lw_p10, List.forall_mem_cons.mpr ⟨lw_p11, List.forall_mem_cons.mpr ⟨lw_p12, List.forall_mem_cons.mpr ⟨lw_p13, List.forall_mem_cons.mpr ⟨lw_p14, List.forall_mem_cons.mpr ⟨lw_p15, fun _ h => absurd h List.not_mem_nil⟩⟩⟩⟩⟩⟩⟩⟩⟩⟩⟩⟩⟩⟩⟩⟩
theorem lw_p16 : lw_okq (⟨"StickyRoutes$Text", "readTown", "(I)I"⟩, 7) := ⟨⟨by decide +kernel, by decide +kernel⟩, List.mem_of_getElem? (i := 89) (by decide +kernel), List.mem_of_getElem? (i := 391) (by decide +kernel), List.mem_of_getElem? (i := 392) (by decide +kernel)⟩
theorem lw_p17 : lw_okq (⟨"StickyRoutes$Text", "readFigure", "(I)I"⟩, 7) := ⟨⟨by decide +kernel, by decide +kernel⟩, List.mem_of_getElem? (i := 89) (by decide +kernel), List.mem_of_getElem? (i := 395) (by decide +kernel), List.mem_of_getElem? (i := 396) (by decide +kernel)⟩
theorem lw_p18 : lw_okq (⟨"StickyRoutes$Text", "readNumber", "(II)I"⟩, 7) := ⟨⟨by decide +kernel, by decide +kernel⟩, List.mem_of_getElem? (i := 89) (by decide +kernel), List.mem_of_getElem? (i := 399) (by decide +kernel), List.mem_of_getElem? (i := 400) (by decide +kernel)⟩
theorem lw_p19 : lw_okq (⟨"StickyRoutes$Text", "readEnd", "()V"⟩, 7) := ⟨⟨by decide +kernel, by decide +kernel⟩, List.mem_of_getElem? (i := 89) (by decide +kernel), List.mem_of_getElem? (i := 403) (by decide +kernel), List.mem_of_getElem? (i := 404) (by decide +kernel)⟩
theorem lw_p20 : lw_okq (⟨"StickyRoutesModel", "begins", "(I)V"⟩, 13) := ⟨⟨by decide +kernel, by decide +kernel⟩, List.mem_of_getElem? (i := 440) (by decide +kernel), List.mem_of_getElem? (i := 446) (by decide +kernel), List.mem_of_getElem? (i := 447) (by decide +kernel)⟩
theorem lw_p21 : lw_okq (⟨"StickyRoutesModel", "bads", "()I"⟩, 13) := ⟨⟨by decide +kernel, by decide +kernel⟩, List.mem_of_getElem? (i := 440) (by decide +kernel), List.mem_of_getElem? (i := 497) (by decide +kernel), List.mem_of_getElem? (i := 498) (by decide +kernel)⟩
theorem lw_p22 : lw_okq (⟨"StickyRoutesModel", "keeps", "()V"⟩, 13) := ⟨⟨by decide +kernel, by decide +kernel⟩, List.mem_of_getElem? (i := 440) (by decide +kernel), List.mem_of_getElem? (i := 501) (by decide +kernel), List.mem_of_getElem? (i := 502) (by decide +kernel)⟩
theorem lw_p23 : lw_okq (⟨"StickyRoutesModel", "areTowns", "(II)Z"⟩, 13) := ⟨⟨by decide +kernel, by decide +kernel⟩, List.mem_of_getElem? (i := 440) (by decide +kernel), List.mem_of_getElem? (i := 509) (by decide +kernel), List.mem_of_getElem? (i := 510) (by decide +kernel)⟩
theorem lw_p24 : lw_okq (⟨"StickyRoutesModel", "isTown", "(I)Z"⟩, 13) := ⟨⟨by decide +kernel, by decide +kernel⟩, List.mem_of_getElem? (i := 440) (by decide +kernel), List.mem_of_getElem? (i := 513) (by decide +kernel), List.mem_of_getElem? (i := 514) (by decide +kernel)⟩
theorem lw_p25 : lw_okq (⟨"StickyRoutesModel", "free", "(II)I"⟩, 13) := ⟨⟨by decide +kernel, by decide +kernel⟩, List.mem_of_getElem? (i := 440) (by decide +kernel), List.mem_of_getElem? (i := 541) (by decide +kernel), List.mem_of_getElem? (i := 542) (by decide +kernel)⟩
theorem lw_p26 : lw_okq (⟨"StickyRoutesModel", "holding", "(III)I"⟩, 13) := ⟨⟨by decide +kernel, by decide +kernel⟩, List.mem_of_getElem? (i := 440) (by decide +kernel), List.mem_of_getElem? (i := 545) (by decide +kernel), List.mem_of_getElem? (i := 546) (by decide +kernel)⟩
theorem lw_p27 : lw_okq (⟨"StickyRoutesModel", "asks", "(III)I"⟩, 13) := ⟨⟨by decide +kernel, by decide +kernel⟩, List.mem_of_getElem? (i := 440) (by decide +kernel), List.mem_of_getElem? (i := 557) (by decide +kernel), List.mem_of_getElem? (i := 558) (by decide +kernel)⟩
theorem lw_p28 : lw_okq (⟨"StickyRoutesModel", "counts", "(III)V"⟩, 13) := ⟨⟨by decide +kernel, by decide +kernel⟩, List.mem_of_getElem? (i := 440) (by decide +kernel), List.mem_of_getElem? (i := 561) (by decide +kernel), List.mem_of_getElem? (i := 562) (by decide +kernel)⟩
theorem lw_p29 : lw_okq (⟨"StickyRoutesModel", "goes", "(IIII)V"⟩, 13) := ⟨⟨by decide +kernel, by decide +kernel⟩, List.mem_of_getElem? (i := 440) (by decide +kernel), List.mem_of_getElem? (i := 565) (by decide +kernel), List.mem_of_getElem? (i := 566) (by decide +kernel)⟩
theorem lw_p30 : lw_okq (⟨"StickyRoutesModel", "hasMore", "(II)Z"⟩, 13) := ⟨⟨by decide +kernel, by decide +kernel⟩, List.mem_of_getElem? (i := 440) (by decide +kernel), List.mem_of_getElem? (i := 569) (by decide +kernel), List.mem_of_getElem? (i := 570) (by decide +kernel)⟩
theorem lw_p31 : lw_okq (⟨"StickyRoutesModel", "drawsSticky", "(II)V"⟩, 13) := ⟨⟨by decide +kernel, by decide +kernel⟩, List.mem_of_getElem? (i := 440) (by decide +kernel), List.mem_of_getElem? (i := 573) (by decide +kernel), List.mem_of_getElem? (i := 574) (by decide +kernel)⟩
def lw_privs_2 : List (MethodName × Nat) := [(⟨"StickyRoutes$Text", "readTown", "(I)I"⟩, 7), (⟨"StickyRoutes$Text", "readFigure", "(I)I"⟩, 7), (⟨"StickyRoutes$Text", "readNumber", "(II)I"⟩, 7), (⟨"StickyRoutes$Text", "readEnd", "()V"⟩, 7), (⟨"StickyRoutesModel", "begins", "(I)V"⟩, 13), (⟨"StickyRoutesModel", "bads", "()I"⟩, 13), (⟨"StickyRoutesModel", "keeps", "()V"⟩, 13), (⟨"StickyRoutesModel", "areTowns", "(II)Z"⟩, 13), (⟨"StickyRoutesModel", "isTown", "(I)Z"⟩, 13), (⟨"StickyRoutesModel", "free", "(II)I"⟩, 13), (⟨"StickyRoutesModel", "holding", "(III)I"⟩, 13), (⟨"StickyRoutesModel", "asks", "(III)I"⟩, 13), (⟨"StickyRoutesModel", "counts", "(III)V"⟩, 13), (⟨"StickyRoutesModel", "goes", "(IIII)V"⟩, 13), (⟨"StickyRoutesModel", "hasMore", "(II)Z"⟩, 13), (⟨"StickyRoutesModel", "drawsSticky", "(II)V"⟩, 13)]
theorem lw_r2 : ∀ q ∈ lw_privs_2, lw_okq q := List.forall_mem_cons.mpr ⟨lw_p16, List.forall_mem_cons.mpr ⟨lw_p17, List.forall_mem_cons.mpr ⟨lw_p18, List.forall_mem_cons.mpr ⟨lw_p19, List.forall_mem_cons.mpr ⟨lw_p20, List.forall_mem_cons.mpr ⟨lw_p21, List.forall_mem_cons.mpr ⟨lw_p22, List.forall_mem_cons.mpr ⟨lw_p23, List.forall_mem_cons.mpr ⟨lw_p24, List.forall_mem_cons.mpr ⟨lw_p25, List.forall_mem_cons.mpr ⟨lw_p26, List.forall_mem_cons.mpr ⟨lw_p27, List.forall_mem_cons.mpr ⟨lw_p28, List.forall_mem_cons.mpr ⟨lw_p29, List.forall_mem_cons.mpr ⟨lw_p30, List.forall_mem_cons.mpr ⟨lw_p31, fun _ h => absurd h List.not_mem_nil⟩⟩⟩⟩⟩⟩⟩⟩⟩⟩⟩⟩⟩⟩⟩⟩
theorem lw_p32 : lw_okq (⟨"StickyRoutesModel", "draws", "()V"⟩, 13) := ⟨⟨by decide +kernel, by decide +kernel⟩, List.mem_of_getElem? (i := 440) (by decide +kernel), List.mem_of_getElem? (i := 577) (by decide +kernel), List.mem_of_getElem? (i := 578) (by decide +kernel)⟩
theorem lw_p33 : lw_okq (⟨"StickyRoutesModel", "passes", "(I)I"⟩, 13) := ⟨⟨by decide +kernel, by decide +kernel⟩, List.mem_of_getElem? (i := 440) (by decide +kernel), List.mem_of_getElem? (i := 589) (by decide +kernel), List.mem_of_getElem? (i := 590) (by decide +kernel)⟩
theorem lw_p34 : lw_okq (⟨"StickyRoutesModel", "letsGo", "(I)V"⟩, 13) := ⟨⟨by decide +kernel, by decide +kernel⟩, List.mem_of_getElem? (i := 440) (by decide +kernel), List.mem_of_getElem? (i := 593) (by decide +kernel), List.mem_of_getElem? (i := 594) (by decide +kernel)⟩
theorem lw_p35 : lw_okq (⟨"StickyRoutesModel", "nos", "()I"⟩, 13) := ⟨⟨by decide +kernel, by decide +kernel⟩, List.mem_of_getElem? (i := 440) (by decide +kernel), List.mem_of_getElem? (i := 605) (by decide +kernel), List.mem_of_getElem? (i := 606) (by decide +kernel)⟩
theorem lw_p36 : lw_okq (⟨"StickyRoutesModel", "sumOf", "(I)I"⟩, 13) := ⟨⟨by decide +kernel, by decide +kernel⟩, List.mem_of_getElem? (i := 440) (by decide +kernel), List.mem_of_getElem? (i := 613) (by decide +kernel), List.mem_of_getElem? (i := 614) (by decide +kernel)⟩
theorem lw_p37 : lw_okq (⟨"StickyRoutesModel", "lostIn", "(II)I"⟩, 13) := ⟨⟨by decide +kernel, by decide +kernel⟩, List.mem_of_getElem? (i := 440) (by decide +kernel), List.mem_of_getElem? (i := 633) (by decide +kernel), List.mem_of_getElem? (i := 634) (by decide +kernel)⟩
theorem lw_p38 : lw_okq (⟨"StickyRoutesModel", "mayGo", "(III)Z"⟩, 13) := ⟨⟨by decide +kernel, by decide +kernel⟩, List.mem_of_getElem? (i := 440) (by decide +kernel), List.mem_of_getElem? (i := 645) (by decide +kernel), List.mem_of_getElem? (i := 646) (by decide +kernel)⟩
theorem lw_p39 : lw_okq (⟨"StickyRoutesModel", "order", "()V"⟩, 13) := ⟨⟨by decide +kernel, by decide +kernel⟩, List.mem_of_getElem? (i := 440) (by decide +kernel), List.mem_of_getElem? (i := 661) (by decide +kernel), List.mem_of_getElem? (i := 662) (by decide +kernel)⟩
theorem lw_p40 : lw_okq (⟨"StickyRoutesModel", "sign", "()I"⟩, 13) := ⟨⟨by decide +kernel, by decide +kernel⟩, List.mem_of_getElem? (i := 440) (by decide +kernel), List.mem_of_getElem? (i := 665) (by decide +kernel), List.mem_of_getElem? (i := 666) (by decide +kernel)⟩
theorem lw_p41 : lw_okq (⟨"StickyRoutesModel", "figure", "(II)I"⟩, 13) := ⟨⟨by decide +kernel, by decide +kernel⟩, List.mem_of_getElem? (i := 440) (by decide +kernel), List.mem_of_getElem? (i := 672) (by decide +kernel), List.mem_of_getElem? (i := 673) (by decide +kernel)⟩
theorem lw_p42 : lw_okq (⟨"StickyRoutesModel", "fails", "(I)V"⟩, 13) := ⟨⟨by decide +kernel, by decide +kernel⟩, List.mem_of_getElem? (i := 440) (by decide +kernel), List.mem_of_getElem? (i := 676) (by decide +kernel), List.mem_of_getElem? (i := 677) (by decide +kernel)⟩
theorem lw_p43 : lw_okq (⟨"StickyRoutesModel", "number", "(II)I"⟩, 13) := ⟨⟨by decide +kernel, by decide +kernel⟩, List.mem_of_getElem? (i := 440) (by decide +kernel), List.mem_of_getElem? (i := 680) (by decide +kernel), List.mem_of_getElem? (i := 681) (by decide +kernel)⟩
def lw_privs_3 : List (MethodName × Nat) := [(⟨"StickyRoutesModel", "draws", "()V"⟩, 13), (⟨"StickyRoutesModel", "passes", "(I)I"⟩, 13), (⟨"StickyRoutesModel", "letsGo", "(I)V"⟩, 13), (⟨"StickyRoutesModel", "nos", "()I"⟩, 13), (⟨"StickyRoutesModel", "sumOf", "(I)I"⟩, 13), (⟨"StickyRoutesModel", "lostIn", "(II)I"⟩, 13), (⟨"StickyRoutesModel", "mayGo", "(III)Z"⟩, 13), (⟨"StickyRoutesModel", "order", "()V"⟩, 13), (⟨"StickyRoutesModel", "sign", "()I"⟩, 13), (⟨"StickyRoutesModel", "figure", "(II)I"⟩, 13), (⟨"StickyRoutesModel", "fails", "(I)V"⟩, 13), (⟨"StickyRoutesModel", "number", "(II)I"⟩, 13)]
theorem lw_r3 : ∀ q ∈ lw_privs_3, lw_okq q := List.forall_mem_cons.mpr ⟨lw_p32, List.forall_mem_cons.mpr ⟨lw_p33, List.forall_mem_cons.mpr ⟨lw_p34, List.forall_mem_cons.mpr ⟨lw_p35, List.forall_mem_cons.mpr ⟨lw_p36, List.forall_mem_cons.mpr ⟨lw_p37, List.forall_mem_cons.mpr ⟨lw_p38, List.forall_mem_cons.mpr ⟨lw_p39, List.forall_mem_cons.mpr ⟨lw_p40, List.forall_mem_cons.mpr ⟨lw_p41, List.forall_mem_cons.mpr ⟨lw_p42, List.forall_mem_cons.mpr ⟨lw_p43, fun _ h => absurd h List.not_mem_nil⟩⟩⟩⟩⟩⟩⟩⟩⟩⟩⟩⟩
def lw_privs : List (MethodName × Nat) := lw_privs_1 ++ (lw_privs_2 ++ (lw_privs_3))
def lw_tbl : List Cond := k2_sels lw_privs ++ tables_1
theorem lw_privs_ok : ∀ q ∈ lw_privs, lw_okq q := by
  show ∀ q ∈ lw_privs_1 ++ (lw_privs_2 ++ (lw_privs_3)), lw_okq q
  exact List.forall_mem_append.mpr ⟨lw_r1, List.forall_mem_append.mpr ⟨lw_r2, lw_r3⟩⟩
def RX0 : String := "StickyRoutes$Net"
def TX0 : u_T := fun k => match k with
  | 0 => ("StickyRoutes$Net", "townCount", "I", false)
  | 1 => ("StickyRoutes$Net", "handsBack", "I", false)
  | 2 => ("StickyRoutes$Net", "x", "I", false)
  | 3 => ("StickyRoutes$Net", "hoursGone", "I", false)
  | 4 => ("StickyRoutes$Net", "callCount", "I", false)
  | 5 => ("StickyRoutes$Net", "wires", "[I", true)
  | 6 => ("StickyRoutes$Net", "reserves", "[I", true)
  | 7 => ("StickyRoutes$Net", "held", "[I", true)
  | 8 => ("StickyRoutes$Net", "stickies", "[I", true)
  | 9 => ("StickyRoutes$Net", "counts", "[I", true)
  | 10 => ("StickyRoutes$Net", "totals", "[I", true)
  | 11 => ("StickyRoutes$Net", "loads", "[I", true)
  | _ => ("StickyRoutes$Net", "calls", "[I", true)
def tyX0 : Nat → FieldType := fun k => match k with
  | 0 => .int
  | 1 => .int
  | 2 => .int
  | 3 => .int
  | 4 => .int
  | 5 => .array .int
  | 6 => .array .int
  | 7 => .array .int
  | 8 => .array .int
  | 9 => .array .int
  | 10 => .array .int
  | 11 => .array .int
  | _ => .array .int
theorem nmX0 : ∀ a, a < 13 → ∀ b, b < 13 → a ≠ b → (TX0 a).2.1 ≠ (TX0 b).2.1 := by decide +kernel
theorem tyX0_ok : ∀ k, k < 13 → parseFieldDescriptor (TX0 k).2.2.1 = some (tyX0 k) := by decide +kernel
abbrev cX0_init : ByteArray := prog_2_method_1_code
def yX0_init : MethodName := ⟨RX0, "<init>", "()V"⟩
abbrev cX0_pairCell : ByteArray := prog_2_method_2_code
def yX0_pairCell : MethodName := ⟨RX0, "pairCell", "(II)I"⟩
abbrev cX0_linkCell : ByteArray := prog_2_method_3_code
def yX0_linkCell : MethodName := ⟨RX0, "linkCell", "(II)I"⟩
abbrev cX0_begin : ByteArray := prog_2_method_4_code
def yX0_begin : MethodName := ⟨RX0, "begin", "(I)V"⟩
abbrev cX0_leastOther : ByteArray := prog_2_method_5_code
def yX0_leastOther : MethodName := ⟨RX0, "leastOther", "(II)I"⟩
abbrev cX0_fill : ByteArray := prog_2_method_6_code
def yX0_fill : MethodName := ⟨RX0, "fill", "([II)V"⟩
abbrev cX0_copyFrom : ByteArray := prog_2_method_7_code
def yX0_copyFrom : MethodName := ⟨RX0, "copyFrom", "(LStickyRoutes$Net;)V"⟩
abbrev cX0_freeWires : ByteArray := prog_2_method_8_code
def yX0_freeWires : MethodName := ⟨RX0, "freeWires", "(I)I"⟩
abbrev cX0_servesOver : ByteArray := prog_2_method_9_code
def yX0_servesOver : MethodName := ⟨RX0, "servesOver", "(I)Z"⟩
abbrev cX0_wayNow : ByteArray := prog_2_method_10_code
def yX0_wayNow : MethodName := ⟨RX0, "wayNow", "(II)I"⟩
abbrev cX0_hasAnyWay : ByteArray := prog_2_method_11_code
def yX0_hasAnyWay : MethodName := ⟨RX0, "hasAnyWay", "(II)Z"⟩
abbrev cX0_ask : ByteArray := prog_2_method_12_code
def yX0_ask : MethodName := ⟨RX0, "ask", "(III)I"⟩
abbrev cX0_count : ByteArray := prog_2_method_13_code
def yX0_count : MethodName := ⟨RX0, "count", "(II)V"⟩
abbrev cX0_advanceX : ByteArray := prog_2_method_14_code
def yX0_advanceX : MethodName := ⟨RX0, "advanceX", "()V"⟩
abbrev cX0_redraw : ByteArray := prog_2_method_15_code
def yX0_redraw : MethodName := ⟨RX0, "redraw", "(II)V"⟩
abbrev cX0_addCall : ByteArray := prog_2_method_16_code
def yX0_addCall : MethodName := ⟨RX0, "addCall", "(IIII)I"⟩
abbrev cX0_hold : ByteArray := prog_2_method_17_code
def yX0_hold : MethodName := ⟨RX0, "hold", "(II)V"⟩
abbrev cX0_endCall : ByteArray := prog_2_method_18_code
def yX0_endCall : MethodName := ⟨RX0, "endCall", "(I)V"⟩
abbrev cX0_passHours : ByteArray := prog_2_method_19_code
def yX0_passHours : MethodName := ⟨RX0, "passHours", "(I)I"⟩
abbrev cX0_endHour : ByteArray := prog_2_method_20_code
def yX0_endHour : MethodName := ⟨RX0, "endHour", "()I"⟩
abbrev cX0_moveCall : ByteArray := prog_2_method_21_code
def yX0_moveCall : MethodName := ⟨RX0, "moveCall", "(II)V"⟩
abbrev cX0_askByPlan : ByteArray := prog_2_method_22_code
def yX0_askByPlan : MethodName := ⟨RX0, "askByPlan", "()V"⟩
abbrev cX0_doOrder : ByteArray := prog_2_method_23_code
def yX0_doOrder : MethodName := ⟨RX0, "doOrder", "([II)Z"⟩
abbrev cX0_callsOverLink : ByteArray := prog_2_method_24_code
def yX0_callsOverLink : MethodName := ⟨RX0, "callsOverLink", "(I)I"⟩
abbrev cX0_wiresHeld : ByteArray := prog_2_method_25_code
def yX0_wiresHeld : MethodName := ⟨RX0, "wiresHeld", "()I"⟩
abbrev cX0_refusedAt : ByteArray := prog_2_method_26_code
def yX0_refusedAt : MethodName := ⟨RX0, "refusedAt", "(I)I"⟩
abbrev cX0_mostRefusedPair : ByteArray := prog_2_method_27_code
def yX0_mostRefusedPair : MethodName := ⟨RX0, "mostRefusedPair", "()I"⟩
abbrev cX0_scarcestLink : ByteArray := prog_2_method_28_code
def yX0_scarcestLink : MethodName := ⟨RX0, "scarcestLink", "()I"⟩
abbrev cX0_mixLinks : ByteArray := prog_2_method_29_code
def yX0_mixLinks : MethodName := ⟨RX0, "mixLinks", "(J)J"⟩
abbrev cX0_mixPairs : ByteArray := prog_2_method_30_code
def yX0_mixPairs : MethodName := ⟨RX0, "mixPairs", "(J)J"⟩
abbrev cX0_mixLoadsAndCalls : ByteArray := prog_2_method_31_code
def yX0_mixLoadsAndCalls : MethodName := ⟨RX0, "mixLoadsAndCalls", "(J)J"⟩
def RX1 : String := "StickyRoutes$Text"
def TX1 : u_T := fun k => match k with
  | 0 => ("StickyRoutes$Text", "bytes", "[I", true)
  | 1 => ("StickyRoutes$Text", "orders", "[I", true)
  | 2 => ("StickyRoutes$Text", "length", "I", false)
  | 3 => ("StickyRoutes$Text", "orderCount", "I", false)
  | 4 => ("StickyRoutes$Text", "townCount", "I", false)
  | 5 => ("StickyRoutes$Text", "place", "I", false)
  | _ => ("StickyRoutes$Text", "fault", "I", false)
def tyX1 : Nat → FieldType := fun k => match k with
  | 0 => .array .int
  | 1 => .array .int
  | 2 => .int
  | 3 => .int
  | 4 => .int
  | 5 => .int
  | _ => .int
theorem nmX1 : ∀ a, a < 7 → ∀ b, b < 7 → a ≠ b → (TX1 a).2.1 ≠ (TX1 b).2.1 := by decide +kernel
theorem tyX1_ok : ∀ k, k < 7 → parseFieldDescriptor (TX1 k).2.2.1 = some (tyX1 k) := by decide +kernel
abbrev cX1_init : ByteArray := prog_3_method_1_code
def yX1_init : MethodName := ⟨RX1, "<init>", "()V"⟩
abbrev cX1_append : ByteArray := prog_3_method_2_code
def yX1_append : MethodName := ⟨RX1, "append", "(I)Z"⟩
abbrev cX1_read : ByteArray := prog_3_method_3_code
def yX1_read : MethodName := ⟨RX1, "read", "(I)I"⟩
abbrev cX1_readOrder : ByteArray := prog_3_method_4_code
def yX1_readOrder : MethodName := ⟨RX1, "readOrder", "(I)V"⟩
abbrev cX1_readKind : ByteArray := prog_3_method_5_code
def yX1_readKind : MethodName := ⟨RX1, "readKind", "()I"⟩
abbrev cX1_readTown : ByteArray := prog_3_method_6_code
def yX1_readTown : MethodName := ⟨RX1, "readTown", "(I)I"⟩
abbrev cX1_readFigure : ByteArray := prog_3_method_7_code
def yX1_readFigure : MethodName := ⟨RX1, "readFigure", "(I)I"⟩
abbrev cX1_readNumber : ByteArray := prog_3_method_8_code
def yX1_readNumber : MethodName := ⟨RX1, "readNumber", "(II)I"⟩
abbrev cX1_readEnd : ByteArray := prog_3_method_9_code
def yX1_readEnd : MethodName := ⟨RX1, "readEnd", "()V"⟩
abbrev cX1_skipBlanks : ByteArray := prog_3_method_10_code
def yX1_skipBlanks : MethodName := ⟨RX1, "skipBlanks", "()V"⟩
abbrev cX1_isFigure : ByteArray := prog_3_method_11_code
def yX1_isFigure : MethodName := ⟨RX1, "isFigure", "(I)Z"⟩
def RX2 : String := "StickyRoutes"
def TX2 : u_T := fun k => match k with
  | 0 => ("StickyRoutes", "now", "LStickyRoutes$Net;", true)
  | 1 => ("StickyRoutes", "trial", "LStickyRoutes$Net;", true)
  | 2 => ("StickyRoutes", "states", "[LStickyRoutes$Net;", true)
  | 3 => ("StickyRoutes", "text", "LStickyRoutes$Text;", true)
  | 4 => ("StickyRoutes", "stateCount", "I", false)
  | 5 => ("StickyRoutes", "nextState", "I", false)
  | 6 => ("StickyRoutes", "badTimes", "I", false)
  | 7 => ("StickyRoutes", "noTimes", "I", false)
  | _ => ("StickyRoutes", "fullTimes", "I", false)
def tyX2 : Nat → FieldType := fun k => match k with
  | 0 => .object "StickyRoutes$Net"
  | 1 => .object "StickyRoutes$Net"
  | 2 => .array (.object "StickyRoutes$Net")
  | 3 => .object "StickyRoutes$Text"
  | 4 => .int
  | 5 => .int
  | 6 => .int
  | 7 => .int
  | _ => .int
theorem nmX2 : ∀ a, a < 9 → ∀ b, b < 9 → a ≠ b → (TX2 a).2.1 ≠ (TX2 b).2.1 := by decide +kernel
theorem tyX2_ok : ∀ k, k < 9 → parseFieldDescriptor (TX2 k).2.2.1 = some (tyX2 k) := by decide +kernel
abbrev cX2_init : ByteArray := prog_1_method_1_code
def yX2_init : MethodName := ⟨RX2, "<init>", "()V"⟩
abbrev cX2_towns : ByteArray := prog_1_method_2_code
def yX2_towns : MethodName := ⟨RX2, "towns", "(I)I"⟩
abbrev cX2_link : ByteArray := prog_1_method_3_code
def yX2_link : MethodName := ⟨RX2, "link", "(IIII)I"⟩
abbrev cX2_links : ByteArray := prog_1_method_4_code
def yX2_links : MethodName := ⟨RX2, "links", "(II)I"⟩
abbrev cX2_back : ByteArray := prog_1_method_5_code
def yX2_back : MethodName := ⟨RX2, "back", "(I)I"⟩
abbrev cX2_load : ByteArray := prog_1_method_6_code
def yX2_load : MethodName := ⟨RX2, "load", "(II)I"⟩
abbrev cX2_seed : ByteArray := prog_1_method_7_code
def yX2_seed : MethodName := ⟨RX2, "seed", "(I)I"⟩
abbrev cX2_of : ByteArray := prog_1_method_8_code
def yX2_of : MethodName := ⟨RX2, "of", "(III)I"⟩
abbrev cX2_sticky : ByteArray := prog_1_method_9_code
def yX2_sticky : MethodName := ⟨RX2, "sticky", "(II)I"⟩
abbrev cX2_call : ByteArray := prog_1_method_10_code
def yX2_call : MethodName := ⟨RX2, "call", "(III)I"⟩
abbrev cX2_hours : ByteArray := prog_1_method_11_code
def yX2_hours : MethodName := ⟨RX2, "hours", "(I)I"⟩
abbrev cX2_going : ByteArray := prog_1_method_12_code
def yX2_going : MethodName := ⟨RX2, "going", "(II)I"⟩
abbrev cX2_ends : ByteArray := prog_1_method_13_code
def yX2_ends : MethodName := ⟨RX2, "ends", "(I)I"⟩
abbrev cX2_all : ByteArray := prog_1_method_14_code
def yX2_all : MethodName := ⟨RX2, "all", "(I)I"⟩
abbrev cX2_pair : ByteArray := prog_1_method_15_code
def yX2_pair : MethodName := ⟨RX2, "pair", "(III)I"⟩
abbrev cX2_worst : ByteArray := prog_1_method_16_code
def yX2_worst : MethodName := ⟨RX2, "worst", "(I)I"⟩
abbrev cX2_burden : ByteArray := prog_1_method_17_code
def yX2_burden : MethodName := ⟨RX2, "burden", "()I"⟩
abbrev cX2_would : ByteArray := prog_1_method_18_code
def yX2_would : MethodName := ⟨RX2, "would", "(II)I"⟩
abbrev cX2_best : ByteArray := prog_1_method_19_code
def yX2_best : MethodName := ⟨RX2, "best", "(II)I"⟩
abbrev cX2_choked : ByteArray := prog_1_method_20_code
def yX2_choked : MethodName := ⟨RX2, "choked", "(I)I"⟩
abbrev cX2_type : ByteArray := prog_1_method_21_code
def yX2_type : MethodName := ⟨RX2, "type", "(I)I"⟩
abbrev cX2_clear : ByteArray := prog_1_method_22_code
def yX2_clear : MethodName := ⟨RX2, "clear", "()I"⟩
abbrev cX2_does : ByteArray := prog_1_method_23_code
def yX2_does : MethodName := ⟨RX2, "does", "()I"⟩
abbrev cX2_undo : ByteArray := prog_1_method_24_code
def yX2_undo : MethodName := ⟨RX2, "undo", "()I"⟩
abbrev cX2_told : ByteArray := prog_1_method_25_code
def yX2_told : MethodName := ⟨RX2, "told", "(I)I"⟩
abbrev cX2_digest : ByteArray := prog_1_method_26_code
def yX2_digest : MethodName := ⟨RX2, "digest", "()J"⟩
abbrev cX2_within : ByteArray := prog_1_method_27_code
def yX2_within : MethodName := ⟨RX2, "within", "(III)Z"⟩
abbrev cX2_isPair : ByteArray := prog_1_method_28_code
def yX2_isPair : MethodName := ⟨RX2, "isPair", "(II)Z"⟩
abbrev cX2_refuse : ByteArray := prog_1_method_29_code
def yX2_refuse : MethodName := ⟨RX2, "refuse", "(I)I"⟩
abbrev cX2_keepState : ByteArray := prog_1_method_30_code
def yX2_keepState : MethodName := ⟨RX2, "keepState", "()V"⟩
abbrev cX2_refusedWith : ByteArray := prog_1_method_31_code
def yX2_refusedWith : MethodName := ⟨RX2, "refusedWith", "(III)I"⟩
def RX3 : String := "StickyRoutesModel"
def TX3 : u_T := fun k => match k with
  | 0 => ("StickyRoutesModel", "now", "[I", true)
  | 1 => ("StickyRoutesModel", "aside", "[I", true)
  | 2 => ("StickyRoutesModel", "past", "[I", true)
  | 3 => ("StickyRoutesModel", "states", "I", false)
  | 4 => ("StickyRoutesModel", "text", "[I", true)
  | 5 => ("StickyRoutesModel", "typed", "I", false)
  | 6 => ("StickyRoutesModel", "at", "I", false)
  | 7 => ("StickyRoutesModel", "fault", "I", false)
  | 8 => ("StickyRoutesModel", "orders", "[I", true)
  | 9 => ("StickyRoutesModel", "many", "I", false)
  | 10 => ("StickyRoutesModel", "bad", "I", false)
  | 11 => ("StickyRoutesModel", "no", "I", false)
  | _ => ("StickyRoutesModel", "full", "I", false)
def tyX3 : Nat → FieldType := fun k => match k with
  | 0 => .array .int
  | 1 => .array .int
  | 2 => .array .int
  | 3 => .int
  | 4 => .array .int
  | 5 => .int
  | 6 => .int
  | 7 => .int
  | 8 => .array .int
  | 9 => .int
  | 10 => .int
  | 11 => .int
  | _ => .int
theorem nmX3 : ∀ a, a < 13 → ∀ b, b < 13 → a ≠ b → (TX3 a).2.1 ≠ (TX3 b).2.1 := by decide +kernel
theorem tyX3_ok : ∀ k, k < 13 → parseFieldDescriptor (TX3 k).2.2.1 = some (tyX3 k) := by decide +kernel
abbrev cX3_init : ByteArray := prog_5_method_1_code
def yX3_init : MethodName := ⟨RX3, "<init>", "()V"⟩
abbrev cX3_begins : ByteArray := prog_5_method_3_code
def yX3_begins : MethodName := ⟨RX3, "begins", "(I)V"⟩
abbrev cX3_in : ByteArray := prog_5_method_4_code
def yX3_in : MethodName := ⟨RX3, "in", "(III)Z"⟩
abbrev cX3_bads : ByteArray := prog_5_method_5_code
def yX3_bads : MethodName := ⟨RX3, "bads", "()I"⟩
abbrev cX3_nos : ByteArray := prog_5_method_6_code
def yX3_nos : MethodName := ⟨RX3, "nos", "()I"⟩
abbrev cX3_isTown : ByteArray := prog_5_method_7_code
def yX3_isTown : MethodName := ⟨RX3, "isTown", "(I)Z"⟩
abbrev cX3_areTowns : ByteArray := prog_5_method_8_code
def yX3_areTowns : MethodName := ⟨RX3, "areTowns", "(II)Z"⟩
abbrev cX3_keeps : ByteArray := prog_5_method_9_code
def yX3_keeps : MethodName := ⟨RX3, "keeps", "()V"⟩
abbrev cX3_pairOf : ByteArray := prog_5_method_10_code
def yX3_pairOf : MethodName := ⟨RX3, "pairOf", "(II)I"⟩
abbrev cX3_towns : ByteArray := prog_5_method_11_code
def yX3_towns : MethodName := ⟨RX3, "towns", "(I)I"⟩
abbrev cX3_link : ByteArray := prog_5_method_12_code
def yX3_link : MethodName := ⟨RX3, "link", "(IIII)I"⟩
abbrev cX3_links : ByteArray := prog_5_method_13_code
def yX3_links : MethodName := ⟨RX3, "links", "(II)I"⟩
abbrev cX3_back : ByteArray := prog_5_method_14_code
def yX3_back : MethodName := ⟨RX3, "back", "(I)I"⟩
abbrev cX3_load : ByteArray := prog_5_method_15_code
def yX3_load : MethodName := ⟨RX3, "load", "(II)I"⟩
abbrev cX3_seed : ByteArray := prog_5_method_16_code
def yX3_seed : MethodName := ⟨RX3, "seed", "(I)I"⟩
abbrev cX3_holding : ByteArray := prog_5_method_17_code
def yX3_holding : MethodName := ⟨RX3, "holding", "(III)I"⟩
abbrev cX3_free : ByteArray := prog_5_method_18_code
def yX3_free : MethodName := ⟨RX3, "free", "(II)I"⟩
abbrev cX3_of : ByteArray := prog_5_method_19_code
def yX3_of : MethodName := ⟨RX3, "of", "(III)I"⟩
abbrev cX3_sticky : ByteArray := prog_5_method_20_code
def yX3_sticky : MethodName := ⟨RX3, "sticky", "(II)I"⟩
abbrev cX3_draws : ByteArray := prog_5_method_21_code
def yX3_draws : MethodName := ⟨RX3, "draws", "()V"⟩
abbrev cX3_drawsSticky : ByteArray := prog_5_method_22_code
def yX3_drawsSticky : MethodName := ⟨RX3, "drawsSticky", "(II)V"⟩
abbrev cX3_hasMore : ByteArray := prog_5_method_23_code
def yX3_hasMore : MethodName := ⟨RX3, "hasMore", "(II)Z"⟩
abbrev cX3_counts : ByteArray := prog_5_method_24_code
def yX3_counts : MethodName := ⟨RX3, "counts", "(III)V"⟩
abbrev cX3_goes : ByteArray := prog_5_method_25_code
def yX3_goes : MethodName := ⟨RX3, "goes", "(IIII)V"⟩
abbrev cX3_asks : ByteArray := prog_5_method_26_code
def yX3_asks : MethodName := ⟨RX3, "asks", "(III)I"⟩
abbrev cX3_call : ByteArray := prog_5_method_27_code
def yX3_call : MethodName := ⟨RX3, "call", "(III)I"⟩
abbrev cX3_letsGo : ByteArray := prog_5_method_28_code
def yX3_letsGo : MethodName := ⟨RX3, "letsGo", "(I)V"⟩
abbrev cX3_passes : ByteArray := prog_5_method_29_code
def yX3_passes : MethodName := ⟨RX3, "passes", "(I)I"⟩
abbrev cX3_hours : ByteArray := prog_5_method_30_code
def yX3_hours : MethodName := ⟨RX3, "hours", "(I)I"⟩
abbrev cX3_going : ByteArray := prog_5_method_31_code
def yX3_going : MethodName := ⟨RX3, "going", "(II)I"⟩
abbrev cX3_ends : ByteArray := prog_5_method_32_code
def yX3_ends : MethodName := ⟨RX3, "ends", "(I)I"⟩
abbrev cX3_sumOf : ByteArray := prog_5_method_33_code
def yX3_sumOf : MethodName := ⟨RX3, "sumOf", "(I)I"⟩
abbrev cX3_all : ByteArray := prog_5_method_34_code
def yX3_all : MethodName := ⟨RX3, "all", "(I)I"⟩
abbrev cX3_pair : ByteArray := prog_5_method_35_code
def yX3_pair : MethodName := ⟨RX3, "pair", "(III)I"⟩
abbrev cX3_worst : ByteArray := prog_5_method_36_code
def yX3_worst : MethodName := ⟨RX3, "worst", "(I)I"⟩
abbrev cX3_burden : ByteArray := prog_5_method_37_code
def yX3_burden : MethodName := ⟨RX3, "burden", "()I"⟩
abbrev cX3_lostIn : ByteArray := prog_5_method_38_code
def yX3_lostIn : MethodName := ⟨RX3, "lostIn", "(II)I"⟩
abbrev cX3_would : ByteArray := prog_5_method_39_code
def yX3_would : MethodName := ⟨RX3, "would", "(II)I"⟩
abbrev cX3_best : ByteArray := prog_5_method_40_code
def yX3_best : MethodName := ⟨RX3, "best", "(II)I"⟩
abbrev cX3_mayGo : ByteArray := prog_5_method_41_code
def yX3_mayGo : MethodName := ⟨RX3, "mayGo", "(III)Z"⟩
abbrev cX3_choked : ByteArray := prog_5_method_42_code
def yX3_choked : MethodName := ⟨RX3, "choked", "(I)I"⟩
abbrev cX3_type : ByteArray := prog_5_method_43_code
def yX3_type : MethodName := ⟨RX3, "type", "(I)I"⟩
abbrev cX3_clear : ByteArray := prog_5_method_44_code
def yX3_clear : MethodName := ⟨RX3, "clear", "()I"⟩
abbrev cX3_sign : ByteArray := prog_5_method_45_code
def yX3_sign : MethodName := ⟨RX3, "sign", "()I"⟩
abbrev cX3_fails : ByteArray := prog_5_method_46_code
def yX3_fails : MethodName := ⟨RX3, "fails", "(I)V"⟩
abbrev cX3_isFigure : ByteArray := prog_5_method_47_code
def yX3_isFigure : MethodName := ⟨RX3, "isFigure", "(I)Z"⟩
abbrev cX3_figure : ByteArray := prog_5_method_48_code
def yX3_figure : MethodName := ⟨RX3, "figure", "(II)I"⟩
abbrev cX3_number : ByteArray := prog_5_method_49_code
def yX3_number : MethodName := ⟨RX3, "number", "(II)I"⟩
abbrev cX3_order : ByteArray := prog_5_method_50_code
def yX3_order : MethodName := ⟨RX3, "order", "()V"⟩
abbrev cX3_does : ByteArray := prog_5_method_51_code
def yX3_does : MethodName := ⟨RX3, "does", "()I"⟩
abbrev cX3_undo : ByteArray := prog_5_method_52_code
def yX3_undo : MethodName := ⟨RX3, "undo", "()I"⟩
abbrev cX3_told : ByteArray := prog_5_method_53_code
def yX3_told : MethodName := ⟨RX3, "told", "(I)I"⟩
abbrev cX3_digest : ByteArray := prog_5_method_54_code
def yX3_digest : MethodName := ⟨RX3, "digest", "()J"⟩
def RJ9 : String := "java/lang/Math"
abbrev cJ9_floorMod_7cf53 : ByteArray := prog_6_method_50_code
def yJ9_floorMod_7cf53 : MethodName := ⟨RJ9, "floorMod", "(II)I"⟩
abbrev cJ9_max_7cf53 : ByteArray := prog_6_method_65_code
def yJ9_max_7cf53 : MethodName := ⟨RJ9, "max", "(II)I"⟩
abbrev cJ9_min_7cf53 : ByteArray := prog_6_method_69_code
def yJ9_min_7cf53 : MethodName := ⟨RJ9, "min", "(II)I"⟩
def RL : String := "StickyRoutesLaw"
abbrev cls_ : List vw_C := [(RX0, TX0, 13), (RX1, TX1, 7), (RX2, TX2, 9), (RX3, TX3, 13)]
theorem inwX0 : u_ws RX0 TX0 13 = ([103, 105, 107, 109, 111, 113, 115, 117, 119, 121, 123, 125, 127] : List Nat).filterMap (fun i => lw_tbl[i]?) := by decide +kernel
theorem inlX0 : ∀ w ∈ u_ws RX0 TX0 13, w ∈ lw_tbl := fun w h => by rw [inwX0] at h; obtain ⟨i, -, hi⟩ := List.mem_filterMap.mp h; exact List.mem_of_getElem? hi
theorem inwX1 : u_ws RX1 TX1 7 = ([148, 150, 152, 154, 156, 158, 160] : List Nat).filterMap (fun i => lw_tbl[i]?) := by decide +kernel
theorem inlX1 : ∀ w ∈ u_ws RX1 TX1 7, w ∈ lw_tbl := fun w h => by rw [inwX1] at h; obtain ⟨i, -, hi⟩ := List.mem_filterMap.mp h; exact List.mem_of_getElem? hi
theorem inwX2 : u_ws RX2 TX2 9 = ([172, 174, 176, 178, 180, 182, 184, 186, 188] : List Nat).filterMap (fun i => lw_tbl[i]?) := by decide +kernel
theorem inlX2 : ∀ w ∈ u_ws RX2 TX2 9, w ∈ lw_tbl := fun w h => by rw [inwX2] at h; obtain ⟨i, -, hi⟩ := List.mem_filterMap.mp h; exact List.mem_of_getElem? hi
theorem inwX3 : u_ws RX3 TX3 13 = ([506, 508, 510, 512, 514, 516, 518, 520, 522, 524, 526, 528, 530] : List Nat).filterMap (fun i => lw_tbl[i]?) := by decide +kernel
theorem inlX3 : ∀ w ∈ u_ws RX3 TX3 13, w ∈ lw_tbl := fun w h => by rw [inwX3] at h; obtain ⟨i, -, hi⟩ := List.mem_filterMap.mp h; exact List.mem_of_getElem? hi
def FLk : List (String × Nat × Nat × Nat) := [(RX2, 10, 2, 0), (RX2, 16, 2, 1), (RX2, 19, 2, 2), (RX2, 26, 2, 3), (RX2, 41, 0, 0), (RX2, 53, 0, 5), (RX2, 57, 0, 6), (RX2, 68, 0, 1), (RX2, 71, 0, 11), (RX2, 75, 0, 2), (RX2, 84, 0, 8), (RX2, 90, 0, 4), (RX2, 100, 0, 12), (RX2, 106, 0, 10), (RX2, 109, 0, 9), (RX2, 139, 1, 2), (RX2, 145, 1, 3), (RX2, 148, 1, 1), (RX2, 155, 2, 4), (RX2, 158, 2, 5), (RX2, 165, 2, 6), (RX2, 168, 2, 7), (RX2, 171, 2, 8), (RX2, 174, 0, 3), (RX0, 11, 0, 5), (RX0, 15, 0, 6), (RX0, 18, 0, 7), (RX0, 21, 0, 8), (RX0, 24, 0, 9), (RX0, 27, 0, 10), (RX0, 30, 0, 11), (RX0, 33, 0, 12), (RX0, 40, 0, 0), (RX0, 44, 0, 1), (RX0, 47, 0, 2), (RX0, 50, 0, 3), (RX0, 53, 0, 4), (RX1, 11, 1, 0), (RX1, 15, 1, 1), (RX1, 18, 1, 2), (RX1, 22, 1, 4), (RX1, 25, 1, 5), (RX1, 28, 1, 6), (RX1, 31, 1, 3), (RX3, 7, 3, 0), (RX3, 13, 3, 1), (RX3, 16, 3, 2), (RX3, 19, 3, 4), (RX3, 22, 3, 8), (RX3, 29, 3, 10), (RX3, 33, 3, 11), (RX3, 44, 3, 3), (RX3, 95, 3, 12), (RX3, 120, 3, 5), (RX3, 123, 3, 6), (RX3, 126, 3, 7), (RX3, 138, 3, 9)]
def FLw : List Nat := [163, 164, 165, 166, 78, 89, 91, 81, 100, 83, 94, 87, 102, 98, 96, 142, 144, 140, 167, 168, 169, 170, 171, 85, 88, 90, 92, 93, 95, 97, 99, 101, 79, 80, 82, 84, 86, 138, 139, 141, 145, 146, 147, 143, 493, 494, 495, 497, 501, 503, 504, 496, 505, 498, 499, 500, 502]
def CIk : List (String × Nat × Nat) := [(RX2, 74, 999999), (RX2, 125, 1000000), (RX0, 110, 65536), (RX3, 62, 999999), (RX3, 79, 65536)]
def CIw : List Nat := [242, 381, 293, 579, 627]
def CLk : List (String × Nat × Nat) := [(RX2, 177, 2129), (RX2, 179, 31), (RX0, 101, 1103515245), (RX0, 103, 12345), (RX0, 105, 2147483648), (RX0, 144, 31), (RX3, 70, 1103515245), (RX3, 72, 12345), (RX3, 74, 2147483648), (RX3, 150, 2129), (RX3, 152, 31)]
def CLw : List Nat := [467, 468, 290, 291, 292, 474, 624, 625, 626, 739, 740]
end
section
/-! A small machine over worlds of fixed cells: what its steps are; why each of them is a walk of the JVM's -/
abbrev MEn : Type := Instr × Nat × Nat × Nat
abbrev MMe : Type := List va_E
abbrev MSt : Type := Nat × List MEn × List (Option Value) × List Value × MMe
abbrev MB : Type := MethodName × ByteArray × Nat × Option FieldType × List (Nat × List MEn)
def mC (n : Int) : Int32 := match n with
  | .ofNat k => nI k
  | .negSucc k => -nI (k + 1)
/-- an index within, as a Bool -/
def inb (i : Int32) (n : Nat) : Bool := !(decide (i < 0)) && Nat.blt i.toNatClampNeg n
def mT (TL : List (Nat × List MEn)) (pc : Nat) : List MEn := (TL.lookup pc).getD []
def mSw (x : Int32) : List (Int32 × Nat) → Nat → Nat
  | [], d => d
  | (v, t) :: r, d => if x = v then t else mSw x r d
def mTs (pc : Nat) (lo : Int) : List Int → List (Int32 × Nat)
  | [] => []
  | o :: os => (mC lo, ((pc : Int) + o).toNat) :: mTs pc (lo + 1) os
def mLs (pc : Nat) : List (Int × Int) → List (Int32 × Nat)
  | [] => []
  | (k, o) :: os => (mC k, ((pc : Int) + o).toNat) :: mLs pc os
def mLng : Option (Option Value) → Bool
  | some (some (.long _)) => true
  | some (some (.double _)) => true
  | _ => false
def mS0 (l : List (Option Value)) : Nat → Bool
  | 0 => true
  | j + 1 => !mLng l[j]?
def mEx (TL : List (Nat × List MEn)) (pc : Nat) (i : Instr) (n a b : Nat) (r : List MEn) (l : List (Option Value)) (st : List Value) (μ : MMe) : Option MSt :=
  match i with
  | .iconst k => some (pc + n, r, l, .int (mC k) :: st, μ)
  | .bipush k => some (pc + n, r, l, .int (mC k) :: st, μ)
  | .sipush k => some (pc + n, r, l, .int (mC k) :: st, μ)
  | .ldc _ => some (pc + n, r, l, .int (nI a) :: st, μ)
  | .ldc2_w _ => some (pc + n, r, l, .long (lN a) :: st, μ)
  | .iload_n k => match l[(k : Nat)]? with
    | some (some (.int x)) => some (pc + n, r, l, .int x :: st, μ)
    | _ => none
  | .iload k => match l[k]? with
    | some (some (.int x)) => some (pc + n, r, l, .int x :: st, μ)
    | _ => none
  | .lload_n k => match l[(k : Nat)]? with
    | some (some (.long x)) => some (pc + n, r, l, .long x :: st, μ)
    | _ => none
  | .lload k => match l[k]? with
    | some (some (.long x)) => some (pc + n, r, l, .long x :: st, μ)
    | _ => none
  | .aload_n k => match l[(k : Nat)]? with
    | some (some (.ref x)) => some (pc + n, r, l, .ref x :: st, μ)
    | _ => none
  | .aload k => match l[k]? with
    | some (some (.ref x)) => some (pc + n, r, l, .ref x :: st, μ)
    | _ => none
  | .istore_n k => match st with
    | .int x :: s => if Nat.blt (k : Nat) l.length && mS0 l (k : Nat) then some (pc + n, r, l.set (k : Nat) (some (.int x)), s, μ) else none
    | _ => none
  | .istore k => match st with
    | .int x :: s => if Nat.blt k l.length && mS0 l k then some (pc + n, r, l.set k (some (.int x)), s, μ) else none
    | _ => none
  | .astore_n k => match st with
    | .ref x :: s => if Nat.blt (k : Nat) l.length && mS0 l (k : Nat) then some (pc + n, r, l.set (k : Nat) (some (.ref x)), s, μ) else none
    | _ => none
  | .astore k => match st with
    | .ref x :: s => if Nat.blt k l.length && mS0 l k then some (pc + n, r, l.set k (some (.ref x)), s, μ) else none
    | _ => none
  | .lstore_n k => match st with
    | .long x :: s => if Nat.blt ((k : Nat) + 1) l.length && mS0 l (k : Nat) then some (pc + n, r, (l.set (k : Nat) (some (.long x))).set ((k : Nat) + 1) none, s, μ) else none
    | _ => none
  | .lstore k => match st with
    | .long x :: s => if Nat.blt (k + 1) l.length && mS0 l k then some (pc + n, r, (l.set k (some (.long x))).set (k + 1) none, s, μ) else none
    | _ => none
  | .iinc k c => match l[k]? with
    | some (some (.int x)) => if Nat.blt k l.length && mS0 l k then some (pc + n, r, l.set k (some (.int (x + mC c))), st, μ) else none
    | _ => none
  | .iadd => match st with
    | .int y :: .int x :: s => some (pc + n, r, l, .int (x + y) :: s, μ)
    | _ => none
  | .isub => match st with
    | .int y :: .int x :: s => some (pc + n, r, l, .int (x - y) :: s, μ)
    | _ => none
  | .imul => match st with
    | .int y :: .int x :: s => some (pc + n, r, l, .int (x * y) :: s, μ)
    | _ => none
  | .iand => match st with
    | .int y :: .int x :: s => some (pc + n, r, l, .int (x &&& y) :: s, μ)
    | _ => none
  | .ixor => match st with
    | .int y :: .int x :: s => some (pc + n, r, l, .int (x ^^^ y) :: s, μ)
    | _ => none
  | .ineg => match st with
    | .int x :: s => some (pc + n, r, l, .int (-x) :: s, μ)
    | _ => none
  | .idiv => match st with
    | .int y :: .int x :: s => if ¬ y = nI 0 then some (pc + n, r, l, .int (x / y) :: s, μ) else none
    | _ => none
  | .irem => match st with
    | .int y :: .int x :: s => if ¬ y = nI 0 then some (pc + n, r, l, .int (x - x / y * y) :: s, μ) else none
    | _ => none
  | .ladd => match st with
    | .long y :: .long x :: s => some (pc + n, r, l, .long (x + y) :: s, μ)
    | _ => none
  | .lmul => match st with
    | .long y :: .long x :: s => some (pc + n, r, l, .long (x * y) :: s, μ)
    | _ => none
  | .lrem => match st with
    | .long y :: .long x :: s => if ¬ y = 0 then some (pc + n, r, l, .long (x - x / y * y) :: s, μ) else none
    | _ => none
  | .lcmp => match st with
    | .long y :: .long x :: s => some (pc + n, r, l, .int (lg_cmp x y) :: s, μ)
    | _ => none
  | .i2l => match st with
    | .int x :: s => some (pc + n, r, l, .long x.toInt64 :: s, μ)
    | _ => none
  | .l2i => match st with
    | .long x :: s => some (pc + n, r, l, .int x.toInt32 :: s, μ)
    | _ => none
  | .dup => match st with
    | .int x :: s => some (pc + n, r, l, .int x :: .int x :: s, μ)
    | .ref x :: s => some (pc + n, r, l, .ref x :: .ref x :: s, μ)
    | _ => none
  | .dup2 => match st with
    | .int x :: .ref y :: s => some (pc + n, r, l, .int x :: .ref y :: .int x :: .ref y :: s, μ)
    | _ => none
  | .pop => match st with
    | .int _ :: s => some (pc + n, r, l, s, μ)
    | _ => none
  | .goto _ => some (a, [], l, st, μ)
  | .ifCond c _ => match st with
    | .int x :: s => (match c with
      | .eq => some (if x = nI 0 then (a, [], l, s, μ) else (pc + n, r, l, s, μ))
      | .ne => some (if ¬ x = nI 0 then (a, [], l, s, μ) else (pc + n, r, l, s, μ))
      | .lt => some (if x < nI 0 then (a, [], l, s, μ) else (pc + n, r, l, s, μ))
      | .ge => some (if nI 0 ≤ x then (a, [], l, s, μ) else (pc + n, r, l, s, μ))
      | .gt => some (if nI 0 < x then (a, [], l, s, μ) else (pc + n, r, l, s, μ))
      | .le => some (if x ≤ nI 0 then (a, [], l, s, μ) else (pc + n, r, l, s, μ)))
    | _ => none
  | .if_icmp c _ => match st with
    | .int y :: .int x :: s => (match c with
      | .eq => some (if x = y then (a, [], l, s, μ) else (pc + n, r, l, s, μ))
      | .ne => some (if ¬ x = y then (a, [], l, s, μ) else (pc + n, r, l, s, μ))
      | .lt => some (if x < y then (a, [], l, s, μ) else (pc + n, r, l, s, μ))
      | .ge => some (if y ≤ x then (a, [], l, s, μ) else (pc + n, r, l, s, μ))
      | .gt => some (if y < x then (a, [], l, s, μ) else (pc + n, r, l, s, μ))
      | .le => some (if x ≤ y then (a, [], l, s, μ) else (pc + n, r, l, s, μ)))
    | _ => none
  | .tableswitch d lo _ offs => match st with
    | .int x :: s => (fun t => some (t, [], l, s, μ)) (mSw x (mTs pc lo offs.toList) ((pc : Int) + d).toNat)
    | _ => none
  | .lookupswitch d ps => match st with
    | .int x :: s => (fun t => some (t, [], l, s, μ)) (mSw x (mLs pc ps.toList) ((pc : Int) + d).toNat)
    | _ => none
  | .getfield _ => match st with
    | .ref h :: s => (match μ[h]? with
      | some (.inr (ci, fs)) => if Nat.beq ci a then (match fs[b]? with
        | some v => some (pc + n, r, l, v :: s, μ)
        | none => none) else none
      | _ => none)
    | _ => none
  | .putfield _ => match st with
    | .int v :: .ref h :: s => (match μ[h]? with
      | some (.inr (ci, fs)) => if Nat.beq ci a && Nat.blt b fs.length then some (pc + n, r, l, s, μ.set h (.inr (ci, fs.set b (.int v)))) else none
      | _ => none)
    | _ => none
  | .iaload => match st with
    | .int i :: .ref h :: s => (match μ[h]? with
      | some (.inl (0, z, .inl f)) => if inb i z = true then some (pc + n, r, l, .int (f i.toNatClampNeg) :: s, μ) else none
      | _ => none)
    | _ => none
  | .iastore => match st with
    | .int x :: .int i :: .ref h :: s => (match μ[h]? with
      | some (.inl (0, z, .inl f)) => if inb i z = true then some (pc + n, r, l, s, μ.set h (.inl (0, z, .inl (upd f i.toNatClampNeg x)))) else none
      | _ => none)
    | _ => none
  | .aaload => match st with
    | .int i :: .ref h :: s => (match μ[h]? with
      | some (.inl (1, z, .inr (.inr (.inr (.inr g))))) => if inb i z = true then some (pc + n, r, l, va_rf (g i.toNatClampNeg) :: s, μ) else none
      | _ => none)
    | _ => none
  | .arraylength => match st with
    | .ref h :: s => (match μ[h]? with
      | some (.inl (0, z, _)) => some (pc + n, r, l, .int (nI z) :: s, μ)
      | _ => none)
    | _ => none
  | _ => none
def mStp (TL : List (Nat × List MEn)) (S : MSt) : Option MSt := match S with
  | (pc, [], l, st, μ) => (match TL.lookup pc with
    | some (e :: r) => some (pc, e :: r, l, st, μ)
    | _ => none)
  | (pc, (i, n, a, b) :: r, l, st, μ) => mEx TL pc i n a b r l st μ
def mStps (TL : List (Nat × List MEn)) : Nat → MSt → Option MSt
  | 0, S => some S
  | 1, S => mStp TL S
  | k + 2, S => (mStp TL S).bind (mStps TL (k + 1))
/-! the table of a method is what its bytes say -/
def mOpd (own : String) (pc : Nat) (i : Instr) (n a b : Nat) : Bool := match i with
  | .iconst _ => Nat.beq n 1
  | .bipush k => Nat.beq n 2 && decide ((Int8.ofInt k).toInt32 = mC k)
  | .sipush k => Nat.beq n 3 && decide ((Int16.ofInt k).toInt32 = mC k)
  | .ldc idx => Nat.beq n 2 && decide ((own, idx, a) ∈ CIk)
  | .ldc2_w idx => Nat.beq n 3 && decide ((own, idx, a) ∈ CLk)
  | .goto off => Nat.beq n 3 && decide ((pc : Int) + off = (a : Int))
  | .ifCond _ off => Nat.beq n 3 && decide ((pc : Int) + off = (a : Int))
  | .if_icmp _ off => Nat.beq n 3 && decide ((pc : Int) + off = (a : Int))
  | .tableswitch d lo hi offs => decide (0 ≤ (pc : Int) + d) && decide (0 ≤ lo) && decide (hi < 1000) && decide ((offs.size : Int) = hi - lo + 1) && offs.toList.all (fun o => decide (0 ≤ (pc : Int) + o))
  | .lookupswitch d ps => decide (0 ≤ (pc : Int) + d) && (ps.toList.zip (ps.toList.drop 1)).all (fun (a, next) => a.1 < next.1) && ps.toList.all (fun q => decide (0 ≤ q.1) && decide (q.1 < 1000) && decide (0 ≤ (pc : Int) + q.2))
  | .getfield idx => Nat.beq n 3 && decide ((own, idx, a, b) ∈ FLk)
  | .putfield idx => Nat.beq n 3 && decide ((own, idx, a, b) ∈ FLk) && (match cls_[a]? with
    | some (_, T, _) => decide ((T b).2.2.1 = "I") && !(T b).2.2.2
    | none => false)
  | .iinc _ c => Nat.beq n 3 && decide (Int32.ofInt c = mC c)
  | .iload_n _ | .lload_n _ | .aload_n _ | .istore_n _ | .lstore_n _ | .astore_n _ => Nat.beq n 1
  | .iload _ | .lload _ | .aload _ | .istore _ | .lstore _ | .astore _ => Nat.beq n 2
  | .iadd | .isub | .imul | .iand | .ixor | .ineg | .idiv | .irem | .ladd | .lmul | .lrem | .lcmp | .i2l | .l2i | .dup | .dup2 | .pop | .iaload | .iastore | .aaload | .arraylength => Nat.beq n 1
  | .ireturn | .lreturn | .return_ => Nat.beq n 1
  | .invokevirtual _ | .invokestatic _ => Nat.beq n 3
  | _ => false
def mChk (own : String) (bytes : ByteArray) : Nat → List MEn → Bool
  | _, [] => true
  | pc, (i, n, a, b) :: r => (match decode bytes pc with
    | .ok (i', n') => decide (i' = i) && Nat.beq n' n
    | _ => false) && (mOpd own pc i n a b && mChk own bytes (pc + n) r)
def mOk (M : MB) : Prop := ∀ q ∈ M.2.2.2.2, mChk M.1.cls M.2.1 q.1 q.2 = true
theorem mOk.of {M : MB} (h : M.2.2.2.2.all (fun q => mChk M.1.cls M.2.1 q.1 q.2) = true) : mOk M := fun q hq => List.all_eq_true.mp h q hq
theorem mLook {α : Type} {TL : List (Nat × α)} {pc : Nat} {r : α} (h : TL.lookup pc = some r) : (pc, r) ∈ TL := by
  induction TL with
  | nil => cases h
  | cons q t ih =>
    obtain ⟨k, v⟩ := q
    rw [List.lookup_cons] at h
    by_cases hk : pc = k
    · subst hk
      simp at h
      subst h
      exact List.mem_cons_self
    · rw [show (pc == k) = false from by simpa using hk] at h
      exact List.mem_cons_of_mem _ (ih h)
theorem mOk.at {M : MB} (h : mOk M) (pc : Nat) : mChk M.1.cls M.2.1 pc (mT M.2.2.2.2 pc) = true := by
  unfold mT
  cases hl : List.lookup pc M.2.2.2.2 with
  | none => rfl
  | some r => exact h _ (mLook hl)
theorem mChk.head {own : String} {bytes : ByteArray} {pc n a b : Nat} {i : Instr} {r : List MEn} (h : mChk own bytes pc ((i, n, a, b) :: r) = true) : decode bytes pc = .ok (i, n) ∧ mOpd own pc i n a b = true ∧ mChk own bytes (pc + n) r = true := by
  unfold mChk at h
  cases hd : decode bytes pc with
  | error e => rw [hd] at h; simp at h
  | ok q =>
    obtain ⟨i', n'⟩ := q
    rw [hd] at h
    simp only [Bool.and_eq_true, decide_eq_true_eq, Nat.beq_eq] at h
    obtain ⟨⟨rfl, rfl⟩, h2, h3⟩ := h
    exact ⟨rfl, h2, h3⟩
/-! the tables' words -/
theorem FL_all : (FLk.zip FLw).all (fun q => match cls_[q.1.2.2.1]? with
    | some (_, T, N) => decide (q.1.2.2.2 < N) && decide (lw_tbl[q.2]? = some (.fieldLink q.1.1 q.1.2.1 (T q.1.2.2.2).1 (T q.1.2.2.2).2.1 (T q.1.2.2.2).2.2.1))
    | none => false) = true := by decide +kernel
theorem FL_len : FLk.length ≤ FLw.length := by decide +kernel
theorem m_zip {α β : Type} {P : α × β → Bool} {l : List α} {w : List β} (hl : l.length ≤ w.length) (h : (l.zip w).all P = true) {q : α} (hq : q ∈ l) : ∃ b, P (q, b) = true := by
  obtain ⟨i, hi, rfl⟩ := List.mem_iff_getElem.mp hq
  refine ⟨w[i], List.all_eq_true.mp h _ ?_⟩
  have : (l.zip w)[i]? = some (l[i], w[i]) := by
    rw [List.getElem?_eq_getElem (by rw [List.length_zip]; omega)]
    simp
  exact List.mem_of_getElem? this
theorem FL_ok {own : String} {idx ci k : Nat} (h : (own, idx, ci, k) ∈ FLk) : ∃ C T N, cls_[ci]? = some (C, T, N) ∧ k < N ∧ Cond.fieldLink own idx (T k).1 (T k).2.1 (T k).2.2.1 ∈ lw_tbl := by
  obtain ⟨w, hw⟩ := m_zip FL_len FL_all h
  dsimp only at hw
  cases hc : cls_[ci]? with
  | none => rw [hc] at hw; cases hw
  | some q =>
    obtain ⟨C, T, N⟩ := q
    rw [hc] at hw
    simp only [Bool.and_eq_true, decide_eq_true_eq] at hw
    exact ⟨C, T, N, rfl, hw.1, List.mem_of_getElem? hw.2⟩
theorem CI_all : (CIk.zip CIw).all (fun q => decide (lw_tbl[q.2]? = some (.constant q.1.1 q.1.2.1 (nI q.1.2.2)))) = true := by decide +kernel
theorem CI_ok {own : String} {idx a : Nat} (h : (own, idx, a) ∈ CIk) : Cond.constant own idx (nI a) ∈ lw_tbl := by
  obtain ⟨w, hw⟩ := m_zip (by decide +kernel) CI_all h
  exact List.mem_of_getElem? (of_decide_eq_true hw)
theorem CL_all : (CLk.zip CLw).all (fun q => decide (lw_tbl[q.2]? = some (.constantLong q.1.1 q.1.2.1 (lN q.1.2.2)))) = true := by decide +kernel
theorem CL_ok {own : String} {idx a : Nat} (h : (own, idx, a) ∈ CLk) : Cond.constantLong own idx (lN a) ∈ lw_tbl := by
  obtain ⟨w, hw⟩ := m_zip (by decide +kernel) CL_all h
  exact List.mem_of_getElem? (of_decide_eq_true hw)
theorem m_cls {ci : Nat} {C : String} {T : u_T} {N : Nat} (h : cls_[ci]? = some (C, T, N)) : (∀ w ∈ u_ws C T N, w ∈ lw_tbl) ∧ (∃ ty : Nat → FieldType, ∀ k, k < N → parseFieldDescriptor (T k).2.2.1 = some (ty k)) ∧ (∀ a, a < N → ∀ b, b < N → a ≠ b → (T a).2.1 ≠ (T b).2.1) := by
  match ci, h with
  | 0, h => cases h; exact ⟨inlX0, ⟨_, tyX0_ok⟩, nmX0⟩
  | 1, h => cases h; exact ⟨inlX1, ⟨_, tyX1_ok⟩, nmX1⟩
  | 2, h => cases h; exact ⟨inlX2, ⟨_, tyX2_ok⟩, nmX2⟩
  | 3, h => cases h; exact ⟨inlX3, ⟨_, tyX3_ok⟩, nmX3⟩
  | k + 4, h => simp [cls_] at h
def mTt : List Cond := lw_tbl.filter goodWord
theorem mTt_in {w : Cond} (h : w ∈ lw_tbl) (g : goodWord w = true) : w ∈ mTt := List.mem_filter.mpr ⟨h, g⟩
theorem mTt_good : GoodIn mTt mTt := fun w h => ⟨h, good_of_word (List.mem_filter.mp h).2⟩
theorem m_clsT {ci : Nat} {C : String} {T : u_T} {N : Nat} (h : cls_[ci]? = some (C, T, N)) : ∀ w ∈ u_ws C T N, w ∈ mTt := by
  intro w hw
  refine mTt_in ((m_cls h).1 w hw) ?_
  obtain ⟨k, -, rfl⟩ := List.mem_map.mp hw
  unfold u_lay
  by_cases hf : (T k).2.2.2 = true
  · rw [if_pos hf]; rfl
  · rw [if_neg hf]; rfl
end
section
/-! cells, values and worlds: places for addresses -/
def cV (σ : Nat → Nat) : Value → Value
  | .ref i => .ref (σ i)
  | v => v
def cE (σ : Nat → Nat) (tA : Nat → ClassId) : va_E → va_E
  | .inl (t, n, .inl f) => .inl (tA t, n, .inl f)
  | .inl (t, n, .inr (.inr (.inr (.inr g)))) => .inl (tA t, n, .inr (.inr (.inr (.inr (fun k => (g k).map σ)))))
  | .inl (t, x) => .inl (tA t, x)
  | .inr (ci, fs) => .inr (ci, fs.map (cV σ))
def mW (σ : Nat → Nat) (tA : Nat → ClassId) (μ : MMe) : va_W := μ.mapIdx (fun i c => (σ i, cE σ tA c))
theorem mW_at {σ : Nat → Nat} {tA : Nat → ClassId} {μ : MMe} {k : Nat} {c : va_E} (h : μ[k]? = some c) : (mW σ tA μ)[k]? = some (σ k, cE σ tA c) := by
  unfold mW
  rw [List.getElem?_mapIdx, h]
  rfl
theorem mW_set {σ : Nat → Nat} {tA : Nat → ClassId} {μ : MMe} {k : Nat} {c : va_E} : (mW σ tA μ).set k (σ k, cE σ tA c) = mW σ tA (μ.set k c) := by
  unfold mW
  rw [List.mapIdx_set]
def mTy (tA : Nat → ClassId) : List (ClassId × FieldType) := [(tA 0, .int), (tA 1, .object RX0)]
/-! locals -/
def mAs (l : List (Option Value)) : List (Nat × Value) := (List.range l.length).filterMap (fun i => (l[i]?.join).map (fun v => (i, v)))
theorem mAs_iff {l : List (Option Value)} {i : Nat} {v : Value} : (i, v) ∈ mAs l ↔ l[i]? = some (some v) := by
  unfold mAs
  rw [List.mem_filterMap]
  constructor
  · rintro ⟨j, hj, h⟩
    cases hl : l[j]? with
    | none => rw [hl] at h; simp at h
    | some o =>
      rw [hl] at h
      cases o with
      | none => simp at h
      | some w =>
        simp at h
        obtain ⟨rfl, rfl⟩ := h
        exact hl
  · intro h
    refine ⟨i, List.mem_range.mpr (List.getElem?_eq_some_iff.mp h).1, ?_⟩
    rw [h]
    rfl
def mL (ls : Array Slot) (nL : Nat) (l : List (Option Value)) : Prop := lv_has ls nL (mAs l) ∧ l.length = nL
theorem mL.get {ls : Array Slot} {nL : Nat} {l : List (Option Value)} {i : Nat} {v : Value} (h : mL ls nL l) (hi : l[i]? = some (some v)) : ls[i]? = some (.val v) := h.1.2.2 (i, v) (mAs_iff.mpr hi)
theorem mLng_cat {v : Value} (h : v.category = 2) : mLng (some (some v)) = true := by
  cases v <;> first | rfl | (simp [Value.category] at h)
theorem mL.set1 {ls : Array Slot} {nL : Nat} {l : List (Option Value)} {i : Nat} {v : Value} (hl : l.length = nL) (h0 : mS0 l i = true)
    (h : lv_has ls nL ((i, v) :: (mAs l).filter (fun q => !(q.1 == i) && !(q.1 + 1 == i && q.2.category == 2)))) : mL ls nL (l.set i (some v)) := by
  refine ⟨⟨h.1, h.2.1, fun q hq => ?_⟩, by rw [List.length_set]; exact hl⟩
  obtain ⟨j, w⟩ := q
  have hj := mAs_iff.mp hq
  by_cases e : j = i
  · subst e
    have hlt : j < l.length := by
      have := (List.getElem?_eq_some_iff.mp hj).1
      rwa [List.length_set] at this
    rw [List.getElem?_set_self hlt] at hj
    cases hj
    exact h.2.2 _ List.mem_cons_self
  · rw [List.getElem?_set_ne (fun z => e z.symm)] at hj
    refine h.2.2 _ (List.mem_cons_of_mem _ (List.mem_filter.mpr ⟨mAs_iff.mpr hj, ?_⟩))
    have e1 : (j == i) = false := by simpa using e
    simp only [e1, Bool.not_false, Bool.true_and, Bool.not_eq_true', Bool.and_eq_false_iff]
    by_cases e2 : j + 1 = i
    · right
      subst e2
      simp only [beq_eq_false_iff_ne, ne_eq]
      intro hc
      simp only [mS0, hj, mLng_cat hc] at h0
      cases h0
    · left
      simpa using e2
theorem mL.set2 {ls : Array Slot} {nL : Nat} {l : List (Option Value)} {i : Nat} {v : Value} (hl : l.length = nL) (h0 : mS0 l i = true)
    (h : lv_has ls nL ((i, v) :: (mAs l).filter (fun q => !(q.1 == i) && (!(q.1 == i + 1) && !(q.1 + 1 == i && q.2.category == 2))))) : mL ls nL ((l.set i (some v)).set (i + 1) none) := by
  refine ⟨⟨h.1, h.2.1, fun q hq => ?_⟩, by rw [List.length_set, List.length_set]; exact hl⟩
  obtain ⟨j, w⟩ := q
  have hj := mAs_iff.mp hq
  by_cases e3 : j = i + 1
  · subst e3
    have hlt : i + 1 < (l.set i (some v)).length := by
      have := (List.getElem?_eq_some_iff.mp hj).1
      rwa [List.length_set] at this
    rw [List.getElem?_set_self hlt] at hj
    cases hj
  rw [List.getElem?_set_ne (fun z => e3 z.symm)] at hj
  by_cases e : j = i
  · subst e
    have hlt : j < l.length := by
      have := (List.getElem?_eq_some_iff.mp hj).1
      rwa [List.length_set] at this
    rw [List.getElem?_set_self hlt] at hj
    cases hj
    exact h.2.2 _ List.mem_cons_self
  · rw [List.getElem?_set_ne (fun z => e z.symm)] at hj
    refine h.2.2 _ (List.mem_cons_of_mem _ (List.mem_filter.mpr ⟨mAs_iff.mpr hj, ?_⟩))
    have e1 : (j == i) = false := by simpa using e
    have e4 : (j == i + 1) = false := by simpa using e3
    simp only [e1, e4, Bool.not_false, Bool.true_and, Bool.not_eq_true', Bool.and_eq_false_iff]
    by_cases e2 : j + 1 = i
    · right
      subst e2
      simp only [beq_eq_false_iff_ne, ne_eq]
      intro hc
      simp only [mS0, hj, mLng_cat hc] at h0
      cases h0
    · left
      simpa using e2
def cL (σ : Nat → Nat) (l : List (Option Value)) : List (Option Value) := l.map (Option.map (cV σ))
theorem cL_at {σ : Nat → Nat} {l : List (Option Value)} {i : Nat} {v : Value} (h : l[i]? = some (some v)) : (cL σ l)[i]? = some (some (cV σ v)) := by
  unfold cL
  rw [List.getElem?_map, h]
  rfl
theorem cL_set {σ : Nat → Nat} {l : List (Option Value)} {i : Nat} {o : Option Value} : cL σ (l.set i o) = (cL σ l).set i (o.map (cV σ)) := by
  unfold cL
  rw [List.map_set]
theorem cL_lng {σ : Nat → Nat} {l : List (Option Value)} {i : Nat} : mLng (cL σ l)[i]? = mLng l[i]? := by
  unfold cL
  rw [List.getElem?_map]
  cases l[i]? with
  | none => rfl
  | some o =>
    cases o with
    | none => rfl
    | some v => cases v <;> rfl
theorem cL_s0 {σ : Nat → Nat} {l : List (Option Value)} {i : Nat} : mS0 (cL σ l) i = mS0 l i := by
  cases i with
  | zero => rfl
  | succ j => show (!mLng (cL σ l)[j]?) = !mLng l[j]?; rw [cL_lng]
theorem cL_len {σ : Nat → Nat} {l : List (Option Value)} : (cL σ l).length = l.length := by unfold cL; rw [List.length_map]
/-! numbers -/
theorem mC_ofInt {k : Int} (h : decide (Int32.ofInt k = mC k) = true) : Int32.ofInt k = mC k := of_decide_eq_true h
theorem mC_eq (k : Int) : Int32.ofInt k = mC k := by
  cases k with
  | ofNat n => show Int32.ofInt (n : Int) = Int32.ofNat n; exact Int32.ofInt_eq_ofNat
  | negSucc n =>
    show Int32.ofInt (Int.negSucc n) = -nI (n + 1)
    rw [show Int.negSucc n = -((n + 1 : Nat) : Int) from rfl, Int32.ofInt_neg]
    congr 1
theorem inb_in {i : Int32} {n : Nat} (h : inb i n = true) : vp_in i n := by
  unfold inb at h
  simp only [Bool.and_eq_true, Bool.not_eq_true', decide_eq_false_iff_not, Nat.blt_eq] at h
  rintro (h1 | h1)
  · exact h.1 h1
  · omega
theorem mSw_ts {x : Int32} {pc : Nat} {d : Nat} : ∀ (os : List Int) (lo : Int), 0 ≤ lo → lo + os.length ≤ 1000 →
    (mSw x (mTs pc lo os) d = if h : lo ≤ x.toInt ∧ x.toInt < lo + os.length then ((pc : Int) + os[(x.toInt - lo).toNat]'(by omega)).toNat else d) := by
  intro os
  induction os with
  | nil =>
    intro lo h1 h2
    rw [dif_neg (by rw [List.length_nil]; omega)]
    rfl
  | cons o os ih =>
    intro lo h1 h2
    have hl : lo + 1 + os.length ≤ 1000 := by
      rw [List.length_cons] at h2; omega
    have hlo : lo < 1000 := by omega
    show (if x = mC lo then _ else mSw x (mTs pc (lo + 1) os) d) = _
    obtain ⟨n, rfl⟩ := Int.eq_ofNat_of_zero_le h1
    have hn : (mC (n : Int)).toInt = (n : Int) := nI_toInt (by omega)
    by_cases hx : x = mC (n : Int)
    · subst hx
      rw [if_pos rfl, dif_pos (by rw [hn, List.length_cons]; omega)]
      have : ((mC (n : Int)).toInt - (n : Int)).toNat = 0 := by rw [hn]; omega
      simp only [this, List.getElem_cons_zero]
    · rw [if_neg hx, ih (n + 1) (by omega) hl]
      have hne : x.toInt ≠ n := fun q => hx (Int32.toInt_inj.mp (q.trans hn.symm))
      by_cases hc : (n : Int) + 1 ≤ x.toInt ∧ x.toInt < (n : Int) + 1 + os.length
      · rw [dif_pos hc, dif_pos (by rw [List.length_cons]; omega)]
        have : (x.toInt - (n : Int)).toNat = (x.toInt - ((n : Int) + 1)).toNat + 1 := by omega
        simp only [this, List.getElem_cons_succ]
      · rw [dif_neg hc, dif_neg (by rw [List.length_cons]; omega)]
theorem mSw_ls {x : Int32} {pc : Nat} {d : Int} : ∀ (ps : List (Int × Int)), ps.all (fun q => decide (0 ≤ q.1) && decide (q.1 < 1000) && decide (0 ≤ (pc : Int) + q.2)) = true →
    mSw x (mLs pc ps) ((pc : Int) + d).toNat = ((pc : Int) + Op.lookupswitch.offset ps d x.toInt).toNat := by
  intro ps
  induction ps with
  | nil => intro _; rfl
  | cons q ps ih =>
    intro h
    obtain ⟨k, o⟩ := q
    rw [List.all_cons] at h
    simp only [Bool.and_eq_true, decide_eq_true_eq] at h
    obtain ⟨⟨⟨h1, h2⟩, h3⟩, h4⟩ := h
    obtain ⟨n, rfl⟩ := Int.eq_ofNat_of_zero_le h1
    have hn : (mC (n : Int)).toInt = (n : Int) := nI_toInt (by omega)
    rw [Op.lookupswitch.offset_cons]
    show (if x = mC (n : Int) then _ else _) = _
    by_cases hx : x = mC (n : Int)
    · rw [if_pos hx, if_pos (by rw [hx, hn])]
    · rw [if_neg hx, if_neg (fun q => hx (Int32.toInt_inj.mp (q.symm.trans hn.symm)))]
      exact ih h4
/-! where a walk of a method's body stands -/
def mCx (M : MB) (d : Nat) (scr : Option (Nat × (Nat → Int32))) (p : Program) (R : Room) (s : State) (m : MethodId) (args : Array Value) (c : Code) (D : va_G) (σ : Nat → Nat) (tA : Nat → ClassId) (A : Nat → Prop) (H0 : Heap) : Prop :=
  p.tables.exec = Jvm.exec ∧ c.code = M.2.1 ∧ c.maxLocals = M.2.2.1 ∧ s.vm.findClass M.1.cls = some m.cls ∧ (∀ w ∈ mTt, w.before args s = true) ∧ va_K D cls_ (mTy tA) s ∧ (∀ q, H0.size ≤ q → A q) ∧ d ≤ R.frames ∧ 40 * d ≤ R.locals ∧ mOk M ∧
  ∀ L xs, scr = some (L, xs) → va_X (σ 1000000) L xs s H0 ∧ σ 1000000 < H0.size ∧ ¬ A (σ 1000000)
def mWk (M : MB) (p : Program) (l : Launch) (e : Env) (R : Room) (s : State) (m : MethodId) (args : Array Value) (below : List Frame) (meth : Method) (c : Code) (D : va_G) (σ : Nat → Nat) (tA : Nat → ClassId) (A : Nat → Prop) (H0 : Heap) (cells slots : Nat) (Q : State → Prop) (S : MSt) : Prop :=
  ∀ (H : Heap) (locs : List Loc) (ls : Array Slot), va_P D cls_ (mW σ tA S.2.2.2.2) H → va_D A (mW σ tA S.2.2.2.2) → va_S A H0 H locs → mL ls M.2.2.1 (cL σ S.2.2.1) → W p l e R s m args below meth c H locs cells slots Q (F0 m S.1 ls (S.2.2.2.1.map (cV σ)))
end
section
set_option maxHeartbeats 4000000 in
theorem mEx_iconst {M : MB} {d : Nat} {scr : Option (Nat × (Nat → Int32))} {p : Program} {l : Launch} {e : Env} {R : Room} {s : State} {m : MethodId} {args : Array Value} {below : List Frame} {meth : Method} {c : Code} {D : va_G} {σ : Nat → Nat} {tA : Nat → ClassId} {A : Nat → Prop} {H0 : Heap} {cells slots : Nat} {Q : State → Prop} (hC : mCx M d scr p R s m args c D σ tA A H0) {pc n a b : Nat} {v : Int} {r : List MEn} {z : List (Option Value)} {st : List Value} {μ : MMe} {S : MSt} (hk : mChk M.1.cls M.2.1 pc ((.iconst v, n, a, b) :: r) = true) (h : mEx M.2.2.2.2 pc (.iconst v) n a b r z st μ = some S) (k : mChk M.1.cls M.2.1 S.1 S.2.1 = true → mWk M p l e R s m args below meth c D σ tA A H0 cells slots Q S) : mWk M p l e R s m args below meth c D σ tA A H0 cells slots Q (pc, (.iconst v, n, a, b) :: r, z, st, μ) := by
  obtain ⟨hd, ho, hr⟩ := mChk.head hk
  intro H locs ls hP hD hS hL
  obtain ⟨hx, hb, hml, hown, hts, hK, hA, hfr, hlo, hok, hsc⟩ := hC
  show W p l e R s m args below meth c H locs cells slots Q (F0 m pc ls (st.map (cV σ)))
  replace hD : va_D A (mW σ tA μ) := hD
  replace hP : va_P D cls_ (mW σ tA μ) H := hP
  replace hL : mL ls M.2.2.1 (cL σ z) := hL
  simp only [mEx] at h
  simp only [mOpd, Bool.and_eq_true, Nat.beq_eq, decide_eq_true_eq] at ho
  subst ho
  cases h
  exact lv_iconst hx hb hd (mC_eq v) (k hr H locs ls hP hD hS hL)
set_option maxHeartbeats 4000000 in
theorem mEx_bipush {M : MB} {d : Nat} {scr : Option (Nat × (Nat → Int32))} {p : Program} {l : Launch} {e : Env} {R : Room} {s : State} {m : MethodId} {args : Array Value} {below : List Frame} {meth : Method} {c : Code} {D : va_G} {σ : Nat → Nat} {tA : Nat → ClassId} {A : Nat → Prop} {H0 : Heap} {cells slots : Nat} {Q : State → Prop} (hC : mCx M d scr p R s m args c D σ tA A H0) {pc n a b : Nat} {v : Int} {r : List MEn} {z : List (Option Value)} {st : List Value} {μ : MMe} {S : MSt} (hk : mChk M.1.cls M.2.1 pc ((.bipush v, n, a, b) :: r) = true) (h : mEx M.2.2.2.2 pc (.bipush v) n a b r z st μ = some S) (k : mChk M.1.cls M.2.1 S.1 S.2.1 = true → mWk M p l e R s m args below meth c D σ tA A H0 cells slots Q S) : mWk M p l e R s m args below meth c D σ tA A H0 cells slots Q (pc, (.bipush v, n, a, b) :: r, z, st, μ) := by
  obtain ⟨hd, ho, hr⟩ := mChk.head hk
  intro H locs ls hP hD hS hL
  obtain ⟨hx, hb, hml, hown, hts, hK, hA, hfr, hlo, hok, hsc⟩ := hC
  show W p l e R s m args below meth c H locs cells slots Q (F0 m pc ls (st.map (cV σ)))
  replace hD : va_D A (mW σ tA μ) := hD
  replace hP : va_P D cls_ (mW σ tA μ) H := hP
  replace hL : mL ls M.2.2.1 (cL σ z) := hL
  simp only [mEx] at h
  simp only [mOpd, Bool.and_eq_true, Nat.beq_eq, decide_eq_true_eq] at ho
  obtain ⟨rfl, ho⟩ := ho
  cases h
  exact lv_bipush hx hb hd ho (k hr H locs ls hP hD hS hL)
set_option maxHeartbeats 4000000 in
theorem mEx_sipush {M : MB} {d : Nat} {scr : Option (Nat × (Nat → Int32))} {p : Program} {l : Launch} {e : Env} {R : Room} {s : State} {m : MethodId} {args : Array Value} {below : List Frame} {meth : Method} {c : Code} {D : va_G} {σ : Nat → Nat} {tA : Nat → ClassId} {A : Nat → Prop} {H0 : Heap} {cells slots : Nat} {Q : State → Prop} (hC : mCx M d scr p R s m args c D σ tA A H0) {pc n a b : Nat} {v : Int} {r : List MEn} {z : List (Option Value)} {st : List Value} {μ : MMe} {S : MSt} (hk : mChk M.1.cls M.2.1 pc ((.sipush v, n, a, b) :: r) = true) (h : mEx M.2.2.2.2 pc (.sipush v) n a b r z st μ = some S) (k : mChk M.1.cls M.2.1 S.1 S.2.1 = true → mWk M p l e R s m args below meth c D σ tA A H0 cells slots Q S) : mWk M p l e R s m args below meth c D σ tA A H0 cells slots Q (pc, (.sipush v, n, a, b) :: r, z, st, μ) := by
  obtain ⟨hd, ho, hr⟩ := mChk.head hk
  intro H locs ls hP hD hS hL
  obtain ⟨hx, hb, hml, hown, hts, hK, hA, hfr, hlo, hok, hsc⟩ := hC
  show W p l e R s m args below meth c H locs cells slots Q (F0 m pc ls (st.map (cV σ)))
  replace hD : va_D A (mW σ tA μ) := hD
  replace hP : va_P D cls_ (mW σ tA μ) H := hP
  replace hL : mL ls M.2.2.1 (cL σ z) := hL
  simp only [mEx] at h
  simp only [mOpd, Bool.and_eq_true, Nat.beq_eq, decide_eq_true_eq] at ho
  obtain ⟨rfl, ho⟩ := ho
  cases h
  exact lv_sipush hx hb hd ho (k hr H locs ls hP hD hS hL)
set_option maxHeartbeats 4000000 in
theorem mEx_ldc {M : MB} {d : Nat} {scr : Option (Nat × (Nat → Int32))} {p : Program} {l : Launch} {e : Env} {R : Room} {s : State} {m : MethodId} {args : Array Value} {below : List Frame} {meth : Method} {c : Code} {D : va_G} {σ : Nat → Nat} {tA : Nat → ClassId} {A : Nat → Prop} {H0 : Heap} {cells slots : Nat} {Q : State → Prop} (hC : mCx M d scr p R s m args c D σ tA A H0) {pc n a b : Nat} {v : Nat} {r : List MEn} {z : List (Option Value)} {st : List Value} {μ : MMe} {S : MSt} (hk : mChk M.1.cls M.2.1 pc ((.ldc v, n, a, b) :: r) = true) (h : mEx M.2.2.2.2 pc (.ldc v) n a b r z st μ = some S) (k : mChk M.1.cls M.2.1 S.1 S.2.1 = true → mWk M p l e R s m args below meth c D σ tA A H0 cells slots Q S) : mWk M p l e R s m args below meth c D σ tA A H0 cells slots Q (pc, (.ldc v, n, a, b) :: r, z, st, μ) := by
  obtain ⟨hd, ho, hr⟩ := mChk.head hk
  intro H locs ls hP hD hS hL
  obtain ⟨hx, hb, hml, hown, hts, hK, hA, hfr, hlo, hok, hsc⟩ := hC
  show W p l e R s m args below meth c H locs cells slots Q (F0 m pc ls (st.map (cV σ)))
  replace hD : va_D A (mW σ tA μ) := hD
  replace hP : va_P D cls_ (mW σ tA μ) H := hP
  replace hL : mL ls M.2.2.1 (cL σ z) := hL
  simp only [mEx] at h
  simp only [mOpd, Bool.and_eq_true, Nat.beq_eq, decide_eq_true_eq] at ho
  obtain ⟨rfl, ho⟩ := ho
  cases h
  exact lv_ldc hx hb hown (hts _ (mTt_in (CI_ok ho) rfl)) hd (k hr H locs ls hP hD hS hL)
set_option maxHeartbeats 4000000 in
theorem mEx_ldc2 {M : MB} {d : Nat} {scr : Option (Nat × (Nat → Int32))} {p : Program} {l : Launch} {e : Env} {R : Room} {s : State} {m : MethodId} {args : Array Value} {below : List Frame} {meth : Method} {c : Code} {D : va_G} {σ : Nat → Nat} {tA : Nat → ClassId} {A : Nat → Prop} {H0 : Heap} {cells slots : Nat} {Q : State → Prop} (hC : mCx M d scr p R s m args c D σ tA A H0) {pc n a b : Nat} {v : Nat} {r : List MEn} {z : List (Option Value)} {st : List Value} {μ : MMe} {S : MSt} (hk : mChk M.1.cls M.2.1 pc ((.ldc2_w v, n, a, b) :: r) = true) (h : mEx M.2.2.2.2 pc (.ldc2_w v) n a b r z st μ = some S) (k : mChk M.1.cls M.2.1 S.1 S.2.1 = true → mWk M p l e R s m args below meth c D σ tA A H0 cells slots Q S) : mWk M p l e R s m args below meth c D σ tA A H0 cells slots Q (pc, (.ldc2_w v, n, a, b) :: r, z, st, μ) := by
  obtain ⟨hd, ho, hr⟩ := mChk.head hk
  intro H locs ls hP hD hS hL
  obtain ⟨hx, hb, hml, hown, hts, hK, hA, hfr, hlo, hok, hsc⟩ := hC
  show W p l e R s m args below meth c H locs cells slots Q (F0 m pc ls (st.map (cV σ)))
  replace hD : va_D A (mW σ tA μ) := hD
  replace hP : va_P D cls_ (mW σ tA μ) H := hP
  replace hL : mL ls M.2.2.1 (cL σ z) := hL
  simp only [mEx] at h
  simp only [mOpd, Bool.and_eq_true, Nat.beq_eq, decide_eq_true_eq] at ho
  obtain ⟨rfl, ho⟩ := ho
  cases h
  exact lv_ldc2 hx hb hown (hts _ (mTt_in (CL_ok ho) rfl)) hd (k hr H locs ls hP hD hS hL)
set_option maxHeartbeats 4000000 in
theorem mEx_iload_n {M : MB} {d : Nat} {scr : Option (Nat × (Nat → Int32))} {p : Program} {l : Launch} {e : Env} {R : Room} {s : State} {m : MethodId} {args : Array Value} {below : List Frame} {meth : Method} {c : Code} {D : va_G} {σ : Nat → Nat} {tA : Nat → ClassId} {A : Nat → Prop} {H0 : Heap} {cells slots : Nat} {Q : State → Prop} (hC : mCx M d scr p R s m args c D σ tA A H0) {pc n a b : Nat} {v : Fin 4} {r : List MEn} {z : List (Option Value)} {st : List Value} {μ : MMe} {S : MSt} (hk : mChk M.1.cls M.2.1 pc ((.iload_n v, n, a, b) :: r) = true) (h : mEx M.2.2.2.2 pc (.iload_n v) n a b r z st μ = some S) (k : mChk M.1.cls M.2.1 S.1 S.2.1 = true → mWk M p l e R s m args below meth c D σ tA A H0 cells slots Q S) : mWk M p l e R s m args below meth c D σ tA A H0 cells slots Q (pc, (.iload_n v, n, a, b) :: r, z, st, μ) := by
  obtain ⟨hd, ho, hr⟩ := mChk.head hk
  intro H locs ls hP hD hS hL
  obtain ⟨hx, hb, hml, hown, hts, hK, hA, hfr, hlo, hok, hsc⟩ := hC
  show W p l e R s m args below meth c H locs cells slots Q (F0 m pc ls (st.map (cV σ)))
  replace hD : va_D A (mW σ tA μ) := hD
  replace hP : va_P D cls_ (mW σ tA μ) H := hP
  replace hL : mL ls M.2.2.1 (cL σ z) := hL
  simp only [mEx] at h
  simp only [mOpd, Bool.and_eq_true, Nat.beq_eq, decide_eq_true_eq] at ho
  subst ho
  split at h
  rotate_left
  · cases h
  rename_i x hz
  cases h
  exact lv_iload_n hx hb hd rfl (hL.get (cL_at hz)) (k hr H locs ls hP hD hS hL)
set_option maxHeartbeats 4000000 in
theorem mEx_iload {M : MB} {d : Nat} {scr : Option (Nat × (Nat → Int32))} {p : Program} {l : Launch} {e : Env} {R : Room} {s : State} {m : MethodId} {args : Array Value} {below : List Frame} {meth : Method} {c : Code} {D : va_G} {σ : Nat → Nat} {tA : Nat → ClassId} {A : Nat → Prop} {H0 : Heap} {cells slots : Nat} {Q : State → Prop} (hC : mCx M d scr p R s m args c D σ tA A H0) {pc n a b : Nat} {v : Nat} {r : List MEn} {z : List (Option Value)} {st : List Value} {μ : MMe} {S : MSt} (hk : mChk M.1.cls M.2.1 pc ((.iload v, n, a, b) :: r) = true) (h : mEx M.2.2.2.2 pc (.iload v) n a b r z st μ = some S) (k : mChk M.1.cls M.2.1 S.1 S.2.1 = true → mWk M p l e R s m args below meth c D σ tA A H0 cells slots Q S) : mWk M p l e R s m args below meth c D σ tA A H0 cells slots Q (pc, (.iload v, n, a, b) :: r, z, st, μ) := by
  obtain ⟨hd, ho, hr⟩ := mChk.head hk
  intro H locs ls hP hD hS hL
  obtain ⟨hx, hb, hml, hown, hts, hK, hA, hfr, hlo, hok, hsc⟩ := hC
  show W p l e R s m args below meth c H locs cells slots Q (F0 m pc ls (st.map (cV σ)))
  replace hD : va_D A (mW σ tA μ) := hD
  replace hP : va_P D cls_ (mW σ tA μ) H := hP
  replace hL : mL ls M.2.2.1 (cL σ z) := hL
  simp only [mEx] at h
  simp only [mOpd, Bool.and_eq_true, Nat.beq_eq, decide_eq_true_eq] at ho
  subst ho
  split at h
  rotate_left
  · cases h
  rename_i x hz
  cases h
  exact lv_iload hx hb hd (hL.get (cL_at hz)) (k hr H locs ls hP hD hS hL)
set_option maxHeartbeats 4000000 in
theorem mEx_lload_n {M : MB} {d : Nat} {scr : Option (Nat × (Nat → Int32))} {p : Program} {l : Launch} {e : Env} {R : Room} {s : State} {m : MethodId} {args : Array Value} {below : List Frame} {meth : Method} {c : Code} {D : va_G} {σ : Nat → Nat} {tA : Nat → ClassId} {A : Nat → Prop} {H0 : Heap} {cells slots : Nat} {Q : State → Prop} (hC : mCx M d scr p R s m args c D σ tA A H0) {pc n a b : Nat} {v : Fin 4} {r : List MEn} {z : List (Option Value)} {st : List Value} {μ : MMe} {S : MSt} (hk : mChk M.1.cls M.2.1 pc ((.lload_n v, n, a, b) :: r) = true) (h : mEx M.2.2.2.2 pc (.lload_n v) n a b r z st μ = some S) (k : mChk M.1.cls M.2.1 S.1 S.2.1 = true → mWk M p l e R s m args below meth c D σ tA A H0 cells slots Q S) : mWk M p l e R s m args below meth c D σ tA A H0 cells slots Q (pc, (.lload_n v, n, a, b) :: r, z, st, μ) := by
  obtain ⟨hd, ho, hr⟩ := mChk.head hk
  intro H locs ls hP hD hS hL
  obtain ⟨hx, hb, hml, hown, hts, hK, hA, hfr, hlo, hok, hsc⟩ := hC
  show W p l e R s m args below meth c H locs cells slots Q (F0 m pc ls (st.map (cV σ)))
  replace hD : va_D A (mW σ tA μ) := hD
  replace hP : va_P D cls_ (mW σ tA μ) H := hP
  replace hL : mL ls M.2.2.1 (cL σ z) := hL
  simp only [mEx] at h
  simp only [mOpd, Bool.and_eq_true, Nat.beq_eq, decide_eq_true_eq] at ho
  subst ho
  split at h
  rotate_left
  · cases h
  rename_i x hz
  cases h
  exact lv_lload_n hx hb hd rfl (hL.get (cL_at hz)) (k hr H locs ls hP hD hS hL)
set_option maxHeartbeats 4000000 in
theorem mEx_lload {M : MB} {d : Nat} {scr : Option (Nat × (Nat → Int32))} {p : Program} {l : Launch} {e : Env} {R : Room} {s : State} {m : MethodId} {args : Array Value} {below : List Frame} {meth : Method} {c : Code} {D : va_G} {σ : Nat → Nat} {tA : Nat → ClassId} {A : Nat → Prop} {H0 : Heap} {cells slots : Nat} {Q : State → Prop} (hC : mCx M d scr p R s m args c D σ tA A H0) {pc n a b : Nat} {v : Nat} {r : List MEn} {z : List (Option Value)} {st : List Value} {μ : MMe} {S : MSt} (hk : mChk M.1.cls M.2.1 pc ((.lload v, n, a, b) :: r) = true) (h : mEx M.2.2.2.2 pc (.lload v) n a b r z st μ = some S) (k : mChk M.1.cls M.2.1 S.1 S.2.1 = true → mWk M p l e R s m args below meth c D σ tA A H0 cells slots Q S) : mWk M p l e R s m args below meth c D σ tA A H0 cells slots Q (pc, (.lload v, n, a, b) :: r, z, st, μ) := by
  obtain ⟨hd, ho, hr⟩ := mChk.head hk
  intro H locs ls hP hD hS hL
  obtain ⟨hx, hb, hml, hown, hts, hK, hA, hfr, hlo, hok, hsc⟩ := hC
  show W p l e R s m args below meth c H locs cells slots Q (F0 m pc ls (st.map (cV σ)))
  replace hD : va_D A (mW σ tA μ) := hD
  replace hP : va_P D cls_ (mW σ tA μ) H := hP
  replace hL : mL ls M.2.2.1 (cL σ z) := hL
  simp only [mEx] at h
  simp only [mOpd, Bool.and_eq_true, Nat.beq_eq, decide_eq_true_eq] at ho
  subst ho
  split at h
  rotate_left
  · cases h
  rename_i x hz
  cases h
  exact lv_lload hx hb hd (hL.get (cL_at hz)) (k hr H locs ls hP hD hS hL)
set_option maxHeartbeats 4000000 in
theorem mEx_aload_n {M : MB} {d : Nat} {scr : Option (Nat × (Nat → Int32))} {p : Program} {l : Launch} {e : Env} {R : Room} {s : State} {m : MethodId} {args : Array Value} {below : List Frame} {meth : Method} {c : Code} {D : va_G} {σ : Nat → Nat} {tA : Nat → ClassId} {A : Nat → Prop} {H0 : Heap} {cells slots : Nat} {Q : State → Prop} (hC : mCx M d scr p R s m args c D σ tA A H0) {pc n a b : Nat} {v : Fin 4} {r : List MEn} {z : List (Option Value)} {st : List Value} {μ : MMe} {S : MSt} (hk : mChk M.1.cls M.2.1 pc ((.aload_n v, n, a, b) :: r) = true) (h : mEx M.2.2.2.2 pc (.aload_n v) n a b r z st μ = some S) (k : mChk M.1.cls M.2.1 S.1 S.2.1 = true → mWk M p l e R s m args below meth c D σ tA A H0 cells slots Q S) : mWk M p l e R s m args below meth c D σ tA A H0 cells slots Q (pc, (.aload_n v, n, a, b) :: r, z, st, μ) := by
  obtain ⟨hd, ho, hr⟩ := mChk.head hk
  intro H locs ls hP hD hS hL
  obtain ⟨hx, hb, hml, hown, hts, hK, hA, hfr, hlo, hok, hsc⟩ := hC
  show W p l e R s m args below meth c H locs cells slots Q (F0 m pc ls (st.map (cV σ)))
  replace hD : va_D A (mW σ tA μ) := hD
  replace hP : va_P D cls_ (mW σ tA μ) H := hP
  replace hL : mL ls M.2.2.1 (cL σ z) := hL
  simp only [mEx] at h
  simp only [mOpd, Bool.and_eq_true, Nat.beq_eq, decide_eq_true_eq] at ho
  subst ho
  split at h
  rotate_left
  · cases h
  rename_i x hz
  cases h
  exact lv_aload_n hx hb hd rfl (hL.get (cL_at hz)) (k hr H locs ls hP hD hS hL)
set_option maxHeartbeats 4000000 in
theorem mEx_aload {M : MB} {d : Nat} {scr : Option (Nat × (Nat → Int32))} {p : Program} {l : Launch} {e : Env} {R : Room} {s : State} {m : MethodId} {args : Array Value} {below : List Frame} {meth : Method} {c : Code} {D : va_G} {σ : Nat → Nat} {tA : Nat → ClassId} {A : Nat → Prop} {H0 : Heap} {cells slots : Nat} {Q : State → Prop} (hC : mCx M d scr p R s m args c D σ tA A H0) {pc n a b : Nat} {v : Nat} {r : List MEn} {z : List (Option Value)} {st : List Value} {μ : MMe} {S : MSt} (hk : mChk M.1.cls M.2.1 pc ((.aload v, n, a, b) :: r) = true) (h : mEx M.2.2.2.2 pc (.aload v) n a b r z st μ = some S) (k : mChk M.1.cls M.2.1 S.1 S.2.1 = true → mWk M p l e R s m args below meth c D σ tA A H0 cells slots Q S) : mWk M p l e R s m args below meth c D σ tA A H0 cells slots Q (pc, (.aload v, n, a, b) :: r, z, st, μ) := by
  obtain ⟨hd, ho, hr⟩ := mChk.head hk
  intro H locs ls hP hD hS hL
  obtain ⟨hx, hb, hml, hown, hts, hK, hA, hfr, hlo, hok, hsc⟩ := hC
  show W p l e R s m args below meth c H locs cells slots Q (F0 m pc ls (st.map (cV σ)))
  replace hD : va_D A (mW σ tA μ) := hD
  replace hP : va_P D cls_ (mW σ tA μ) H := hP
  replace hL : mL ls M.2.2.1 (cL σ z) := hL
  simp only [mEx] at h
  simp only [mOpd, Bool.and_eq_true, Nat.beq_eq, decide_eq_true_eq] at ho
  subst ho
  split at h
  rotate_left
  · cases h
  rename_i x hz
  cases h
  exact lv_aload hx hb hd (hL.get (cL_at hz)) (k hr H locs ls hP hD hS hL)
set_option maxHeartbeats 4000000 in
theorem mEx_istore_n {M : MB} {d : Nat} {scr : Option (Nat × (Nat → Int32))} {p : Program} {l : Launch} {e : Env} {R : Room} {s : State} {m : MethodId} {args : Array Value} {below : List Frame} {meth : Method} {c : Code} {D : va_G} {σ : Nat → Nat} {tA : Nat → ClassId} {A : Nat → Prop} {H0 : Heap} {cells slots : Nat} {Q : State → Prop} (hC : mCx M d scr p R s m args c D σ tA A H0) {pc n a b : Nat} {v : Fin 4} {r : List MEn} {z : List (Option Value)} {st : List Value} {μ : MMe} {S : MSt} (hk : mChk M.1.cls M.2.1 pc ((.istore_n v, n, a, b) :: r) = true) (h : mEx M.2.2.2.2 pc (.istore_n v) n a b r z st μ = some S) (k : mChk M.1.cls M.2.1 S.1 S.2.1 = true → mWk M p l e R s m args below meth c D σ tA A H0 cells slots Q S) : mWk M p l e R s m args below meth c D σ tA A H0 cells slots Q (pc, (.istore_n v, n, a, b) :: r, z, st, μ) := by
  obtain ⟨hd, ho, hr⟩ := mChk.head hk
  intro H locs ls hP hD hS hL
  obtain ⟨hx, hb, hml, hown, hts, hK, hA, hfr, hlo, hok, hsc⟩ := hC
  show W p l e R s m args below meth c H locs cells slots Q (F0 m pc ls (st.map (cV σ)))
  replace hD : va_D A (mW σ tA μ) := hD
  replace hP : va_P D cls_ (mW σ tA μ) H := hP
  replace hL : mL ls M.2.2.1 (cL σ z) := hL
  simp only [mEx] at h
  simp only [mOpd, Bool.and_eq_true, Nat.beq_eq, decide_eq_true_eq] at ho
  subst ho
  split at h
  rotate_left
  · cases h
  rename_i x t
  split at h
  rotate_left
  · cases h
  rename_i hg
  simp only [Bool.and_eq_true, Nat.blt_eq] at hg
  cases h
  refine lv_istore_n hx hb hd rfl hL.1 (by rw [← hL.2, cL_len]; exact hg.1) rfl (fun ls' hls => ?_)
  exact k hr H locs ls' hP hD hS (by rw [cL_set]; exact mL.set1 (hL.2) (by rw [cL_s0]; exact hg.2) hls)
set_option maxHeartbeats 4000000 in
theorem mEx_istore {M : MB} {d : Nat} {scr : Option (Nat × (Nat → Int32))} {p : Program} {l : Launch} {e : Env} {R : Room} {s : State} {m : MethodId} {args : Array Value} {below : List Frame} {meth : Method} {c : Code} {D : va_G} {σ : Nat → Nat} {tA : Nat → ClassId} {A : Nat → Prop} {H0 : Heap} {cells slots : Nat} {Q : State → Prop} (hC : mCx M d scr p R s m args c D σ tA A H0) {pc n a b : Nat} {v : Nat} {r : List MEn} {z : List (Option Value)} {st : List Value} {μ : MMe} {S : MSt} (hk : mChk M.1.cls M.2.1 pc ((.istore v, n, a, b) :: r) = true) (h : mEx M.2.2.2.2 pc (.istore v) n a b r z st μ = some S) (k : mChk M.1.cls M.2.1 S.1 S.2.1 = true → mWk M p l e R s m args below meth c D σ tA A H0 cells slots Q S) : mWk M p l e R s m args below meth c D σ tA A H0 cells slots Q (pc, (.istore v, n, a, b) :: r, z, st, μ) := by
  obtain ⟨hd, ho, hr⟩ := mChk.head hk
  intro H locs ls hP hD hS hL
  obtain ⟨hx, hb, hml, hown, hts, hK, hA, hfr, hlo, hok, hsc⟩ := hC
  show W p l e R s m args below meth c H locs cells slots Q (F0 m pc ls (st.map (cV σ)))
  replace hD : va_D A (mW σ tA μ) := hD
  replace hP : va_P D cls_ (mW σ tA μ) H := hP
  replace hL : mL ls M.2.2.1 (cL σ z) := hL
  simp only [mEx] at h
  simp only [mOpd, Bool.and_eq_true, Nat.beq_eq, decide_eq_true_eq] at ho
  subst ho
  split at h
  rotate_left
  · cases h
  rename_i x t
  split at h
  rotate_left
  · cases h
  rename_i hg
  simp only [Bool.and_eq_true, Nat.blt_eq] at hg
  cases h
  refine lv_istore hx hb hd hL.1 (by rw [← hL.2, cL_len]; exact hg.1) rfl (fun ls' hls => ?_)
  exact k hr H locs ls' hP hD hS (by rw [cL_set]; exact mL.set1 (hL.2) (by rw [cL_s0]; exact hg.2) hls)
set_option maxHeartbeats 4000000 in
theorem mEx_astore_n {M : MB} {d : Nat} {scr : Option (Nat × (Nat → Int32))} {p : Program} {l : Launch} {e : Env} {R : Room} {s : State} {m : MethodId} {args : Array Value} {below : List Frame} {meth : Method} {c : Code} {D : va_G} {σ : Nat → Nat} {tA : Nat → ClassId} {A : Nat → Prop} {H0 : Heap} {cells slots : Nat} {Q : State → Prop} (hC : mCx M d scr p R s m args c D σ tA A H0) {pc n a b : Nat} {v : Fin 4} {r : List MEn} {z : List (Option Value)} {st : List Value} {μ : MMe} {S : MSt} (hk : mChk M.1.cls M.2.1 pc ((.astore_n v, n, a, b) :: r) = true) (h : mEx M.2.2.2.2 pc (.astore_n v) n a b r z st μ = some S) (k : mChk M.1.cls M.2.1 S.1 S.2.1 = true → mWk M p l e R s m args below meth c D σ tA A H0 cells slots Q S) : mWk M p l e R s m args below meth c D σ tA A H0 cells slots Q (pc, (.astore_n v, n, a, b) :: r, z, st, μ) := by
  obtain ⟨hd, ho, hr⟩ := mChk.head hk
  intro H locs ls hP hD hS hL
  obtain ⟨hx, hb, hml, hown, hts, hK, hA, hfr, hlo, hok, hsc⟩ := hC
  show W p l e R s m args below meth c H locs cells slots Q (F0 m pc ls (st.map (cV σ)))
  replace hD : va_D A (mW σ tA μ) := hD
  replace hP : va_P D cls_ (mW σ tA μ) H := hP
  replace hL : mL ls M.2.2.1 (cL σ z) := hL
  simp only [mEx] at h
  simp only [mOpd, Bool.and_eq_true, Nat.beq_eq, decide_eq_true_eq] at ho
  subst ho
  split at h
  rotate_left
  · cases h
  rename_i x t
  split at h
  rotate_left
  · cases h
  rename_i hg
  simp only [Bool.and_eq_true, Nat.blt_eq] at hg
  cases h
  refine lv_astore_n hx hb hd rfl hL.1 (by rw [← hL.2, cL_len]; exact hg.1) rfl (fun ls' hls => ?_)
  exact k hr H locs ls' hP hD hS (by rw [cL_set]; exact mL.set1 (hL.2) (by rw [cL_s0]; exact hg.2) hls)
set_option maxHeartbeats 4000000 in
theorem mEx_astore {M : MB} {d : Nat} {scr : Option (Nat × (Nat → Int32))} {p : Program} {l : Launch} {e : Env} {R : Room} {s : State} {m : MethodId} {args : Array Value} {below : List Frame} {meth : Method} {c : Code} {D : va_G} {σ : Nat → Nat} {tA : Nat → ClassId} {A : Nat → Prop} {H0 : Heap} {cells slots : Nat} {Q : State → Prop} (hC : mCx M d scr p R s m args c D σ tA A H0) {pc n a b : Nat} {v : Nat} {r : List MEn} {z : List (Option Value)} {st : List Value} {μ : MMe} {S : MSt} (hk : mChk M.1.cls M.2.1 pc ((.astore v, n, a, b) :: r) = true) (h : mEx M.2.2.2.2 pc (.astore v) n a b r z st μ = some S) (k : mChk M.1.cls M.2.1 S.1 S.2.1 = true → mWk M p l e R s m args below meth c D σ tA A H0 cells slots Q S) : mWk M p l e R s m args below meth c D σ tA A H0 cells slots Q (pc, (.astore v, n, a, b) :: r, z, st, μ) := by
  obtain ⟨hd, ho, hr⟩ := mChk.head hk
  intro H locs ls hP hD hS hL
  obtain ⟨hx, hb, hml, hown, hts, hK, hA, hfr, hlo, hok, hsc⟩ := hC
  show W p l e R s m args below meth c H locs cells slots Q (F0 m pc ls (st.map (cV σ)))
  replace hD : va_D A (mW σ tA μ) := hD
  replace hP : va_P D cls_ (mW σ tA μ) H := hP
  replace hL : mL ls M.2.2.1 (cL σ z) := hL
  simp only [mEx] at h
  simp only [mOpd, Bool.and_eq_true, Nat.beq_eq, decide_eq_true_eq] at ho
  subst ho
  split at h
  rotate_left
  · cases h
  rename_i x t
  split at h
  rotate_left
  · cases h
  rename_i hg
  simp only [Bool.and_eq_true, Nat.blt_eq] at hg
  cases h
  refine lv_astore hx hb hd hL.1 (by rw [← hL.2, cL_len]; exact hg.1) rfl (fun ls' hls => ?_)
  exact k hr H locs ls' hP hD hS (by rw [cL_set]; exact mL.set1 (hL.2) (by rw [cL_s0]; exact hg.2) hls)
set_option maxHeartbeats 4000000 in
theorem mEx_lstore_n {M : MB} {d : Nat} {scr : Option (Nat × (Nat → Int32))} {p : Program} {l : Launch} {e : Env} {R : Room} {s : State} {m : MethodId} {args : Array Value} {below : List Frame} {meth : Method} {c : Code} {D : va_G} {σ : Nat → Nat} {tA : Nat → ClassId} {A : Nat → Prop} {H0 : Heap} {cells slots : Nat} {Q : State → Prop} (hC : mCx M d scr p R s m args c D σ tA A H0) {pc n a b : Nat} {v : Fin 4} {r : List MEn} {z : List (Option Value)} {st : List Value} {μ : MMe} {S : MSt} (hk : mChk M.1.cls M.2.1 pc ((.lstore_n v, n, a, b) :: r) = true) (h : mEx M.2.2.2.2 pc (.lstore_n v) n a b r z st μ = some S) (k : mChk M.1.cls M.2.1 S.1 S.2.1 = true → mWk M p l e R s m args below meth c D σ tA A H0 cells slots Q S) : mWk M p l e R s m args below meth c D σ tA A H0 cells slots Q (pc, (.lstore_n v, n, a, b) :: r, z, st, μ) := by
  obtain ⟨hd, ho, hr⟩ := mChk.head hk
  intro H locs ls hP hD hS hL
  obtain ⟨hx, hb, hml, hown, hts, hK, hA, hfr, hlo, hok, hsc⟩ := hC
  show W p l e R s m args below meth c H locs cells slots Q (F0 m pc ls (st.map (cV σ)))
  replace hD : va_D A (mW σ tA μ) := hD
  replace hP : va_P D cls_ (mW σ tA μ) H := hP
  replace hL : mL ls M.2.2.1 (cL σ z) := hL
  simp only [mEx] at h
  simp only [mOpd, Bool.and_eq_true, Nat.beq_eq, decide_eq_true_eq] at ho
  subst ho
  split at h
  rotate_left
  · cases h
  rename_i x t
  split at h
  rotate_left
  · cases h
  rename_i hg
  simp only [Bool.and_eq_true, Nat.blt_eq] at hg
  cases h
  refine lv_lstore_n hx hb hd rfl hL.1 (by rw [← hL.2, cL_len]; exact hg.1) rfl (fun ls' hls => ?_)
  exact k hr H locs ls' hP hD hS (by rw [cL_set, cL_set]; exact mL.set2 (hL.2) (by rw [cL_s0]; exact hg.2) hls)
set_option maxHeartbeats 4000000 in
theorem mEx_lstore {M : MB} {d : Nat} {scr : Option (Nat × (Nat → Int32))} {p : Program} {l : Launch} {e : Env} {R : Room} {s : State} {m : MethodId} {args : Array Value} {below : List Frame} {meth : Method} {c : Code} {D : va_G} {σ : Nat → Nat} {tA : Nat → ClassId} {A : Nat → Prop} {H0 : Heap} {cells slots : Nat} {Q : State → Prop} (hC : mCx M d scr p R s m args c D σ tA A H0) {pc n a b : Nat} {v : Nat} {r : List MEn} {z : List (Option Value)} {st : List Value} {μ : MMe} {S : MSt} (hk : mChk M.1.cls M.2.1 pc ((.lstore v, n, a, b) :: r) = true) (h : mEx M.2.2.2.2 pc (.lstore v) n a b r z st μ = some S) (k : mChk M.1.cls M.2.1 S.1 S.2.1 = true → mWk M p l e R s m args below meth c D σ tA A H0 cells slots Q S) : mWk M p l e R s m args below meth c D σ tA A H0 cells slots Q (pc, (.lstore v, n, a, b) :: r, z, st, μ) := by
  obtain ⟨hd, ho, hr⟩ := mChk.head hk
  intro H locs ls hP hD hS hL
  obtain ⟨hx, hb, hml, hown, hts, hK, hA, hfr, hlo, hok, hsc⟩ := hC
  show W p l e R s m args below meth c H locs cells slots Q (F0 m pc ls (st.map (cV σ)))
  replace hD : va_D A (mW σ tA μ) := hD
  replace hP : va_P D cls_ (mW σ tA μ) H := hP
  replace hL : mL ls M.2.2.1 (cL σ z) := hL
  simp only [mEx] at h
  simp only [mOpd, Bool.and_eq_true, Nat.beq_eq, decide_eq_true_eq] at ho
  subst ho
  split at h
  rotate_left
  · cases h
  rename_i x t
  split at h
  rotate_left
  · cases h
  rename_i hg
  simp only [Bool.and_eq_true, Nat.blt_eq] at hg
  cases h
  refine lv_lstore hx hb hd hL.1 (by rw [← hL.2, cL_len]; exact hg.1) rfl (fun ls' hls => ?_)
  exact k hr H locs ls' hP hD hS (by rw [cL_set, cL_set]; exact mL.set2 (hL.2) (by rw [cL_s0]; exact hg.2) hls)
set_option maxHeartbeats 4000000 in
theorem mEx_iinc {M : MB} {d : Nat} {scr : Option (Nat × (Nat → Int32))} {p : Program} {l : Launch} {e : Env} {R : Room} {s : State} {m : MethodId} {args : Array Value} {below : List Frame} {meth : Method} {c : Code} {D : va_G} {σ : Nat → Nat} {tA : Nat → ClassId} {A : Nat → Prop} {H0 : Heap} {cells slots : Nat} {Q : State → Prop} (hC : mCx M d scr p R s m args c D σ tA A H0) {pc n a b : Nat} {v : Nat} {cc : Int} {r : List MEn} {z : List (Option Value)} {st : List Value} {μ : MMe} {S : MSt} (hk : mChk M.1.cls M.2.1 pc ((.iinc v cc, n, a, b) :: r) = true) (h : mEx M.2.2.2.2 pc (.iinc v cc) n a b r z st μ = some S) (k : mChk M.1.cls M.2.1 S.1 S.2.1 = true → mWk M p l e R s m args below meth c D σ tA A H0 cells slots Q S) : mWk M p l e R s m args below meth c D σ tA A H0 cells slots Q (pc, (.iinc v cc, n, a, b) :: r, z, st, μ) := by
  obtain ⟨hd, ho, hr⟩ := mChk.head hk
  intro H locs ls hP hD hS hL
  obtain ⟨hx, hb, hml, hown, hts, hK, hA, hfr, hlo, hok, hsc⟩ := hC
  show W p l e R s m args below meth c H locs cells slots Q (F0 m pc ls (st.map (cV σ)))
  replace hD : va_D A (mW σ tA μ) := hD
  replace hP : va_P D cls_ (mW σ tA μ) H := hP
  replace hL : mL ls M.2.2.1 (cL σ z) := hL
  simp only [mEx] at h
  simp only [mOpd, Bool.and_eq_true, Nat.beq_eq, decide_eq_true_eq] at ho
  obtain ⟨rfl, ho⟩ := ho
  split at h
  rotate_left
  · cases h
  rename_i x hz
  split at h
  rotate_left
  · cases h
  rename_i hg
  simp only [Bool.and_eq_true, Nat.blt_eq] at hg
  cases h
  obtain ⟨j, hj⟩ := List.getElem?_of_mem (mAs_iff.mpr (cL_at (σ := σ) hz))
  refine lv_iinc (v := x + mC cc) hx hb hd hL.1 (k := j) hj (by rw [ho]) (by rw [← hL.2, cL_len]; exact hg.1) rfl (fun ls' hls => ?_)
  exact k hr H locs ls' hP hD hS (by rw [cL_set]; exact mL.set1 (hL.2) (by rw [cL_s0]; exact hg.2) hls)
set_option maxHeartbeats 4000000 in
theorem mEx_iadd {M : MB} {d : Nat} {scr : Option (Nat × (Nat → Int32))} {p : Program} {l : Launch} {e : Env} {R : Room} {s : State} {m : MethodId} {args : Array Value} {below : List Frame} {meth : Method} {c : Code} {D : va_G} {σ : Nat → Nat} {tA : Nat → ClassId} {A : Nat → Prop} {H0 : Heap} {cells slots : Nat} {Q : State → Prop} (hC : mCx M d scr p R s m args c D σ tA A H0) {pc n a b : Nat} {r : List MEn} {z : List (Option Value)} {st : List Value} {μ : MMe} {S : MSt} (hk : mChk M.1.cls M.2.1 pc ((.iadd, n, a, b) :: r) = true) (h : mEx M.2.2.2.2 pc (.iadd) n a b r z st μ = some S) (k : mChk M.1.cls M.2.1 S.1 S.2.1 = true → mWk M p l e R s m args below meth c D σ tA A H0 cells slots Q S) : mWk M p l e R s m args below meth c D σ tA A H0 cells slots Q (pc, (.iadd, n, a, b) :: r, z, st, μ) := by
  obtain ⟨hd, ho, hr⟩ := mChk.head hk
  intro H locs ls hP hD hS hL
  obtain ⟨hx, hb, hml, hown, hts, hK, hA, hfr, hlo, hok, hsc⟩ := hC
  show W p l e R s m args below meth c H locs cells slots Q (F0 m pc ls (st.map (cV σ)))
  replace hD : va_D A (mW σ tA μ) := hD
  replace hP : va_P D cls_ (mW σ tA μ) H := hP
  replace hL : mL ls M.2.2.1 (cL σ z) := hL
  simp only [mEx] at h
  simp only [mOpd, Bool.and_eq_true, Nat.beq_eq, decide_eq_true_eq] at ho
  subst ho
  split at h
  rotate_left
  · cases h
  rename_i y x t
  cases h
  exact lv_iadd hx hb hd (k hr H locs ls hP hD hS hL)
set_option maxHeartbeats 4000000 in
theorem mEx_isub {M : MB} {d : Nat} {scr : Option (Nat × (Nat → Int32))} {p : Program} {l : Launch} {e : Env} {R : Room} {s : State} {m : MethodId} {args : Array Value} {below : List Frame} {meth : Method} {c : Code} {D : va_G} {σ : Nat → Nat} {tA : Nat → ClassId} {A : Nat → Prop} {H0 : Heap} {cells slots : Nat} {Q : State → Prop} (hC : mCx M d scr p R s m args c D σ tA A H0) {pc n a b : Nat} {r : List MEn} {z : List (Option Value)} {st : List Value} {μ : MMe} {S : MSt} (hk : mChk M.1.cls M.2.1 pc ((.isub, n, a, b) :: r) = true) (h : mEx M.2.2.2.2 pc (.isub) n a b r z st μ = some S) (k : mChk M.1.cls M.2.1 S.1 S.2.1 = true → mWk M p l e R s m args below meth c D σ tA A H0 cells slots Q S) : mWk M p l e R s m args below meth c D σ tA A H0 cells slots Q (pc, (.isub, n, a, b) :: r, z, st, μ) := by
  obtain ⟨hd, ho, hr⟩ := mChk.head hk
  intro H locs ls hP hD hS hL
  obtain ⟨hx, hb, hml, hown, hts, hK, hA, hfr, hlo, hok, hsc⟩ := hC
  show W p l e R s m args below meth c H locs cells slots Q (F0 m pc ls (st.map (cV σ)))
  replace hD : va_D A (mW σ tA μ) := hD
  replace hP : va_P D cls_ (mW σ tA μ) H := hP
  replace hL : mL ls M.2.2.1 (cL σ z) := hL
  simp only [mEx] at h
  simp only [mOpd, Bool.and_eq_true, Nat.beq_eq, decide_eq_true_eq] at ho
  subst ho
  split at h
  rotate_left
  · cases h
  rename_i y x t
  cases h
  exact lv_isub hx hb hd (k hr H locs ls hP hD hS hL)
set_option maxHeartbeats 4000000 in
theorem mEx_imul {M : MB} {d : Nat} {scr : Option (Nat × (Nat → Int32))} {p : Program} {l : Launch} {e : Env} {R : Room} {s : State} {m : MethodId} {args : Array Value} {below : List Frame} {meth : Method} {c : Code} {D : va_G} {σ : Nat → Nat} {tA : Nat → ClassId} {A : Nat → Prop} {H0 : Heap} {cells slots : Nat} {Q : State → Prop} (hC : mCx M d scr p R s m args c D σ tA A H0) {pc n a b : Nat} {r : List MEn} {z : List (Option Value)} {st : List Value} {μ : MMe} {S : MSt} (hk : mChk M.1.cls M.2.1 pc ((.imul, n, a, b) :: r) = true) (h : mEx M.2.2.2.2 pc (.imul) n a b r z st μ = some S) (k : mChk M.1.cls M.2.1 S.1 S.2.1 = true → mWk M p l e R s m args below meth c D σ tA A H0 cells slots Q S) : mWk M p l e R s m args below meth c D σ tA A H0 cells slots Q (pc, (.imul, n, a, b) :: r, z, st, μ) := by
  obtain ⟨hd, ho, hr⟩ := mChk.head hk
  intro H locs ls hP hD hS hL
  obtain ⟨hx, hb, hml, hown, hts, hK, hA, hfr, hlo, hok, hsc⟩ := hC
  show W p l e R s m args below meth c H locs cells slots Q (F0 m pc ls (st.map (cV σ)))
  replace hD : va_D A (mW σ tA μ) := hD
  replace hP : va_P D cls_ (mW σ tA μ) H := hP
  replace hL : mL ls M.2.2.1 (cL σ z) := hL
  simp only [mEx] at h
  simp only [mOpd, Bool.and_eq_true, Nat.beq_eq, decide_eq_true_eq] at ho
  subst ho
  split at h
  rotate_left
  · cases h
  rename_i y x t
  cases h
  exact lv_imul hx hb hd (k hr H locs ls hP hD hS hL)
set_option maxHeartbeats 4000000 in
theorem mEx_iand {M : MB} {d : Nat} {scr : Option (Nat × (Nat → Int32))} {p : Program} {l : Launch} {e : Env} {R : Room} {s : State} {m : MethodId} {args : Array Value} {below : List Frame} {meth : Method} {c : Code} {D : va_G} {σ : Nat → Nat} {tA : Nat → ClassId} {A : Nat → Prop} {H0 : Heap} {cells slots : Nat} {Q : State → Prop} (hC : mCx M d scr p R s m args c D σ tA A H0) {pc n a b : Nat} {r : List MEn} {z : List (Option Value)} {st : List Value} {μ : MMe} {S : MSt} (hk : mChk M.1.cls M.2.1 pc ((.iand, n, a, b) :: r) = true) (h : mEx M.2.2.2.2 pc (.iand) n a b r z st μ = some S) (k : mChk M.1.cls M.2.1 S.1 S.2.1 = true → mWk M p l e R s m args below meth c D σ tA A H0 cells slots Q S) : mWk M p l e R s m args below meth c D σ tA A H0 cells slots Q (pc, (.iand, n, a, b) :: r, z, st, μ) := by
  obtain ⟨hd, ho, hr⟩ := mChk.head hk
  intro H locs ls hP hD hS hL
  obtain ⟨hx, hb, hml, hown, hts, hK, hA, hfr, hlo, hok, hsc⟩ := hC
  show W p l e R s m args below meth c H locs cells slots Q (F0 m pc ls (st.map (cV σ)))
  replace hD : va_D A (mW σ tA μ) := hD
  replace hP : va_P D cls_ (mW σ tA μ) H := hP
  replace hL : mL ls M.2.2.1 (cL σ z) := hL
  simp only [mEx] at h
  simp only [mOpd, Bool.and_eq_true, Nat.beq_eq, decide_eq_true_eq] at ho
  subst ho
  split at h
  rotate_left
  · cases h
  rename_i y x t
  cases h
  exact lv_iand hx hb hd (k hr H locs ls hP hD hS hL)
set_option maxHeartbeats 4000000 in
theorem mEx_ixor {M : MB} {d : Nat} {scr : Option (Nat × (Nat → Int32))} {p : Program} {l : Launch} {e : Env} {R : Room} {s : State} {m : MethodId} {args : Array Value} {below : List Frame} {meth : Method} {c : Code} {D : va_G} {σ : Nat → Nat} {tA : Nat → ClassId} {A : Nat → Prop} {H0 : Heap} {cells slots : Nat} {Q : State → Prop} (hC : mCx M d scr p R s m args c D σ tA A H0) {pc n a b : Nat} {r : List MEn} {z : List (Option Value)} {st : List Value} {μ : MMe} {S : MSt} (hk : mChk M.1.cls M.2.1 pc ((.ixor, n, a, b) :: r) = true) (h : mEx M.2.2.2.2 pc (.ixor) n a b r z st μ = some S) (k : mChk M.1.cls M.2.1 S.1 S.2.1 = true → mWk M p l e R s m args below meth c D σ tA A H0 cells slots Q S) : mWk M p l e R s m args below meth c D σ tA A H0 cells slots Q (pc, (.ixor, n, a, b) :: r, z, st, μ) := by
  obtain ⟨hd, ho, hr⟩ := mChk.head hk
  intro H locs ls hP hD hS hL
  obtain ⟨hx, hb, hml, hown, hts, hK, hA, hfr, hlo, hok, hsc⟩ := hC
  show W p l e R s m args below meth c H locs cells slots Q (F0 m pc ls (st.map (cV σ)))
  replace hD : va_D A (mW σ tA μ) := hD
  replace hP : va_P D cls_ (mW σ tA μ) H := hP
  replace hL : mL ls M.2.2.1 (cL σ z) := hL
  simp only [mEx] at h
  simp only [mOpd, Bool.and_eq_true, Nat.beq_eq, decide_eq_true_eq] at ho
  subst ho
  split at h
  rotate_left
  · cases h
  rename_i y x t
  cases h
  exact lv_ixor hx hb hd (k hr H locs ls hP hD hS hL)
set_option maxHeartbeats 4000000 in
theorem mEx_ladd {M : MB} {d : Nat} {scr : Option (Nat × (Nat → Int32))} {p : Program} {l : Launch} {e : Env} {R : Room} {s : State} {m : MethodId} {args : Array Value} {below : List Frame} {meth : Method} {c : Code} {D : va_G} {σ : Nat → Nat} {tA : Nat → ClassId} {A : Nat → Prop} {H0 : Heap} {cells slots : Nat} {Q : State → Prop} (hC : mCx M d scr p R s m args c D σ tA A H0) {pc n a b : Nat} {r : List MEn} {z : List (Option Value)} {st : List Value} {μ : MMe} {S : MSt} (hk : mChk M.1.cls M.2.1 pc ((.ladd, n, a, b) :: r) = true) (h : mEx M.2.2.2.2 pc (.ladd) n a b r z st μ = some S) (k : mChk M.1.cls M.2.1 S.1 S.2.1 = true → mWk M p l e R s m args below meth c D σ tA A H0 cells slots Q S) : mWk M p l e R s m args below meth c D σ tA A H0 cells slots Q (pc, (.ladd, n, a, b) :: r, z, st, μ) := by
  obtain ⟨hd, ho, hr⟩ := mChk.head hk
  intro H locs ls hP hD hS hL
  obtain ⟨hx, hb, hml, hown, hts, hK, hA, hfr, hlo, hok, hsc⟩ := hC
  show W p l e R s m args below meth c H locs cells slots Q (F0 m pc ls (st.map (cV σ)))
  replace hD : va_D A (mW σ tA μ) := hD
  replace hP : va_P D cls_ (mW σ tA μ) H := hP
  replace hL : mL ls M.2.2.1 (cL σ z) := hL
  simp only [mEx] at h
  simp only [mOpd, Bool.and_eq_true, Nat.beq_eq, decide_eq_true_eq] at ho
  subst ho
  split at h
  rotate_left
  · cases h
  rename_i y x t
  cases h
  exact lv_ladd hx hb hd (k hr H locs ls hP hD hS hL)
set_option maxHeartbeats 4000000 in
theorem mEx_lmul {M : MB} {d : Nat} {scr : Option (Nat × (Nat → Int32))} {p : Program} {l : Launch} {e : Env} {R : Room} {s : State} {m : MethodId} {args : Array Value} {below : List Frame} {meth : Method} {c : Code} {D : va_G} {σ : Nat → Nat} {tA : Nat → ClassId} {A : Nat → Prop} {H0 : Heap} {cells slots : Nat} {Q : State → Prop} (hC : mCx M d scr p R s m args c D σ tA A H0) {pc n a b : Nat} {r : List MEn} {z : List (Option Value)} {st : List Value} {μ : MMe} {S : MSt} (hk : mChk M.1.cls M.2.1 pc ((.lmul, n, a, b) :: r) = true) (h : mEx M.2.2.2.2 pc (.lmul) n a b r z st μ = some S) (k : mChk M.1.cls M.2.1 S.1 S.2.1 = true → mWk M p l e R s m args below meth c D σ tA A H0 cells slots Q S) : mWk M p l e R s m args below meth c D σ tA A H0 cells slots Q (pc, (.lmul, n, a, b) :: r, z, st, μ) := by
  obtain ⟨hd, ho, hr⟩ := mChk.head hk
  intro H locs ls hP hD hS hL
  obtain ⟨hx, hb, hml, hown, hts, hK, hA, hfr, hlo, hok, hsc⟩ := hC
  show W p l e R s m args below meth c H locs cells slots Q (F0 m pc ls (st.map (cV σ)))
  replace hD : va_D A (mW σ tA μ) := hD
  replace hP : va_P D cls_ (mW σ tA μ) H := hP
  replace hL : mL ls M.2.2.1 (cL σ z) := hL
  simp only [mEx] at h
  simp only [mOpd, Bool.and_eq_true, Nat.beq_eq, decide_eq_true_eq] at ho
  subst ho
  split at h
  rotate_left
  · cases h
  rename_i y x t
  cases h
  exact lv_lmul hx hb hd (k hr H locs ls hP hD hS hL)
set_option maxHeartbeats 4000000 in
theorem mEx_lcmp {M : MB} {d : Nat} {scr : Option (Nat × (Nat → Int32))} {p : Program} {l : Launch} {e : Env} {R : Room} {s : State} {m : MethodId} {args : Array Value} {below : List Frame} {meth : Method} {c : Code} {D : va_G} {σ : Nat → Nat} {tA : Nat → ClassId} {A : Nat → Prop} {H0 : Heap} {cells slots : Nat} {Q : State → Prop} (hC : mCx M d scr p R s m args c D σ tA A H0) {pc n a b : Nat} {r : List MEn} {z : List (Option Value)} {st : List Value} {μ : MMe} {S : MSt} (hk : mChk M.1.cls M.2.1 pc ((.lcmp, n, a, b) :: r) = true) (h : mEx M.2.2.2.2 pc (.lcmp) n a b r z st μ = some S) (k : mChk M.1.cls M.2.1 S.1 S.2.1 = true → mWk M p l e R s m args below meth c D σ tA A H0 cells slots Q S) : mWk M p l e R s m args below meth c D σ tA A H0 cells slots Q (pc, (.lcmp, n, a, b) :: r, z, st, μ) := by
  obtain ⟨hd, ho, hr⟩ := mChk.head hk
  intro H locs ls hP hD hS hL
  obtain ⟨hx, hb, hml, hown, hts, hK, hA, hfr, hlo, hok, hsc⟩ := hC
  show W p l e R s m args below meth c H locs cells slots Q (F0 m pc ls (st.map (cV σ)))
  replace hD : va_D A (mW σ tA μ) := hD
  replace hP : va_P D cls_ (mW σ tA μ) H := hP
  replace hL : mL ls M.2.2.1 (cL σ z) := hL
  simp only [mEx] at h
  simp only [mOpd, Bool.and_eq_true, Nat.beq_eq, decide_eq_true_eq] at ho
  subst ho
  split at h
  rotate_left
  · cases h
  rename_i y x t
  cases h
  exact W.lcmp hx hb hd (k hr H locs ls hP hD hS hL)
set_option maxHeartbeats 4000000 in
theorem mEx_ineg {M : MB} {d : Nat} {scr : Option (Nat × (Nat → Int32))} {p : Program} {l : Launch} {e : Env} {R : Room} {s : State} {m : MethodId} {args : Array Value} {below : List Frame} {meth : Method} {c : Code} {D : va_G} {σ : Nat → Nat} {tA : Nat → ClassId} {A : Nat → Prop} {H0 : Heap} {cells slots : Nat} {Q : State → Prop} (hC : mCx M d scr p R s m args c D σ tA A H0) {pc n a b : Nat} {r : List MEn} {z : List (Option Value)} {st : List Value} {μ : MMe} {S : MSt} (hk : mChk M.1.cls M.2.1 pc ((.ineg, n, a, b) :: r) = true) (h : mEx M.2.2.2.2 pc (.ineg) n a b r z st μ = some S) (k : mChk M.1.cls M.2.1 S.1 S.2.1 = true → mWk M p l e R s m args below meth c D σ tA A H0 cells slots Q S) : mWk M p l e R s m args below meth c D σ tA A H0 cells slots Q (pc, (.ineg, n, a, b) :: r, z, st, μ) := by
  obtain ⟨hd, ho, hr⟩ := mChk.head hk
  intro H locs ls hP hD hS hL
  obtain ⟨hx, hb, hml, hown, hts, hK, hA, hfr, hlo, hok, hsc⟩ := hC
  show W p l e R s m args below meth c H locs cells slots Q (F0 m pc ls (st.map (cV σ)))
  replace hD : va_D A (mW σ tA μ) := hD
  replace hP : va_P D cls_ (mW σ tA μ) H := hP
  replace hL : mL ls M.2.2.1 (cL σ z) := hL
  simp only [mEx] at h
  simp only [mOpd, Bool.and_eq_true, Nat.beq_eq, decide_eq_true_eq] at ho
  subst ho
  split at h
  rotate_left
  · cases h
  rename_i x t
  cases h
  exact lv_ineg hx hb hd (k hr H locs ls hP hD hS hL)
set_option maxHeartbeats 4000000 in
theorem mEx_i2l {M : MB} {d : Nat} {scr : Option (Nat × (Nat → Int32))} {p : Program} {l : Launch} {e : Env} {R : Room} {s : State} {m : MethodId} {args : Array Value} {below : List Frame} {meth : Method} {c : Code} {D : va_G} {σ : Nat → Nat} {tA : Nat → ClassId} {A : Nat → Prop} {H0 : Heap} {cells slots : Nat} {Q : State → Prop} (hC : mCx M d scr p R s m args c D σ tA A H0) {pc n a b : Nat} {r : List MEn} {z : List (Option Value)} {st : List Value} {μ : MMe} {S : MSt} (hk : mChk M.1.cls M.2.1 pc ((.i2l, n, a, b) :: r) = true) (h : mEx M.2.2.2.2 pc (.i2l) n a b r z st μ = some S) (k : mChk M.1.cls M.2.1 S.1 S.2.1 = true → mWk M p l e R s m args below meth c D σ tA A H0 cells slots Q S) : mWk M p l e R s m args below meth c D σ tA A H0 cells slots Q (pc, (.i2l, n, a, b) :: r, z, st, μ) := by
  obtain ⟨hd, ho, hr⟩ := mChk.head hk
  intro H locs ls hP hD hS hL
  obtain ⟨hx, hb, hml, hown, hts, hK, hA, hfr, hlo, hok, hsc⟩ := hC
  show W p l e R s m args below meth c H locs cells slots Q (F0 m pc ls (st.map (cV σ)))
  replace hD : va_D A (mW σ tA μ) := hD
  replace hP : va_P D cls_ (mW σ tA μ) H := hP
  replace hL : mL ls M.2.2.1 (cL σ z) := hL
  simp only [mEx] at h
  simp only [mOpd, Bool.and_eq_true, Nat.beq_eq, decide_eq_true_eq] at ho
  subst ho
  split at h
  rotate_left
  · cases h
  rename_i x t
  cases h
  exact lv_i2l hx hb hd rfl (k hr H locs ls hP hD hS hL)
set_option maxHeartbeats 4000000 in
theorem mEx_l2i {M : MB} {d : Nat} {scr : Option (Nat × (Nat → Int32))} {p : Program} {l : Launch} {e : Env} {R : Room} {s : State} {m : MethodId} {args : Array Value} {below : List Frame} {meth : Method} {c : Code} {D : va_G} {σ : Nat → Nat} {tA : Nat → ClassId} {A : Nat → Prop} {H0 : Heap} {cells slots : Nat} {Q : State → Prop} (hC : mCx M d scr p R s m args c D σ tA A H0) {pc n a b : Nat} {r : List MEn} {z : List (Option Value)} {st : List Value} {μ : MMe} {S : MSt} (hk : mChk M.1.cls M.2.1 pc ((.l2i, n, a, b) :: r) = true) (h : mEx M.2.2.2.2 pc (.l2i) n a b r z st μ = some S) (k : mChk M.1.cls M.2.1 S.1 S.2.1 = true → mWk M p l e R s m args below meth c D σ tA A H0 cells slots Q S) : mWk M p l e R s m args below meth c D σ tA A H0 cells slots Q (pc, (.l2i, n, a, b) :: r, z, st, μ) := by
  obtain ⟨hd, ho, hr⟩ := mChk.head hk
  intro H locs ls hP hD hS hL
  obtain ⟨hx, hb, hml, hown, hts, hK, hA, hfr, hlo, hok, hsc⟩ := hC
  show W p l e R s m args below meth c H locs cells slots Q (F0 m pc ls (st.map (cV σ)))
  replace hD : va_D A (mW σ tA μ) := hD
  replace hP : va_P D cls_ (mW σ tA μ) H := hP
  replace hL : mL ls M.2.2.1 (cL σ z) := hL
  simp only [mEx] at h
  simp only [mOpd, Bool.and_eq_true, Nat.beq_eq, decide_eq_true_eq] at ho
  subst ho
  split at h
  rotate_left
  · cases h
  rename_i x t
  cases h
  exact lv_l2i hx hb hd rfl (k hr H locs ls hP hD hS hL)
set_option maxHeartbeats 4000000 in
theorem mEx_idiv {M : MB} {d : Nat} {scr : Option (Nat × (Nat → Int32))} {p : Program} {l : Launch} {e : Env} {R : Room} {s : State} {m : MethodId} {args : Array Value} {below : List Frame} {meth : Method} {c : Code} {D : va_G} {σ : Nat → Nat} {tA : Nat → ClassId} {A : Nat → Prop} {H0 : Heap} {cells slots : Nat} {Q : State → Prop} (hC : mCx M d scr p R s m args c D σ tA A H0) {pc n a b : Nat} {r : List MEn} {z : List (Option Value)} {st : List Value} {μ : MMe} {S : MSt} (hk : mChk M.1.cls M.2.1 pc ((.idiv, n, a, b) :: r) = true) (h : mEx M.2.2.2.2 pc (.idiv) n a b r z st μ = some S) (k : mChk M.1.cls M.2.1 S.1 S.2.1 = true → mWk M p l e R s m args below meth c D σ tA A H0 cells slots Q S) : mWk M p l e R s m args below meth c D σ tA A H0 cells slots Q (pc, (.idiv, n, a, b) :: r, z, st, μ) := by
  obtain ⟨hd, ho, hr⟩ := mChk.head hk
  intro H locs ls hP hD hS hL
  obtain ⟨hx, hb, hml, hown, hts, hK, hA, hfr, hlo, hok, hsc⟩ := hC
  show W p l e R s m args below meth c H locs cells slots Q (F0 m pc ls (st.map (cV σ)))
  replace hD : va_D A (mW σ tA μ) := hD
  replace hP : va_P D cls_ (mW σ tA μ) H := hP
  replace hL : mL ls M.2.2.1 (cL σ z) := hL
  simp only [mEx] at h
  simp only [mOpd, Bool.and_eq_true, Nat.beq_eq, decide_eq_true_eq] at ho
  subst ho
  split at h
  rotate_left
  · cases h
  rename_i y x t
  split at h
  rotate_left
  · cases h
  rename_i hg
  cases h
  exact lv_idiv hx hb hd (by rw [← nI_0]; exact hg) (k hr H locs ls hP hD hS hL)
set_option maxHeartbeats 4000000 in
theorem mEx_irem {M : MB} {d : Nat} {scr : Option (Nat × (Nat → Int32))} {p : Program} {l : Launch} {e : Env} {R : Room} {s : State} {m : MethodId} {args : Array Value} {below : List Frame} {meth : Method} {c : Code} {D : va_G} {σ : Nat → Nat} {tA : Nat → ClassId} {A : Nat → Prop} {H0 : Heap} {cells slots : Nat} {Q : State → Prop} (hC : mCx M d scr p R s m args c D σ tA A H0) {pc n a b : Nat} {r : List MEn} {z : List (Option Value)} {st : List Value} {μ : MMe} {S : MSt} (hk : mChk M.1.cls M.2.1 pc ((.irem, n, a, b) :: r) = true) (h : mEx M.2.2.2.2 pc (.irem) n a b r z st μ = some S) (k : mChk M.1.cls M.2.1 S.1 S.2.1 = true → mWk M p l e R s m args below meth c D σ tA A H0 cells slots Q S) : mWk M p l e R s m args below meth c D σ tA A H0 cells slots Q (pc, (.irem, n, a, b) :: r, z, st, μ) := by
  obtain ⟨hd, ho, hr⟩ := mChk.head hk
  intro H locs ls hP hD hS hL
  obtain ⟨hx, hb, hml, hown, hts, hK, hA, hfr, hlo, hok, hsc⟩ := hC
  show W p l e R s m args below meth c H locs cells slots Q (F0 m pc ls (st.map (cV σ)))
  replace hD : va_D A (mW σ tA μ) := hD
  replace hP : va_P D cls_ (mW σ tA μ) H := hP
  replace hL : mL ls M.2.2.1 (cL σ z) := hL
  simp only [mEx] at h
  simp only [mOpd, Bool.and_eq_true, Nat.beq_eq, decide_eq_true_eq] at ho
  subst ho
  split at h
  rotate_left
  · cases h
  rename_i y x t
  split at h
  rotate_left
  · cases h
  rename_i hg
  cases h
  exact lv_irem hx hb hd (by rw [← nI_0]; exact hg) (k hr H locs ls hP hD hS hL)
set_option maxHeartbeats 4000000 in
theorem mEx_lrem {M : MB} {d : Nat} {scr : Option (Nat × (Nat → Int32))} {p : Program} {l : Launch} {e : Env} {R : Room} {s : State} {m : MethodId} {args : Array Value} {below : List Frame} {meth : Method} {c : Code} {D : va_G} {σ : Nat → Nat} {tA : Nat → ClassId} {A : Nat → Prop} {H0 : Heap} {cells slots : Nat} {Q : State → Prop} (hC : mCx M d scr p R s m args c D σ tA A H0) {pc n a b : Nat} {r : List MEn} {z : List (Option Value)} {st : List Value} {μ : MMe} {S : MSt} (hk : mChk M.1.cls M.2.1 pc ((.lrem, n, a, b) :: r) = true) (h : mEx M.2.2.2.2 pc (.lrem) n a b r z st μ = some S) (k : mChk M.1.cls M.2.1 S.1 S.2.1 = true → mWk M p l e R s m args below meth c D σ tA A H0 cells slots Q S) : mWk M p l e R s m args below meth c D σ tA A H0 cells slots Q (pc, (.lrem, n, a, b) :: r, z, st, μ) := by
  obtain ⟨hd, ho, hr⟩ := mChk.head hk
  intro H locs ls hP hD hS hL
  obtain ⟨hx, hb, hml, hown, hts, hK, hA, hfr, hlo, hok, hsc⟩ := hC
  show W p l e R s m args below meth c H locs cells slots Q (F0 m pc ls (st.map (cV σ)))
  replace hD : va_D A (mW σ tA μ) := hD
  replace hP : va_P D cls_ (mW σ tA μ) H := hP
  replace hL : mL ls M.2.2.1 (cL σ z) := hL
  simp only [mEx] at h
  simp only [mOpd, Bool.and_eq_true, Nat.beq_eq, decide_eq_true_eq] at ho
  subst ho
  split at h
  rotate_left
  · cases h
  rename_i y x t
  split at h
  rotate_left
  · cases h
  rename_i hg
  cases h
  exact lv_lrem hx hb hd (by exact hg) (k hr H locs ls hP hD hS hL)
set_option maxHeartbeats 4000000 in
theorem mEx_dup {M : MB} {d : Nat} {scr : Option (Nat × (Nat → Int32))} {p : Program} {l : Launch} {e : Env} {R : Room} {s : State} {m : MethodId} {args : Array Value} {below : List Frame} {meth : Method} {c : Code} {D : va_G} {σ : Nat → Nat} {tA : Nat → ClassId} {A : Nat → Prop} {H0 : Heap} {cells slots : Nat} {Q : State → Prop} (hC : mCx M d scr p R s m args c D σ tA A H0) {pc n a b : Nat} {r : List MEn} {z : List (Option Value)} {st : List Value} {μ : MMe} {S : MSt} (hk : mChk M.1.cls M.2.1 pc ((.dup, n, a, b) :: r) = true) (h : mEx M.2.2.2.2 pc (.dup) n a b r z st μ = some S) (k : mChk M.1.cls M.2.1 S.1 S.2.1 = true → mWk M p l e R s m args below meth c D σ tA A H0 cells slots Q S) : mWk M p l e R s m args below meth c D σ tA A H0 cells slots Q (pc, (.dup, n, a, b) :: r, z, st, μ) := by
  obtain ⟨hd, ho, hr⟩ := mChk.head hk
  intro H locs ls hP hD hS hL
  obtain ⟨hx, hb, hml, hown, hts, hK, hA, hfr, hlo, hok, hsc⟩ := hC
  show W p l e R s m args below meth c H locs cells slots Q (F0 m pc ls (st.map (cV σ)))
  replace hD : va_D A (mW σ tA μ) := hD
  replace hP : va_P D cls_ (mW σ tA μ) H := hP
  replace hL : mL ls M.2.2.1 (cL σ z) := hL
  simp only [mEx] at h
  simp only [mOpd, Bool.and_eq_true, Nat.beq_eq, decide_eq_true_eq] at ho
  subst ho
  split at h
  · rename_i x t
    cases h
    exact lv_dup hx hb hd rfl (k hr H locs ls hP hD hS hL)
  · rename_i x t
    cases h
    exact lv_dup hx hb hd rfl (k hr H locs ls hP hD hS hL)
  · cases h
set_option maxHeartbeats 4000000 in
theorem mEx_dup2 {M : MB} {d : Nat} {scr : Option (Nat × (Nat → Int32))} {p : Program} {l : Launch} {e : Env} {R : Room} {s : State} {m : MethodId} {args : Array Value} {below : List Frame} {meth : Method} {c : Code} {D : va_G} {σ : Nat → Nat} {tA : Nat → ClassId} {A : Nat → Prop} {H0 : Heap} {cells slots : Nat} {Q : State → Prop} (hC : mCx M d scr p R s m args c D σ tA A H0) {pc n a b : Nat} {r : List MEn} {z : List (Option Value)} {st : List Value} {μ : MMe} {S : MSt} (hk : mChk M.1.cls M.2.1 pc ((.dup2, n, a, b) :: r) = true) (h : mEx M.2.2.2.2 pc (.dup2) n a b r z st μ = some S) (k : mChk M.1.cls M.2.1 S.1 S.2.1 = true → mWk M p l e R s m args below meth c D σ tA A H0 cells slots Q S) : mWk M p l e R s m args below meth c D σ tA A H0 cells slots Q (pc, (.dup2, n, a, b) :: r, z, st, μ) := by
  obtain ⟨hd, ho, hr⟩ := mChk.head hk
  intro H locs ls hP hD hS hL
  obtain ⟨hx, hb, hml, hown, hts, hK, hA, hfr, hlo, hok, hsc⟩ := hC
  show W p l e R s m args below meth c H locs cells slots Q (F0 m pc ls (st.map (cV σ)))
  replace hD : va_D A (mW σ tA μ) := hD
  replace hP : va_P D cls_ (mW σ tA μ) H := hP
  replace hL : mL ls M.2.2.1 (cL σ z) := hL
  simp only [mEx] at h
  simp only [mOpd, Bool.and_eq_true, Nat.beq_eq, decide_eq_true_eq] at ho
  subst ho
  split at h
  rotate_left
  · cases h
  rename_i x y t
  cases h
  exact lv_dup2_11 hx hb hd rfl rfl (k hr H locs ls hP hD hS hL)
set_option maxHeartbeats 4000000 in
theorem mEx_pop {M : MB} {d : Nat} {scr : Option (Nat × (Nat → Int32))} {p : Program} {l : Launch} {e : Env} {R : Room} {s : State} {m : MethodId} {args : Array Value} {below : List Frame} {meth : Method} {c : Code} {D : va_G} {σ : Nat → Nat} {tA : Nat → ClassId} {A : Nat → Prop} {H0 : Heap} {cells slots : Nat} {Q : State → Prop} (hC : mCx M d scr p R s m args c D σ tA A H0) {pc n a b : Nat} {r : List MEn} {z : List (Option Value)} {st : List Value} {μ : MMe} {S : MSt} (hk : mChk M.1.cls M.2.1 pc ((.pop, n, a, b) :: r) = true) (h : mEx M.2.2.2.2 pc (.pop) n a b r z st μ = some S) (k : mChk M.1.cls M.2.1 S.1 S.2.1 = true → mWk M p l e R s m args below meth c D σ tA A H0 cells slots Q S) : mWk M p l e R s m args below meth c D σ tA A H0 cells slots Q (pc, (.pop, n, a, b) :: r, z, st, μ) := by
  obtain ⟨hd, ho, hr⟩ := mChk.head hk
  intro H locs ls hP hD hS hL
  obtain ⟨hx, hb, hml, hown, hts, hK, hA, hfr, hlo, hok, hsc⟩ := hC
  show W p l e R s m args below meth c H locs cells slots Q (F0 m pc ls (st.map (cV σ)))
  replace hD : va_D A (mW σ tA μ) := hD
  replace hP : va_P D cls_ (mW σ tA μ) H := hP
  replace hL : mL ls M.2.2.1 (cL σ z) := hL
  simp only [mEx] at h
  simp only [mOpd, Bool.and_eq_true, Nat.beq_eq, decide_eq_true_eq] at ho
  subst ho
  split at h
  rotate_left
  · cases h
  rename_i x t
  cases h
  exact lv_pop hx hb hd rfl (k hr H locs ls hP hD hS hL)
set_option maxHeartbeats 4000000 in
theorem mEx_goto {M : MB} {d : Nat} {scr : Option (Nat × (Nat → Int32))} {p : Program} {l : Launch} {e : Env} {R : Room} {s : State} {m : MethodId} {args : Array Value} {below : List Frame} {meth : Method} {c : Code} {D : va_G} {σ : Nat → Nat} {tA : Nat → ClassId} {A : Nat → Prop} {H0 : Heap} {cells slots : Nat} {Q : State → Prop} (hC : mCx M d scr p R s m args c D σ tA A H0) {pc n a b : Nat} {off : Int} {r : List MEn} {z : List (Option Value)} {st : List Value} {μ : MMe} {S : MSt} (hk : mChk M.1.cls M.2.1 pc ((.goto off, n, a, b) :: r) = true) (h : mEx M.2.2.2.2 pc (.goto off) n a b r z st μ = some S) (k : mChk M.1.cls M.2.1 S.1 S.2.1 = true → mWk M p l e R s m args below meth c D σ tA A H0 cells slots Q S) : mWk M p l e R s m args below meth c D σ tA A H0 cells slots Q (pc, (.goto off, n, a, b) :: r, z, st, μ) := by
  obtain ⟨hd, ho, hr⟩ := mChk.head hk
  intro H locs ls hP hD hS hL
  obtain ⟨hx, hb, hml, hown, hts, hK, hA, hfr, hlo, hok, hsc⟩ := hC
  show W p l e R s m args below meth c H locs cells slots Q (F0 m pc ls (st.map (cV σ)))
  replace hD : va_D A (mW σ tA μ) := hD
  replace hP : va_P D cls_ (mW σ tA μ) H := hP
  replace hL : mL ls M.2.2.1 (cL σ z) := hL
  simp only [mEx] at h
  simp only [mOpd, Bool.and_eq_true, Nat.beq_eq, decide_eq_true_eq] at ho
  obtain ⟨rfl, ho⟩ := ho
  cases h
  exact lv_goto hx hb hd ho (k rfl H locs ls hP hD hS hL)
set_option maxHeartbeats 4000000 in
theorem mEx_if_eq {M : MB} {d : Nat} {scr : Option (Nat × (Nat → Int32))} {p : Program} {l : Launch} {e : Env} {R : Room} {s : State} {m : MethodId} {args : Array Value} {below : List Frame} {meth : Method} {c : Code} {D : va_G} {σ : Nat → Nat} {tA : Nat → ClassId} {A : Nat → Prop} {H0 : Heap} {cells slots : Nat} {Q : State → Prop} (hC : mCx M d scr p R s m args c D σ tA A H0) {pc n a b : Nat} {off : Int} {r : List MEn} {z : List (Option Value)} {st : List Value} {μ : MMe} {S : MSt} (hk : mChk M.1.cls M.2.1 pc ((.ifCond .eq off, n, a, b) :: r) = true) (h : mEx M.2.2.2.2 pc (.ifCond .eq off) n a b r z st μ = some S) (k : mChk M.1.cls M.2.1 S.1 S.2.1 = true → mWk M p l e R s m args below meth c D σ tA A H0 cells slots Q S) : mWk M p l e R s m args below meth c D σ tA A H0 cells slots Q (pc, (.ifCond .eq off, n, a, b) :: r, z, st, μ) := by
  obtain ⟨hd, ho, hr⟩ := mChk.head hk
  intro H locs ls hP hD hS hL
  obtain ⟨hx, hb, hml, hown, hts, hK, hA, hfr, hlo, hok, hsc⟩ := hC
  show W p l e R s m args below meth c H locs cells slots Q (F0 m pc ls (st.map (cV σ)))
  replace hD : va_D A (mW σ tA μ) := hD
  replace hP : va_P D cls_ (mW σ tA μ) H := hP
  replace hL : mL ls M.2.2.1 (cL σ z) := hL
  simp only [mEx] at h
  simp only [mOpd, Bool.and_eq_true, Nat.beq_eq, decide_eq_true_eq] at ho
  obtain ⟨rfl, ho⟩ := ho
  split at h
  rotate_left
  · cases h
  rename_i x t
  cases h
  rw [nI_0] at k
  refine lv_if_eq hx hb hd ho (fun q => ?_) (fun q => ?_)
  · rw [if_pos q] at k
    exact k rfl H locs ls hP hD hS hL
  · rw [if_neg q] at k
    exact k hr H locs ls hP hD hS hL
set_option maxHeartbeats 4000000 in
theorem mEx_icmp_eq {M : MB} {d : Nat} {scr : Option (Nat × (Nat → Int32))} {p : Program} {l : Launch} {e : Env} {R : Room} {s : State} {m : MethodId} {args : Array Value} {below : List Frame} {meth : Method} {c : Code} {D : va_G} {σ : Nat → Nat} {tA : Nat → ClassId} {A : Nat → Prop} {H0 : Heap} {cells slots : Nat} {Q : State → Prop} (hC : mCx M d scr p R s m args c D σ tA A H0) {pc n a b : Nat} {off : Int} {r : List MEn} {z : List (Option Value)} {st : List Value} {μ : MMe} {S : MSt} (hk : mChk M.1.cls M.2.1 pc ((.if_icmp .eq off, n, a, b) :: r) = true) (h : mEx M.2.2.2.2 pc (.if_icmp .eq off) n a b r z st μ = some S) (k : mChk M.1.cls M.2.1 S.1 S.2.1 = true → mWk M p l e R s m args below meth c D σ tA A H0 cells slots Q S) : mWk M p l e R s m args below meth c D σ tA A H0 cells slots Q (pc, (.if_icmp .eq off, n, a, b) :: r, z, st, μ) := by
  obtain ⟨hd, ho, hr⟩ := mChk.head hk
  intro H locs ls hP hD hS hL
  obtain ⟨hx, hb, hml, hown, hts, hK, hA, hfr, hlo, hok, hsc⟩ := hC
  show W p l e R s m args below meth c H locs cells slots Q (F0 m pc ls (st.map (cV σ)))
  replace hD : va_D A (mW σ tA μ) := hD
  replace hP : va_P D cls_ (mW σ tA μ) H := hP
  replace hL : mL ls M.2.2.1 (cL σ z) := hL
  simp only [mEx] at h
  simp only [mOpd, Bool.and_eq_true, Nat.beq_eq, decide_eq_true_eq] at ho
  obtain ⟨rfl, ho⟩ := ho
  split at h
  rotate_left
  · cases h
  rename_i y x t
  cases h
  refine lv_icmp_eq hx hb hd ho (fun q => ?_) (fun q => ?_)
  · rw [if_pos q] at k
    exact k rfl H locs ls hP hD hS hL
  · rw [if_neg q] at k
    exact k hr H locs ls hP hD hS hL
set_option maxHeartbeats 4000000 in
theorem mEx_if_ne {M : MB} {d : Nat} {scr : Option (Nat × (Nat → Int32))} {p : Program} {l : Launch} {e : Env} {R : Room} {s : State} {m : MethodId} {args : Array Value} {below : List Frame} {meth : Method} {c : Code} {D : va_G} {σ : Nat → Nat} {tA : Nat → ClassId} {A : Nat → Prop} {H0 : Heap} {cells slots : Nat} {Q : State → Prop} (hC : mCx M d scr p R s m args c D σ tA A H0) {pc n a b : Nat} {off : Int} {r : List MEn} {z : List (Option Value)} {st : List Value} {μ : MMe} {S : MSt} (hk : mChk M.1.cls M.2.1 pc ((.ifCond .ne off, n, a, b) :: r) = true) (h : mEx M.2.2.2.2 pc (.ifCond .ne off) n a b r z st μ = some S) (k : mChk M.1.cls M.2.1 S.1 S.2.1 = true → mWk M p l e R s m args below meth c D σ tA A H0 cells slots Q S) : mWk M p l e R s m args below meth c D σ tA A H0 cells slots Q (pc, (.ifCond .ne off, n, a, b) :: r, z, st, μ) := by
  obtain ⟨hd, ho, hr⟩ := mChk.head hk
  intro H locs ls hP hD hS hL
  obtain ⟨hx, hb, hml, hown, hts, hK, hA, hfr, hlo, hok, hsc⟩ := hC
  show W p l e R s m args below meth c H locs cells slots Q (F0 m pc ls (st.map (cV σ)))
  replace hD : va_D A (mW σ tA μ) := hD
  replace hP : va_P D cls_ (mW σ tA μ) H := hP
  replace hL : mL ls M.2.2.1 (cL σ z) := hL
  simp only [mEx] at h
  simp only [mOpd, Bool.and_eq_true, Nat.beq_eq, decide_eq_true_eq] at ho
  obtain ⟨rfl, ho⟩ := ho
  split at h
  rotate_left
  · cases h
  rename_i x t
  cases h
  rw [nI_0] at k
  refine lv_if_ne hx hb hd ho (fun q => ?_) (fun q => ?_)
  · rw [if_pos q] at k
    exact k rfl H locs ls hP hD hS hL
  · rw [if_neg (fun z => z q)] at k
    exact k hr H locs ls hP hD hS hL
set_option maxHeartbeats 4000000 in
theorem mEx_icmp_ne {M : MB} {d : Nat} {scr : Option (Nat × (Nat → Int32))} {p : Program} {l : Launch} {e : Env} {R : Room} {s : State} {m : MethodId} {args : Array Value} {below : List Frame} {meth : Method} {c : Code} {D : va_G} {σ : Nat → Nat} {tA : Nat → ClassId} {A : Nat → Prop} {H0 : Heap} {cells slots : Nat} {Q : State → Prop} (hC : mCx M d scr p R s m args c D σ tA A H0) {pc n a b : Nat} {off : Int} {r : List MEn} {z : List (Option Value)} {st : List Value} {μ : MMe} {S : MSt} (hk : mChk M.1.cls M.2.1 pc ((.if_icmp .ne off, n, a, b) :: r) = true) (h : mEx M.2.2.2.2 pc (.if_icmp .ne off) n a b r z st μ = some S) (k : mChk M.1.cls M.2.1 S.1 S.2.1 = true → mWk M p l e R s m args below meth c D σ tA A H0 cells slots Q S) : mWk M p l e R s m args below meth c D σ tA A H0 cells slots Q (pc, (.if_icmp .ne off, n, a, b) :: r, z, st, μ) := by
  obtain ⟨hd, ho, hr⟩ := mChk.head hk
  intro H locs ls hP hD hS hL
  obtain ⟨hx, hb, hml, hown, hts, hK, hA, hfr, hlo, hok, hsc⟩ := hC
  show W p l e R s m args below meth c H locs cells slots Q (F0 m pc ls (st.map (cV σ)))
  replace hD : va_D A (mW σ tA μ) := hD
  replace hP : va_P D cls_ (mW σ tA μ) H := hP
  replace hL : mL ls M.2.2.1 (cL σ z) := hL
  simp only [mEx] at h
  simp only [mOpd, Bool.and_eq_true, Nat.beq_eq, decide_eq_true_eq] at ho
  obtain ⟨rfl, ho⟩ := ho
  split at h
  rotate_left
  · cases h
  rename_i y x t
  cases h
  refine lv_icmp_ne hx hb hd ho (fun q => ?_) (fun q => ?_)
  · rw [if_pos q] at k
    exact k rfl H locs ls hP hD hS hL
  · rw [if_neg (fun z => z q)] at k
    exact k hr H locs ls hP hD hS hL
set_option maxHeartbeats 4000000 in
theorem mEx_if_lt {M : MB} {d : Nat} {scr : Option (Nat × (Nat → Int32))} {p : Program} {l : Launch} {e : Env} {R : Room} {s : State} {m : MethodId} {args : Array Value} {below : List Frame} {meth : Method} {c : Code} {D : va_G} {σ : Nat → Nat} {tA : Nat → ClassId} {A : Nat → Prop} {H0 : Heap} {cells slots : Nat} {Q : State → Prop} (hC : mCx M d scr p R s m args c D σ tA A H0) {pc n a b : Nat} {off : Int} {r : List MEn} {z : List (Option Value)} {st : List Value} {μ : MMe} {S : MSt} (hk : mChk M.1.cls M.2.1 pc ((.ifCond .lt off, n, a, b) :: r) = true) (h : mEx M.2.2.2.2 pc (.ifCond .lt off) n a b r z st μ = some S) (k : mChk M.1.cls M.2.1 S.1 S.2.1 = true → mWk M p l e R s m args below meth c D σ tA A H0 cells slots Q S) : mWk M p l e R s m args below meth c D σ tA A H0 cells slots Q (pc, (.ifCond .lt off, n, a, b) :: r, z, st, μ) := by
  obtain ⟨hd, ho, hr⟩ := mChk.head hk
  intro H locs ls hP hD hS hL
  obtain ⟨hx, hb, hml, hown, hts, hK, hA, hfr, hlo, hok, hsc⟩ := hC
  show W p l e R s m args below meth c H locs cells slots Q (F0 m pc ls (st.map (cV σ)))
  replace hD : va_D A (mW σ tA μ) := hD
  replace hP : va_P D cls_ (mW σ tA μ) H := hP
  replace hL : mL ls M.2.2.1 (cL σ z) := hL
  simp only [mEx] at h
  simp only [mOpd, Bool.and_eq_true, Nat.beq_eq, decide_eq_true_eq] at ho
  obtain ⟨rfl, ho⟩ := ho
  split at h
  rotate_left
  · cases h
  rename_i x t
  cases h
  rw [nI_0] at k
  refine lv_if_lt hx hb hd ho (fun q => ?_) (fun q => ?_)
  · rw [if_pos q] at k
    exact k rfl H locs ls hP hD hS hL
  · rw [if_neg q] at k
    exact k hr H locs ls hP hD hS hL
set_option maxHeartbeats 4000000 in
theorem mEx_icmp_lt {M : MB} {d : Nat} {scr : Option (Nat × (Nat → Int32))} {p : Program} {l : Launch} {e : Env} {R : Room} {s : State} {m : MethodId} {args : Array Value} {below : List Frame} {meth : Method} {c : Code} {D : va_G} {σ : Nat → Nat} {tA : Nat → ClassId} {A : Nat → Prop} {H0 : Heap} {cells slots : Nat} {Q : State → Prop} (hC : mCx M d scr p R s m args c D σ tA A H0) {pc n a b : Nat} {off : Int} {r : List MEn} {z : List (Option Value)} {st : List Value} {μ : MMe} {S : MSt} (hk : mChk M.1.cls M.2.1 pc ((.if_icmp .lt off, n, a, b) :: r) = true) (h : mEx M.2.2.2.2 pc (.if_icmp .lt off) n a b r z st μ = some S) (k : mChk M.1.cls M.2.1 S.1 S.2.1 = true → mWk M p l e R s m args below meth c D σ tA A H0 cells slots Q S) : mWk M p l e R s m args below meth c D σ tA A H0 cells slots Q (pc, (.if_icmp .lt off, n, a, b) :: r, z, st, μ) := by
  obtain ⟨hd, ho, hr⟩ := mChk.head hk
  intro H locs ls hP hD hS hL
  obtain ⟨hx, hb, hml, hown, hts, hK, hA, hfr, hlo, hok, hsc⟩ := hC
  show W p l e R s m args below meth c H locs cells slots Q (F0 m pc ls (st.map (cV σ)))
  replace hD : va_D A (mW σ tA μ) := hD
  replace hP : va_P D cls_ (mW σ tA μ) H := hP
  replace hL : mL ls M.2.2.1 (cL σ z) := hL
  simp only [mEx] at h
  simp only [mOpd, Bool.and_eq_true, Nat.beq_eq, decide_eq_true_eq] at ho
  obtain ⟨rfl, ho⟩ := ho
  split at h
  rotate_left
  · cases h
  rename_i y x t
  cases h
  refine lv_icmp_lt hx hb hd ho (fun q => ?_) (fun q => ?_)
  · rw [if_pos q] at k
    exact k rfl H locs ls hP hD hS hL
  · rw [if_neg q] at k
    exact k hr H locs ls hP hD hS hL
set_option maxHeartbeats 4000000 in
theorem mEx_if_ge {M : MB} {d : Nat} {scr : Option (Nat × (Nat → Int32))} {p : Program} {l : Launch} {e : Env} {R : Room} {s : State} {m : MethodId} {args : Array Value} {below : List Frame} {meth : Method} {c : Code} {D : va_G} {σ : Nat → Nat} {tA : Nat → ClassId} {A : Nat → Prop} {H0 : Heap} {cells slots : Nat} {Q : State → Prop} (hC : mCx M d scr p R s m args c D σ tA A H0) {pc n a b : Nat} {off : Int} {r : List MEn} {z : List (Option Value)} {st : List Value} {μ : MMe} {S : MSt} (hk : mChk M.1.cls M.2.1 pc ((.ifCond .ge off, n, a, b) :: r) = true) (h : mEx M.2.2.2.2 pc (.ifCond .ge off) n a b r z st μ = some S) (k : mChk M.1.cls M.2.1 S.1 S.2.1 = true → mWk M p l e R s m args below meth c D σ tA A H0 cells slots Q S) : mWk M p l e R s m args below meth c D σ tA A H0 cells slots Q (pc, (.ifCond .ge off, n, a, b) :: r, z, st, μ) := by
  obtain ⟨hd, ho, hr⟩ := mChk.head hk
  intro H locs ls hP hD hS hL
  obtain ⟨hx, hb, hml, hown, hts, hK, hA, hfr, hlo, hok, hsc⟩ := hC
  show W p l e R s m args below meth c H locs cells slots Q (F0 m pc ls (st.map (cV σ)))
  replace hD : va_D A (mW σ tA μ) := hD
  replace hP : va_P D cls_ (mW σ tA μ) H := hP
  replace hL : mL ls M.2.2.1 (cL σ z) := hL
  simp only [mEx] at h
  simp only [mOpd, Bool.and_eq_true, Nat.beq_eq, decide_eq_true_eq] at ho
  obtain ⟨rfl, ho⟩ := ho
  split at h
  rotate_left
  · cases h
  rename_i x t
  cases h
  rw [nI_0] at k
  refine lv_if_ge hx hb hd ho (fun q => ?_) (fun q => ?_)
  · rw [if_pos q] at k
    exact k rfl H locs ls hP hD hS hL
  · rw [if_neg q] at k
    exact k hr H locs ls hP hD hS hL
set_option maxHeartbeats 4000000 in
theorem mEx_icmp_ge {M : MB} {d : Nat} {scr : Option (Nat × (Nat → Int32))} {p : Program} {l : Launch} {e : Env} {R : Room} {s : State} {m : MethodId} {args : Array Value} {below : List Frame} {meth : Method} {c : Code} {D : va_G} {σ : Nat → Nat} {tA : Nat → ClassId} {A : Nat → Prop} {H0 : Heap} {cells slots : Nat} {Q : State → Prop} (hC : mCx M d scr p R s m args c D σ tA A H0) {pc n a b : Nat} {off : Int} {r : List MEn} {z : List (Option Value)} {st : List Value} {μ : MMe} {S : MSt} (hk : mChk M.1.cls M.2.1 pc ((.if_icmp .ge off, n, a, b) :: r) = true) (h : mEx M.2.2.2.2 pc (.if_icmp .ge off) n a b r z st μ = some S) (k : mChk M.1.cls M.2.1 S.1 S.2.1 = true → mWk M p l e R s m args below meth c D σ tA A H0 cells slots Q S) : mWk M p l e R s m args below meth c D σ tA A H0 cells slots Q (pc, (.if_icmp .ge off, n, a, b) :: r, z, st, μ) := by
  obtain ⟨hd, ho, hr⟩ := mChk.head hk
  intro H locs ls hP hD hS hL
  obtain ⟨hx, hb, hml, hown, hts, hK, hA, hfr, hlo, hok, hsc⟩ := hC
  show W p l e R s m args below meth c H locs cells slots Q (F0 m pc ls (st.map (cV σ)))
  replace hD : va_D A (mW σ tA μ) := hD
  replace hP : va_P D cls_ (mW σ tA μ) H := hP
  replace hL : mL ls M.2.2.1 (cL σ z) := hL
  simp only [mEx] at h
  simp only [mOpd, Bool.and_eq_true, Nat.beq_eq, decide_eq_true_eq] at ho
  obtain ⟨rfl, ho⟩ := ho
  split at h
  rotate_left
  · cases h
  rename_i y x t
  cases h
  refine lv_icmp_ge hx hb hd ho (fun q => ?_) (fun q => ?_)
  · rw [if_pos q] at k
    exact k rfl H locs ls hP hD hS hL
  · rw [if_neg q] at k
    exact k hr H locs ls hP hD hS hL
set_option maxHeartbeats 4000000 in
theorem mEx_if_gt {M : MB} {d : Nat} {scr : Option (Nat × (Nat → Int32))} {p : Program} {l : Launch} {e : Env} {R : Room} {s : State} {m : MethodId} {args : Array Value} {below : List Frame} {meth : Method} {c : Code} {D : va_G} {σ : Nat → Nat} {tA : Nat → ClassId} {A : Nat → Prop} {H0 : Heap} {cells slots : Nat} {Q : State → Prop} (hC : mCx M d scr p R s m args c D σ tA A H0) {pc n a b : Nat} {off : Int} {r : List MEn} {z : List (Option Value)} {st : List Value} {μ : MMe} {S : MSt} (hk : mChk M.1.cls M.2.1 pc ((.ifCond .gt off, n, a, b) :: r) = true) (h : mEx M.2.2.2.2 pc (.ifCond .gt off) n a b r z st μ = some S) (k : mChk M.1.cls M.2.1 S.1 S.2.1 = true → mWk M p l e R s m args below meth c D σ tA A H0 cells slots Q S) : mWk M p l e R s m args below meth c D σ tA A H0 cells slots Q (pc, (.ifCond .gt off, n, a, b) :: r, z, st, μ) := by
  obtain ⟨hd, ho, hr⟩ := mChk.head hk
  intro H locs ls hP hD hS hL
  obtain ⟨hx, hb, hml, hown, hts, hK, hA, hfr, hlo, hok, hsc⟩ := hC
  show W p l e R s m args below meth c H locs cells slots Q (F0 m pc ls (st.map (cV σ)))
  replace hD : va_D A (mW σ tA μ) := hD
  replace hP : va_P D cls_ (mW σ tA μ) H := hP
  replace hL : mL ls M.2.2.1 (cL σ z) := hL
  simp only [mEx] at h
  simp only [mOpd, Bool.and_eq_true, Nat.beq_eq, decide_eq_true_eq] at ho
  obtain ⟨rfl, ho⟩ := ho
  split at h
  rotate_left
  · cases h
  rename_i x t
  cases h
  rw [nI_0] at k
  refine lv_if_gt hx hb hd ho (fun q => ?_) (fun q => ?_)
  · rw [if_pos q] at k
    exact k rfl H locs ls hP hD hS hL
  · rw [if_neg q] at k
    exact k hr H locs ls hP hD hS hL
set_option maxHeartbeats 4000000 in
theorem mEx_icmp_gt {M : MB} {d : Nat} {scr : Option (Nat × (Nat → Int32))} {p : Program} {l : Launch} {e : Env} {R : Room} {s : State} {m : MethodId} {args : Array Value} {below : List Frame} {meth : Method} {c : Code} {D : va_G} {σ : Nat → Nat} {tA : Nat → ClassId} {A : Nat → Prop} {H0 : Heap} {cells slots : Nat} {Q : State → Prop} (hC : mCx M d scr p R s m args c D σ tA A H0) {pc n a b : Nat} {off : Int} {r : List MEn} {z : List (Option Value)} {st : List Value} {μ : MMe} {S : MSt} (hk : mChk M.1.cls M.2.1 pc ((.if_icmp .gt off, n, a, b) :: r) = true) (h : mEx M.2.2.2.2 pc (.if_icmp .gt off) n a b r z st μ = some S) (k : mChk M.1.cls M.2.1 S.1 S.2.1 = true → mWk M p l e R s m args below meth c D σ tA A H0 cells slots Q S) : mWk M p l e R s m args below meth c D σ tA A H0 cells slots Q (pc, (.if_icmp .gt off, n, a, b) :: r, z, st, μ) := by
  obtain ⟨hd, ho, hr⟩ := mChk.head hk
  intro H locs ls hP hD hS hL
  obtain ⟨hx, hb, hml, hown, hts, hK, hA, hfr, hlo, hok, hsc⟩ := hC
  show W p l e R s m args below meth c H locs cells slots Q (F0 m pc ls (st.map (cV σ)))
  replace hD : va_D A (mW σ tA μ) := hD
  replace hP : va_P D cls_ (mW σ tA μ) H := hP
  replace hL : mL ls M.2.2.1 (cL σ z) := hL
  simp only [mEx] at h
  simp only [mOpd, Bool.and_eq_true, Nat.beq_eq, decide_eq_true_eq] at ho
  obtain ⟨rfl, ho⟩ := ho
  split at h
  rotate_left
  · cases h
  rename_i y x t
  cases h
  refine lv_icmp_gt hx hb hd ho (fun q => ?_) (fun q => ?_)
  · rw [if_pos q] at k
    exact k rfl H locs ls hP hD hS hL
  · rw [if_neg q] at k
    exact k hr H locs ls hP hD hS hL
set_option maxHeartbeats 4000000 in
theorem mEx_if_le {M : MB} {d : Nat} {scr : Option (Nat × (Nat → Int32))} {p : Program} {l : Launch} {e : Env} {R : Room} {s : State} {m : MethodId} {args : Array Value} {below : List Frame} {meth : Method} {c : Code} {D : va_G} {σ : Nat → Nat} {tA : Nat → ClassId} {A : Nat → Prop} {H0 : Heap} {cells slots : Nat} {Q : State → Prop} (hC : mCx M d scr p R s m args c D σ tA A H0) {pc n a b : Nat} {off : Int} {r : List MEn} {z : List (Option Value)} {st : List Value} {μ : MMe} {S : MSt} (hk : mChk M.1.cls M.2.1 pc ((.ifCond .le off, n, a, b) :: r) = true) (h : mEx M.2.2.2.2 pc (.ifCond .le off) n a b r z st μ = some S) (k : mChk M.1.cls M.2.1 S.1 S.2.1 = true → mWk M p l e R s m args below meth c D σ tA A H0 cells slots Q S) : mWk M p l e R s m args below meth c D σ tA A H0 cells slots Q (pc, (.ifCond .le off, n, a, b) :: r, z, st, μ) := by
  obtain ⟨hd, ho, hr⟩ := mChk.head hk
  intro H locs ls hP hD hS hL
  obtain ⟨hx, hb, hml, hown, hts, hK, hA, hfr, hlo, hok, hsc⟩ := hC
  show W p l e R s m args below meth c H locs cells slots Q (F0 m pc ls (st.map (cV σ)))
  replace hD : va_D A (mW σ tA μ) := hD
  replace hP : va_P D cls_ (mW σ tA μ) H := hP
  replace hL : mL ls M.2.2.1 (cL σ z) := hL
  simp only [mEx] at h
  simp only [mOpd, Bool.and_eq_true, Nat.beq_eq, decide_eq_true_eq] at ho
  obtain ⟨rfl, ho⟩ := ho
  split at h
  rotate_left
  · cases h
  rename_i x t
  cases h
  rw [nI_0] at k
  refine lv_if_le hx hb hd ho (fun q => ?_) (fun q => ?_)
  · rw [if_pos q] at k
    exact k rfl H locs ls hP hD hS hL
  · rw [if_neg q] at k
    exact k hr H locs ls hP hD hS hL
set_option maxHeartbeats 4000000 in
theorem mEx_icmp_le {M : MB} {d : Nat} {scr : Option (Nat × (Nat → Int32))} {p : Program} {l : Launch} {e : Env} {R : Room} {s : State} {m : MethodId} {args : Array Value} {below : List Frame} {meth : Method} {c : Code} {D : va_G} {σ : Nat → Nat} {tA : Nat → ClassId} {A : Nat → Prop} {H0 : Heap} {cells slots : Nat} {Q : State → Prop} (hC : mCx M d scr p R s m args c D σ tA A H0) {pc n a b : Nat} {off : Int} {r : List MEn} {z : List (Option Value)} {st : List Value} {μ : MMe} {S : MSt} (hk : mChk M.1.cls M.2.1 pc ((.if_icmp .le off, n, a, b) :: r) = true) (h : mEx M.2.2.2.2 pc (.if_icmp .le off) n a b r z st μ = some S) (k : mChk M.1.cls M.2.1 S.1 S.2.1 = true → mWk M p l e R s m args below meth c D σ tA A H0 cells slots Q S) : mWk M p l e R s m args below meth c D σ tA A H0 cells slots Q (pc, (.if_icmp .le off, n, a, b) :: r, z, st, μ) := by
  obtain ⟨hd, ho, hr⟩ := mChk.head hk
  intro H locs ls hP hD hS hL
  obtain ⟨hx, hb, hml, hown, hts, hK, hA, hfr, hlo, hok, hsc⟩ := hC
  show W p l e R s m args below meth c H locs cells slots Q (F0 m pc ls (st.map (cV σ)))
  replace hD : va_D A (mW σ tA μ) := hD
  replace hP : va_P D cls_ (mW σ tA μ) H := hP
  replace hL : mL ls M.2.2.1 (cL σ z) := hL
  simp only [mEx] at h
  simp only [mOpd, Bool.and_eq_true, Nat.beq_eq, decide_eq_true_eq] at ho
  obtain ⟨rfl, ho⟩ := ho
  split at h
  rotate_left
  · cases h
  rename_i y x t
  cases h
  refine lv_icmp_le hx hb hd ho (fun q => ?_) (fun q => ?_)
  · rw [if_pos q] at k
    exact k rfl H locs ls hP hD hS hL
  · rw [if_neg q] at k
    exact k hr H locs ls hP hD hS hL
end
section
theorem m_offs {pc : Nat} {d k : Int} : ∀ {ps : List (Int × Int)}, ps.all (fun q => decide (0 ≤ q.1) && decide (q.1 < 1000) && decide (0 ≤ (pc : Int) + q.2)) = true → 0 ≤ (pc : Int) + d → 0 ≤ (pc : Int) + Op.lookupswitch.offset ps d k
  | [], _, h => h
  | (a, o) :: r, h, hd => by
    rw [List.all_cons] at h
    simp only [Bool.and_eq_true, decide_eq_true_eq] at h
    rw [Op.lookupswitch.offset_cons]
    by_cases e : a = k
    · rw [if_pos e]; exact h.1.2
    · rw [if_neg e]; exact m_offs h.2 hd
set_option maxHeartbeats 4000000 in
theorem mEx_tsw {M : MB} {d : Nat} {scr : Option (Nat × (Nat → Int32))} {p : Program} {l : Launch} {e : Env} {R : Room} {s : State} {m : MethodId} {args : Array Value} {below : List Frame} {meth : Method} {c : Code} {D : va_G} {σ : Nat → Nat} {tA : Nat → ClassId} {A : Nat → Prop} {H0 : Heap} {cells slots : Nat} {Q : State → Prop} (hC : mCx M d scr p R s m args c D σ tA A H0) {pc n a b : Nat} {dd lo_ hi : Int} {offs : Array Int} {r : List MEn} {z : List (Option Value)} {st : List Value} {μ : MMe} {S : MSt} (hk : mChk M.1.cls M.2.1 pc ((.tableswitch dd lo_ hi offs, n, a, b) :: r) = true) (h : mEx M.2.2.2.2 pc (.tableswitch dd lo_ hi offs) n a b r z st μ = some S) (k : mChk M.1.cls M.2.1 S.1 S.2.1 = true → mWk M p l e R s m args below meth c D σ tA A H0 cells slots Q S) : mWk M p l e R s m args below meth c D σ tA A H0 cells slots Q (pc, (.tableswitch dd lo_ hi offs, n, a, b) :: r, z, st, μ) := by
  obtain ⟨hd, ho, hr⟩ := mChk.head hk
  intro H locs ls hP hD hS hL
  obtain ⟨hx, hb, hml, hown, hts, hK, hA, hfr, hlo, hok, hsc⟩ := hC
  show W p l e R s m args below meth c H locs cells slots Q (F0 m pc ls (st.map (cV σ)))
  replace hD : va_D A (mW σ tA μ) := hD
  replace hP : va_P D cls_ (mW σ tA μ) H := hP
  replace hL : mL ls M.2.2.1 (cL σ z) := hL
  simp only [mEx] at h
  simp only [mOpd, Bool.and_eq_true, decide_eq_true_eq, List.all_eq_true] at ho
  obtain ⟨⟨⟨⟨o1, o2⟩, o3⟩, o4⟩, o5⟩ := ho
  split at h
  rotate_left
  · cases h
  rename_i x t
  have hlen : (offs.toList.length : Int) = hi - lo_ + 1 := by rw [Array.length_toList]; exact o4
  rw [mSw_ts offs.toList lo_ o2 (by omega)] at h
  by_cases hin : lo_ ≤ x.toInt ∧ x.toInt < lo_ + offs.toList.length
  · rw [dif_pos hin] at h
    cases h
    have hlt : (x.toInt - lo_).toNat < offs.toList.length := by omega
    refine lv_tableIn hx hb hd (by omega) (by omega) (off := offs.toList[(x.toInt - lo_).toNat]) (by rw [← Array.getElem?_toList, List.getElem?_eq_getElem hlt]) ?_ (k rfl H locs ls hP hD hS hL)
    have := o5 _ (List.getElem_mem hlt)
    exact (Int.toNat_of_nonneg this).symm
  · rw [dif_neg hin] at h
    cases h
    exact lv_tableOut hx hb hd (by omega) (Int.toNat_of_nonneg o1).symm (k rfl H locs ls hP hD hS hL)
set_option maxHeartbeats 4000000 in
theorem mEx_lsw {M : MB} {d : Nat} {scr : Option (Nat × (Nat → Int32))} {p : Program} {l : Launch} {e : Env} {R : Room} {s : State} {m : MethodId} {args : Array Value} {below : List Frame} {meth : Method} {c : Code} {D : va_G} {σ : Nat → Nat} {tA : Nat → ClassId} {A : Nat → Prop} {H0 : Heap} {cells slots : Nat} {Q : State → Prop} (hC : mCx M d scr p R s m args c D σ tA A H0) {pc n a b : Nat} {dd : Int} {ps : Array (Int × Int)} {r : List MEn} {z : List (Option Value)} {st : List Value} {μ : MMe} {S : MSt} (hk : mChk M.1.cls M.2.1 pc ((.lookupswitch dd ps, n, a, b) :: r) = true) (h : mEx M.2.2.2.2 pc (.lookupswitch dd ps) n a b r z st μ = some S) (k : mChk M.1.cls M.2.1 S.1 S.2.1 = true → mWk M p l e R s m args below meth c D σ tA A H0 cells slots Q S) : mWk M p l e R s m args below meth c D σ tA A H0 cells slots Q (pc, (.lookupswitch dd ps, n, a, b) :: r, z, st, μ) := by
  obtain ⟨hd, ho, hr⟩ := mChk.head hk
  intro H locs ls hP hD hS hL
  obtain ⟨hx, hb, hml, hown, hts, hK, hA, hfr, hlo, hok, hsc⟩ := hC
  show W p l e R s m args below meth c H locs cells slots Q (F0 m pc ls (st.map (cV σ)))
  replace hD : va_D A (mW σ tA μ) := hD
  replace hP : va_P D cls_ (mW σ tA μ) H := hP
  replace hL : mL ls M.2.2.1 (cL σ z) := hL
  simp only [mEx] at h
  simp only [mOpd, Bool.and_eq_true, decide_eq_true_eq] at ho
  obtain ⟨⟨o1, o2⟩, o3⟩ := ho
  split at h
  rotate_left
  · cases h
  rename_i x t
  rw [mSw_ls ps.toList o3] at h
  cases h
  refine lv_lookup hx hb hd o2 rfl ?_ (k rfl H locs ls hP hD hS hL)
  refine (Int.toNat_of_nonneg ?_).symm
  exact m_offs o3 o1
set_option maxHeartbeats 4000000 in
theorem mEx_getf {M : MB} {d : Nat} {scr : Option (Nat × (Nat → Int32))} {p : Program} {l : Launch} {e : Env} {R : Room} {s : State} {m : MethodId} {args : Array Value} {below : List Frame} {meth : Method} {c : Code} {D : va_G} {σ : Nat → Nat} {tA : Nat → ClassId} {A : Nat → Prop} {H0 : Heap} {cells slots : Nat} {Q : State → Prop} (hC : mCx M d scr p R s m args c D σ tA A H0) {pc n a b : Nat} {v : Nat} {r : List MEn} {z : List (Option Value)} {st : List Value} {μ : MMe} {S : MSt} (hk : mChk M.1.cls M.2.1 pc ((.getfield v, n, a, b) :: r) = true) (h : mEx M.2.2.2.2 pc (.getfield v) n a b r z st μ = some S) (k : mChk M.1.cls M.2.1 S.1 S.2.1 = true → mWk M p l e R s m args below meth c D σ tA A H0 cells slots Q S) : mWk M p l e R s m args below meth c D σ tA A H0 cells slots Q (pc, (.getfield v, n, a, b) :: r, z, st, μ) := by
  obtain ⟨hd, ho, hr⟩ := mChk.head hk
  intro H locs ls hP hD hS hL
  obtain ⟨hx, hb, hml, hown, hts, hK, hA, hfr, hlo, hok, hsc⟩ := hC
  show W p l e R s m args below meth c H locs cells slots Q (F0 m pc ls (st.map (cV σ)))
  replace hD : va_D A (mW σ tA μ) := hD
  replace hP : va_P D cls_ (mW σ tA μ) H := hP
  replace hL : mL ls M.2.2.1 (cL σ z) := hL
  simp only [mEx] at h
  simp only [mOpd, Bool.and_eq_true, Nat.beq_eq, decide_eq_true_eq] at ho
  obtain ⟨rfl, ho⟩ := ho
  obtain ⟨C, T, N, hc, hkN, hw⟩ := FL_ok ho
  split at h
  rotate_left
  · cases h
  rename_i q t
  split at h
  rotate_left
  · cases h
  rename_i ci fs hq
  split at h
  rotate_left
  · cases h
  rename_i he
  rw [Nat.beq_eq] at he
  subst he
  split at h
  rotate_left
  · cases h
  rename_i vv hv
  cases h
  have hWk := mW_at (σ := σ) (tA := tA) hq
  refine va_get hx hb hts (m_clsT hc) hown hK hP q (a := σ q) (fs := fs.map (cV σ)) hWk hc b hkN (hts _ (mTt_in hw rfl)) (fun _ h9 => h9) (v := cV σ vv) (by rw [List.getElem?_map, hv]; rfl) hd (k hr H locs ls hP hD hS hL)
set_option maxHeartbeats 4000000 in
theorem mEx_putf {M : MB} {d : Nat} {scr : Option (Nat × (Nat → Int32))} {p : Program} {l : Launch} {e : Env} {R : Room} {s : State} {m : MethodId} {args : Array Value} {below : List Frame} {meth : Method} {c : Code} {D : va_G} {σ : Nat → Nat} {tA : Nat → ClassId} {A : Nat → Prop} {H0 : Heap} {cells slots : Nat} {Q : State → Prop} (hC : mCx M d scr p R s m args c D σ tA A H0) {pc n a b : Nat} {v : Nat} {r : List MEn} {z : List (Option Value)} {st : List Value} {μ : MMe} {S : MSt} (hk : mChk M.1.cls M.2.1 pc ((.putfield v, n, a, b) :: r) = true) (h : mEx M.2.2.2.2 pc (.putfield v) n a b r z st μ = some S) (k : mChk M.1.cls M.2.1 S.1 S.2.1 = true → mWk M p l e R s m args below meth c D σ tA A H0 cells slots Q S) : mWk M p l e R s m args below meth c D σ tA A H0 cells slots Q (pc, (.putfield v, n, a, b) :: r, z, st, μ) := by
  obtain ⟨hd, ho, hr⟩ := mChk.head hk
  intro H locs ls hP hD hS hL
  obtain ⟨hx, hb, hml, hown, hts, hK, hA, hfr, hlo, hok, hsc⟩ := hC
  show W p l e R s m args below meth c H locs cells slots Q (F0 m pc ls (st.map (cV σ)))
  replace hD : va_D A (mW σ tA μ) := hD
  replace hP : va_P D cls_ (mW σ tA μ) H := hP
  replace hL : mL ls M.2.2.1 (cL σ z) := hL
  simp only [mEx] at h
  simp only [mOpd, Bool.and_eq_true, Nat.beq_eq, decide_eq_true_eq] at ho
  obtain ⟨⟨rfl, ho⟩, ho2⟩ := ho
  obtain ⟨C, T, N, hc, hkN, hw⟩ := FL_ok ho
  rw [hc] at ho2
  simp only [Bool.and_eq_true, decide_eq_true_eq, Bool.not_eq_true'] at ho2
  obtain ⟨hI, hfin⟩ := ho2
  split at h
  rotate_left
  · cases h
  rename_i vv q t
  split at h
  rotate_left
  · cases h
  rename_i ci fs hq
  split at h
  rotate_left
  · cases h
  rename_i he
  simp only [Bool.and_eq_true, Nat.beq_eq, Nat.blt_eq] at he
  obtain ⟨rfl, hbl⟩ := he
  cases h
  obtain ⟨ty0, hty⟩ := (m_cls hc).2.1
  have hWk := mW_at (σ := σ) (tA := tA) hq
  have hset : (mW σ tA μ).set q (σ q, Sum.inr (ci, (fs.map (cV σ)).set b (.int vv))) = mW σ tA (μ.set q (.inr (ci, fs.set b (.int vv)))) := by
    rw [← mW_set]
    show _ = (mW σ tA μ).set q (σ q, Sum.inr (ci, (fs.set b (.int vv)).map (cV σ)))
    rw [List.map_set]
    rfl
  refine va_put hx hb hts (m_clsT hc) ty0 hty (m_cls hc).2.2 hown hK hP hD hS q (a := σ q) (fs := fs.map (cV σ)) hWk hc b hkN (hts _ (mTt_in hw rfl)) (fun _ h9 => h9) hfin (ty := .int) (v := .int vv) (by rw [hI]; decide +kernel) rfl rfl (by rw [List.length_map]; exact hbl) hd (fun H1 locs1 hP hD hS => ?_)
  rw [hset] at hP hD
  exact k hr H1 locs1 ls hP hD hS hL
set_option maxHeartbeats 4000000 in
theorem mEx_iald {M : MB} {d : Nat} {scr : Option (Nat × (Nat → Int32))} {p : Program} {l : Launch} {e : Env} {R : Room} {s : State} {m : MethodId} {args : Array Value} {below : List Frame} {meth : Method} {c : Code} {D : va_G} {σ : Nat → Nat} {tA : Nat → ClassId} {A : Nat → Prop} {H0 : Heap} {cells slots : Nat} {Q : State → Prop} (hC : mCx M d scr p R s m args c D σ tA A H0) {pc n a b : Nat} {r : List MEn} {z : List (Option Value)} {st : List Value} {μ : MMe} {S : MSt} (hk : mChk M.1.cls M.2.1 pc ((.iaload, n, a, b) :: r) = true) (h : mEx M.2.2.2.2 pc (.iaload) n a b r z st μ = some S) (k : mChk M.1.cls M.2.1 S.1 S.2.1 = true → mWk M p l e R s m args below meth c D σ tA A H0 cells slots Q S) : mWk M p l e R s m args below meth c D σ tA A H0 cells slots Q (pc, (.iaload, n, a, b) :: r, z, st, μ) := by
  obtain ⟨hd, ho, hr⟩ := mChk.head hk
  intro H locs ls hP hD hS hL
  obtain ⟨hx, hb, hml, hown, hts, hK, hA, hfr, hlo, hok, hsc⟩ := hC
  show W p l e R s m args below meth c H locs cells slots Q (F0 m pc ls (st.map (cV σ)))
  replace hD : va_D A (mW σ tA μ) := hD
  replace hP : va_P D cls_ (mW σ tA μ) H := hP
  replace hL : mL ls M.2.2.1 (cL σ z) := hL
  simp only [mEx] at h
  simp only [mOpd, Bool.and_eq_true, Nat.beq_eq, decide_eq_true_eq] at ho
  subst ho
  split at h
  rotate_left
  · cases h
  rename_i ii q t
  split at h
  rotate_left
  · cases h
  rename_i n0 f hq
  split at h
  rotate_left
  · cases h
  rename_i hg
  cases h
  have hWk := mW_at (σ := σ) (tA := tA) hq
  exact va_iald hx hb hK hP q 0 (cA := tA 0) (n := n0) (f := f) hWk rfl (inb_in hg) hd (k hr H locs ls hP hD hS hL)
set_option maxHeartbeats 4000000 in
theorem mEx_iast {M : MB} {d : Nat} {scr : Option (Nat × (Nat → Int32))} {p : Program} {l : Launch} {e : Env} {R : Room} {s : State} {m : MethodId} {args : Array Value} {below : List Frame} {meth : Method} {c : Code} {D : va_G} {σ : Nat → Nat} {tA : Nat → ClassId} {A : Nat → Prop} {H0 : Heap} {cells slots : Nat} {Q : State → Prop} (hC : mCx M d scr p R s m args c D σ tA A H0) {pc n a b : Nat} {r : List MEn} {z : List (Option Value)} {st : List Value} {μ : MMe} {S : MSt} (hk : mChk M.1.cls M.2.1 pc ((.iastore, n, a, b) :: r) = true) (h : mEx M.2.2.2.2 pc (.iastore) n a b r z st μ = some S) (k : mChk M.1.cls M.2.1 S.1 S.2.1 = true → mWk M p l e R s m args below meth c D σ tA A H0 cells slots Q S) : mWk M p l e R s m args below meth c D σ tA A H0 cells slots Q (pc, (.iastore, n, a, b) :: r, z, st, μ) := by
  obtain ⟨hd, ho, hr⟩ := mChk.head hk
  intro H locs ls hP hD hS hL
  obtain ⟨hx, hb, hml, hown, hts, hK, hA, hfr, hlo, hok, hsc⟩ := hC
  show W p l e R s m args below meth c H locs cells slots Q (F0 m pc ls (st.map (cV σ)))
  replace hD : va_D A (mW σ tA μ) := hD
  replace hP : va_P D cls_ (mW σ tA μ) H := hP
  replace hL : mL ls M.2.2.1 (cL σ z) := hL
  simp only [mEx] at h
  simp only [mOpd, Bool.and_eq_true, Nat.beq_eq, decide_eq_true_eq] at ho
  subst ho
  split at h
  rotate_left
  · cases h
  rename_i xx ii q t
  split at h
  rotate_left
  · cases h
  rename_i n0 f hq
  split at h
  rotate_left
  · cases h
  rename_i hg
  cases h
  have hWk := mW_at (σ := σ) (tA := tA) hq
  refine va_iast hx hb hK hP hD hS q 0 (cA := tA 0) (n := n0) (f := f) hWk rfl (inb_in hg) hd (fun H1 locs1 hP hD hS => ?_)
  rw [show ((mW σ tA μ).set q (σ q, Sum.inl (tA 0, n0, Sum.inl (upd f ii.toNatClampNeg xx)))) = mW σ tA (μ.set q (.inl (0, n0, .inl (upd f ii.toNatClampNeg xx)))) from mW_set (c := .inl (0, n0, .inl (upd f ii.toNatClampNeg xx)))] at hP hD
  exact k hr H1 locs1 ls hP hD hS hL
set_option maxHeartbeats 4000000 in
theorem mEx_aald {M : MB} {d : Nat} {scr : Option (Nat × (Nat → Int32))} {p : Program} {l : Launch} {e : Env} {R : Room} {s : State} {m : MethodId} {args : Array Value} {below : List Frame} {meth : Method} {c : Code} {D : va_G} {σ : Nat → Nat} {tA : Nat → ClassId} {A : Nat → Prop} {H0 : Heap} {cells slots : Nat} {Q : State → Prop} (hC : mCx M d scr p R s m args c D σ tA A H0) {pc n a b : Nat} {r : List MEn} {z : List (Option Value)} {st : List Value} {μ : MMe} {S : MSt} (hk : mChk M.1.cls M.2.1 pc ((.aaload, n, a, b) :: r) = true) (h : mEx M.2.2.2.2 pc (.aaload) n a b r z st μ = some S) (k : mChk M.1.cls M.2.1 S.1 S.2.1 = true → mWk M p l e R s m args below meth c D σ tA A H0 cells slots Q S) : mWk M p l e R s m args below meth c D σ tA A H0 cells slots Q (pc, (.aaload, n, a, b) :: r, z, st, μ) := by
  obtain ⟨hd, ho, hr⟩ := mChk.head hk
  intro H locs ls hP hD hS hL
  obtain ⟨hx, hb, hml, hown, hts, hK, hA, hfr, hlo, hok, hsc⟩ := hC
  show W p l e R s m args below meth c H locs cells slots Q (F0 m pc ls (st.map (cV σ)))
  replace hD : va_D A (mW σ tA μ) := hD
  replace hP : va_P D cls_ (mW σ tA μ) H := hP
  replace hL : mL ls M.2.2.1 (cL σ z) := hL
  simp only [mEx] at h
  simp only [mOpd, Bool.and_eq_true, Nat.beq_eq, decide_eq_true_eq] at ho
  subst ho
  split at h
  rotate_left
  · cases h
  rename_i ii q t
  split at h
  rotate_left
  · cases h
  rename_i n0 f hq
  split at h
  rotate_left
  · cases h
  rename_i hg
  cases h
  have hWk := mW_at (σ := σ) (tA := tA) hq
  have hk2 := k hr H locs ls hP hD hS hL
  refine va_aldq hx hb hK hP q 1 (cA := tA 1) (C := RX0) (n := n0) (f := fun k => (f k).map σ) hWk rfl (inb_in hg) hd ?_
  rw [show va_rf ((f ii.toNatClampNeg).map σ) = cV σ (va_rf (f ii.toNatClampNeg)) from by cases f ii.toNatClampNeg <;> rfl]
  exact hk2
set_option maxHeartbeats 4000000 in
theorem mEx_alen {M : MB} {d : Nat} {scr : Option (Nat × (Nat → Int32))} {p : Program} {l : Launch} {e : Env} {R : Room} {s : State} {m : MethodId} {args : Array Value} {below : List Frame} {meth : Method} {c : Code} {D : va_G} {σ : Nat → Nat} {tA : Nat → ClassId} {A : Nat → Prop} {H0 : Heap} {cells slots : Nat} {Q : State → Prop} (hC : mCx M d scr p R s m args c D σ tA A H0) {pc n a b : Nat} {r : List MEn} {z : List (Option Value)} {st : List Value} {μ : MMe} {S : MSt} (hk : mChk M.1.cls M.2.1 pc ((.arraylength, n, a, b) :: r) = true) (h : mEx M.2.2.2.2 pc (.arraylength) n a b r z st μ = some S) (k : mChk M.1.cls M.2.1 S.1 S.2.1 = true → mWk M p l e R s m args below meth c D σ tA A H0 cells slots Q S) : mWk M p l e R s m args below meth c D σ tA A H0 cells slots Q (pc, (.arraylength, n, a, b) :: r, z, st, μ) := by
  obtain ⟨hd, ho, hr⟩ := mChk.head hk
  intro H locs ls hP hD hS hL
  obtain ⟨hx, hb, hml, hown, hts, hK, hA, hfr, hlo, hok, hsc⟩ := hC
  show W p l e R s m args below meth c H locs cells slots Q (F0 m pc ls (st.map (cV σ)))
  replace hD : va_D A (mW σ tA μ) := hD
  replace hP : va_P D cls_ (mW σ tA μ) H := hP
  replace hL : mL ls M.2.2.1 (cL σ z) := hL
  simp only [mEx] at h
  simp only [mOpd, Bool.and_eq_true, Nat.beq_eq, decide_eq_true_eq] at ho
  subst ho
  split at h
  rotate_left
  · cases h
  rename_i q t
  split at h
  rotate_left
  · cases h
  rename_i n0 ff hq
  cases h
  have hWk := mW_at (σ := σ) (tA := tA) hq
  obtain ⟨xx, hxx⟩ : ∃ y : (Nat → Int32) ⊕ (Nat → Int64) ⊕ (Nat → UInt32) ⊕ (Nat → UInt64) ⊕ (Nat → Option Nat), cE σ tA (.inl (0, n0, ff)) = .inl (tA 0, n0, y) := by
    match ff with
    | .inl f => exact ⟨_, rfl⟩
    | .inr (.inl f) => exact ⟨_, rfl⟩
    | .inr (.inr (.inl f)) => exact ⟨_, rfl⟩
    | .inr (.inr (.inr (.inl f))) => exact ⟨_, rfl⟩
    | .inr (.inr (.inr (.inr f))) => exact ⟨_, rfl⟩
  rw [hxx] at hWk
  exact va_alen hx hb hK hP q 0 (cA := tA 0) (x := (n0, xx)) hWk (ty := .int) rfl rfl hd (k hr H locs ls hP hD hS hL)
set_option maxHeartbeats 4000000 in
theorem mStp_ok {M : MB} {d : Nat} {scr : Option (Nat × (Nat → Int32))} {p : Program} {l : Launch} {e : Env} {R : Room} {s : State} {m : MethodId} {args : Array Value} {below : List Frame} {meth : Method} {c : Code} {D : va_G} {σ : Nat → Nat} {tA : Nat → ClassId} {A : Nat → Prop} {H0 : Heap} {cells slots : Nat} {Q : State → Prop} (hC : mCx M d scr p R s m args c D σ tA A H0) {S S' : MSt} (hk : mChk M.1.cls M.2.1 S.1 S.2.1 = true) (h : mStp M.2.2.2.2 S = some S') (k : mChk M.1.cls M.2.1 S'.1 S'.2.1 = true → mWk M p l e R s m args below meth c D σ tA A H0 cells slots Q S') : mWk M p l e R s m args below meth c D σ tA A H0 cells slots Q S := by
  obtain ⟨pc, cd, z, st, μ⟩ := S
  cases cd with
  | nil =>
    simp only [mStp] at h
    split at h
    rotate_left
    · cases h
    rename_i e0 r0 hl
    cases h
    refine k ?_
    have h9 := hC.2.2.2.2.2.2.2.2.2.1 _ (mLook hl)
    exact h9
  | cons q r =>
    obtain ⟨i, n, a, b⟩ := q
    have h : mEx M.2.2.2.2 pc i n a b r z st μ = some S' := h
    cases i with
    | iconst v => exact mEx_iconst hC hk h k
    | bipush v => exact mEx_bipush hC hk h k
    | sipush v => exact mEx_sipush hC hk h k
    | ldc v => exact mEx_ldc hC hk h k
    | ldc2_w v => exact mEx_ldc2 hC hk h k
    | iload_n v => exact mEx_iload_n hC hk h k
    | iload v => exact mEx_iload hC hk h k
    | istore_n v => exact mEx_istore_n hC hk h k
    | istore v => exact mEx_istore hC hk h k
    | lload_n v => exact mEx_lload_n hC hk h k
    | lload v => exact mEx_lload hC hk h k
    | lstore_n v => exact mEx_lstore_n hC hk h k
    | lstore v => exact mEx_lstore hC hk h k
    | aload_n v => exact mEx_aload_n hC hk h k
    | aload v => exact mEx_aload hC hk h k
    | astore_n v => exact mEx_astore_n hC hk h k
    | astore v => exact mEx_astore hC hk h k
    | iinc v w => exact mEx_iinc hC hk h k
    | iadd => exact mEx_iadd hC hk h k
    | isub => exact mEx_isub hC hk h k
    | imul => exact mEx_imul hC hk h k
    | iand => exact mEx_iand hC hk h k
    | ixor => exact mEx_ixor hC hk h k
    | ladd => exact mEx_ladd hC hk h k
    | lmul => exact mEx_lmul hC hk h k
    | lcmp => exact mEx_lcmp hC hk h k
    | ineg => exact mEx_ineg hC hk h k
    | i2l => exact mEx_i2l hC hk h k
    | l2i => exact mEx_l2i hC hk h k
    | idiv => exact mEx_idiv hC hk h k
    | irem => exact mEx_irem hC hk h k
    | lrem => exact mEx_lrem hC hk h k
    | dup => exact mEx_dup hC hk h k
    | dup2 => exact mEx_dup2 hC hk h k
    | pop => exact mEx_pop hC hk h k
    | goto v => exact mEx_goto hC hk h k
    | tableswitch v w x y => exact mEx_tsw hC hk h k
    | lookupswitch v w => exact mEx_lsw hC hk h k
    | getfield v => exact mEx_getf hC hk h k
    | putfield v => exact mEx_putf hC hk h k
    | iaload => exact mEx_iald hC hk h k
    | iastore => exact mEx_iast hC hk h k
    | aaload => exact mEx_aald hC hk h k
    | arraylength => exact mEx_alen hC hk h k
    | ifCond cc v => cases cc <;> first | exact mEx_if_eq hC hk h k | exact mEx_if_ne hC hk h k | exact mEx_if_lt hC hk h k | exact mEx_if_ge hC hk h k | exact mEx_if_gt hC hk h k | exact mEx_if_le hC hk h k
    | if_icmp cc v => cases cc <;> first | exact mEx_icmp_eq hC hk h k | exact mEx_icmp_ne hC hk h k | exact mEx_icmp_lt hC hk h k | exact mEx_icmp_ge hC hk h k | exact mEx_icmp_gt hC hk h k | exact mEx_icmp_le hC hk h k
    | _ => cases h
theorem mStps_ok {M : MB} {d : Nat} {scr : Option (Nat × (Nat → Int32))} {p : Program} {l : Launch} {e : Env} {R : Room} {s : State} {m : MethodId} {args : Array Value} {below : List Frame} {meth : Method} {c : Code} {D : va_G} {σ : Nat → Nat} {tA : Nat → ClassId} {A : Nat → Prop} {H0 : Heap} {cells slots : Nat} {Q : State → Prop} (hC : mCx M d scr p R s m args c D σ tA A H0) : ∀ (k : Nat) {S S' : MSt}, mChk M.1.cls M.2.1 S.1 S.2.1 = true → mStps M.2.2.2.2 k S = some S' → (mChk M.1.cls M.2.1 S'.1 S'.2.1 = true → mWk M p l e R s m args below meth c D σ tA A H0 cells slots Q S') → mWk M p l e R s m args below meth c D σ tA A H0 cells slots Q S
  | 0, S, S', hk, h, kk => by
    cases h
    exact kk hk
  | 1, S, S', hk, h, kk => mStp_ok hC hk h kk
  | n + 2, S, S', hk, h, kk => by
    have h : (mStp M.2.2.2.2 S).bind (mStps M.2.2.2.2 (n + 1)) = some S' := h
    cases h1 : mStp M.2.2.2.2 S with
    | none => rw [h1] at h; cases h
    | some S1 =>
      rw [h1] at h
      exact mStp_ok hC hk h1 (fun hk1 => mStps_ok hC (n + 1) hk1 h kk)
end
section
/-! what a run of a body comes to, and a call's contract, without the JVM's state -/
def mRet (M : MB) (pc : Nat) (r : Option Value) : Prop := match r with
  | none => decode M.2.1 pc = .ok (.return_, 1) ∧ M.2.2.2.1 = none
  | some (.int v) => decode M.2.1 pc = .ok (.ireturn, 1) ∧ ∃ ty, M.2.2.2.1 = some ty ∧ narrow ty (.int v) = .int v
  | some (.long _) => decode M.2.1 pc = .ok (.lreturn, 1) ∧ M.2.2.2.1 = some .long
  | _ => False
def mEv (d : Nat) (M : MB) (scr : Option (Nat × (Nat → Int32))) (S : MSt) (r : Option Value) (μ' : MMe) : Prop :=
  ∀ (p : Program) (l : Launch) (e : Env) (R : Room) (s : State) (m : MethodId) (args : Array Value) (below : List Frame) (meth : Method) (c : Code) (D : va_G) (σ : Nat → Nat) (tA : Nat → ClassId) (A : Nat → Prop) (H0 : Heap) (cells slots : Nat) (Q : State → Prop),
    mCx M d scr p R s m args c D σ tA A H0 → cells ≤ R.cells → slots ≤ R.slots →
    (∀ (pc : Nat) (H : Heap) (locs : List Loc) (ls : Array Slot), mRet M pc r → va_P D cls_ (mW σ tA μ') H → va_D A (mW σ tA μ') → va_S A H0 H locs → W p l e R s m args below meth c H locs cells slots Q (F0 m pc ls (r.toList.map (cV σ)))) →
    mChk M.1.cls M.2.1 S.1 S.2.1 = true → mWk M p l e R s m args below meth c D σ tA A H0 cells slots Q S
section EV
variable {d : Nat} {M : MB} {scr : Option (Nat × (Nat → Int32))} {S S' S1 S2 : MSt} {r : Option Value} {μ μ' μ1 : MMe}
theorem mEv.stp (k : Nat) (h : mStps M.2.2.2.2 k S = some S') (E : mEv d M scr S' r μ') : mEv d M scr S r μ' := fun p l e R s m args below meth c D σ tA A H0 cells slots Q hC hc hs hret hk =>
  mStps_ok hC k hk h (fun hk1 => E p l e R s m args below meth c D σ tA A H0 cells slots Q hC hc hs hret hk1)
theorem mEv.gd {g : Prop} {inst : Decidable g} (k : Nat) (h : mStps M.2.2.2.2 k S = @ite _ g inst (some S') none) (hg : g) (E : mEv d M scr S' r μ') : mEv d M scr S r μ' := mEv.stp k (h.trans (if_pos hg)) E
theorem mEv.br {g : Prop} {inst : Decidable g} (k : Nat) (h : mStps M.2.2.2.2 k S = some (@ite _ g inst S1 S2)) (E1 : g → mEv d M scr S1 r μ') (E2 : ¬ g → mEv d M scr S2 r μ') : mEv d M scr S r μ' := by
  refine mEv.stp k h ?_
  by_cases hg : g
  · rw [if_pos hg]; exact E1 hg
  · rw [if_neg hg]; exact E2 hg
theorem mEv.sw {x v : Int32} {t df : Nat} {ps : List (Int32 × Nat)} {z : List (Option Value)} {st : List Value} (E1 : x = v → mEv d M scr (t, [], z, st, μ) r μ') (E2 : ¬ x = v → mEv d M scr (mSw x ps df, [], z, st, μ) r μ') : mEv d M scr (mSw x ((v, t) :: ps) df, [], z, st, μ) r μ' := by
  show mEv d M scr ((if x = v then t else mSw x ps df), [], z, st, μ) r μ'
  by_cases hg : x = v
  · rw [if_pos hg]; exact E1 hg
  · rw [if_neg hg]; exact E2 hg
theorem mEv.reti {pc n a b : Nat} {cd : List MEn} {z : List (Option Value)} {v : Int32} (hn : ∃ ty, M.2.2.2.1 = some ty ∧ narrow ty (.int v) = .int v) : mEv d M scr (pc, (.ireturn, n, a, b) :: cd, z, [.int v], μ) (some (.int v)) μ := by
  intro p l e R s m args below meth c D σ tA A H0 cells slots Q hC hc hs hret hk H locs ls hP hD hS hL
  obtain ⟨hd, ho, -⟩ := mChk.head hk
  simp only [mOpd, Nat.beq_eq] at ho
  subst ho
  exact hret pc H locs ls ⟨hd, hn⟩ hP hD hS
theorem mEv.retl {pc n a b : Nat} {cd : List MEn} {z : List (Option Value)} {v : Int64} (hn : M.2.2.2.1 = some .long) : mEv d M scr (pc, (.lreturn, n, a, b) :: cd, z, [.long v], μ) (some (.long v)) μ := by
  intro p l e R s m args below meth c D σ tA A H0 cells slots Q hC hc hs hret hk H locs ls hP hD hS hL
  obtain ⟨hd, ho, -⟩ := mChk.head hk
  simp only [mOpd, Nat.beq_eq] at ho
  subst ho
  exact hret pc H locs ls ⟨hd, hn⟩ hP hD hS
theorem mEv.retv {pc n a b : Nat} {cd : List MEn} {z : List (Option Value)} (hn : M.2.2.2.1 = none) : mEv d M scr (pc, (.return_, n, a, b) :: cd, z, [], μ) none μ := by
  intro p l e R s m args below meth c D σ tA A H0 cells slots Q hC hc hs hret hk H locs ls hP hD hS hL
  obtain ⟨hd, ho, -⟩ := mChk.head hk
  simp only [mOpd, Nat.beq_eq] at ho
  subst ho
  exact hret pc H locs ls ⟨hd, hn⟩ hP hD hS
end EV
def mWs (M : MB) : List Cond := .code M.1 M.2.1 M.2.2.1 M.2.2.2.1 :: mTt
def mRm (d : Nat) : Room := { frames := d, cells := 0, slots := 0, locals := 40 * d }
def mBf (D : va_G) (σ : Nat → Nat) (tA : Nat → ClassId) (sz : Nat) (μ : MMe) : State → Prop := fun U => U.heap.size = sz ∧ va_P D cls_ (mW σ tA μ) U.heap ∧ va_K D cls_ (mTy tA) U ∧ va_D (fun _ => True) (mW σ tA μ)
def mQ (D : va_G) (σ : Nat → Nat) (tA : Nat → ClassId) (A : Nat → Prop) (r : Option Value) (μ' : MMe) : Array Value → State → Outcome → State → Prop := fun _ st oc t => (oc = .returned (r.map (cV σ)) ∧ va_P D cls_ (mW σ tA μ') t.heap ∧ va_K D cls_ (mTy tA) t ∧ va_D A (mW σ tA μ')) ∧ va_F A st t
def mCall (d : Nat) (M : MB) (as : List Value) (μ : MMe) (r : Option Value) (μ' : MMe) : Prop :=
  ∀ (l : Launch) (D : va_G) (σ : Nat → Nat) (tA : Nat → ClassId) (sz : Nat), Met l M.1 (mWs M) (mRm d) (va_Pc (as.map (cV σ)) (mBf D σ tA sz μ)) (mQ D σ tA (va_A (mW σ tA μ) sz) r μ') 0 0 (va_A (mW σ tA μ) sz)
/-! the locals with which a body begins -/
def mEn : List Value → List (Option Value)
  | [] => []
  | v :: vs => if v.category = 2 then some v :: none :: mEn vs else some v :: mEn vs
def mEnt (nL : Nat) (as : List Value) : List (Option Value) := mEn as ++ List.replicate (nL - (mEn as).length) none
theorem cV_cat {σ : Nat → Nat} {v : Value} : (cV σ v).category = v.category := by cases v <;> rfl
theorem mEn_c {σ : Nat → Nat} : ∀ as : List Value, cL σ (mEn as) = mEn (as.map (cV σ))
  | [] => rfl
  | v :: vs => by
    rw [List.map_cons]
    unfold mEn
    rw [cV_cat]
    by_cases h : v.category = 2
    · rw [if_pos h, if_pos h, ← mEn_c vs]; rfl
    · rw [if_neg h, if_neg h, ← mEn_c vs]; rfl
theorem mEnt_c {σ : Nat → Nat} {nL : Nat} {as : List Value} : cL σ (mEnt nL as) = mEnt nL (as.map (cV σ)) := by
  unfold mEnt
  rw [← mEn_c, cL_len]
  unfold cL
  rw [List.map_append, List.map_replicate]
  rfl
theorem mEn_args : ∀ (as : List Value) (i0 j : Nat) (v : Value), (mEn as)[j]? = some (some v) → (i0 + j, v) ∈ lv_args i0 as
  | [], i0, j, v, h => by simp [mEn] at h
  | w :: ws, i0, j, v, h => by
    unfold mEn at h
    unfold lv_args
    by_cases hc : w.category = 2
    · rw [if_pos hc] at h ⊢
      match j, h with
      | 0, h => cases h; exact List.mem_cons_self
      | 1, h => cases h
      | j + 2, h =>
        have := mEn_args ws (i0 + 2) j v h
        rw [show i0 + (j + 2) = i0 + 2 + j by omega]
        exact List.mem_cons_of_mem _ this
    · rw [if_neg hc] at h ⊢
      match j, h with
      | 0, h => cases h; exact List.mem_cons_self
      | j + 1, h =>
        have := mEn_args ws (i0 + 1) j v h
        rw [show i0 + (j + 1) = i0 + 1 + j by omega]
        exact List.mem_cons_of_mem _ this
theorem mEn_len : ∀ as : List Value, (mEn as).length = (lg_sl as).length
  | [] => rfl
  | v :: vs => by
    unfold mEn
    show _ = (List.flatMap _ (v :: vs)).length
    rw [List.flatMap_cons]
    by_cases h : v.category = 2
    · rw [if_pos h, if_pos h]; show (mEn vs).length + 2 = _; rw [mEn_len vs, List.length_append]; show _ = 2 + (lg_sl vs).length; omega
    · rw [if_neg h, if_neg h]; show (mEn vs).length + 1 = _; rw [mEn_len vs, List.length_append]; show _ = 1 + (lg_sl vs).length; omega
theorem mEnt_has {vs : List Value} {nL : Nat} (h : (mEn vs).length ≤ nL) : mL ((lg_sl vs ++ List.replicate (nL - (lg_sl vs).length) Slot.unset).toArray) nL (mEnt nL vs) := by
  have h1 := lv_entry vs (n := nL) (by rw [← mEn_len]; exact h)
  refine ⟨⟨h1.1, h1.2.1, fun q hq => h1.2.2 q ?_⟩, ?_⟩
  · obtain ⟨j, v⟩ := q
    have hj := mAs_iff.mp hq
    unfold mEnt at hj
    by_cases hl : j < (mEn vs).length
    · rw [List.getElem?_append_left hl] at hj
      have := mEn_args vs 0 j v hj
      rwa [Nat.zero_add] at this
    · rw [List.getElem?_append_right (by omega)] at hj
      have := List.eq_of_mem_replicate (List.mem_of_getElem? hj)
      cases this
  · unfold mEnt
    rw [List.length_append, List.length_replicate]
    omega
set_option maxHeartbeats 4000000 in
/-- a body's run is the method's contract -/
theorem mCall.intro {d : Nat} {M : MB} {as : List Value} {μ : MMe} {r : Option Value} {μ' : MMe} (hok : mOk M) (hpl : plainFor M.1 = true) (hmax : Nat.ble (mEn as).length M.2.2.1 = true) (E : mEv d M none (0, [], mEnt M.2.2.1 as, [], μ) r μ') : mCall d M as μ r μ' := by
  intro l D σ tA sz
  refine va_MetF (cc := M.2.1) (maxL := M.2.2.1) (ret := M.2.2.2.1) hpl rfl ?_
  intro p e s m args below meth c s₁ B hml hv
  obtain ⟨rfl, hsz, hP, hK, hD0⟩ := hv
  have hx := B.exec
  have hb := B.bytes
  have hr := B.returns
  have hts := atoms_spec (ws := mWs M) B.pre
  have hown : s.vm.findClass M.1.cls = some m.cls := findClass_of_methodNamed B.named
  have hlocks := B.notSynchronized
  subst hsz
  have hD := hD0.self (sz := s.heap.size)
  have hA : ∀ q : Nat, s.heap.size ≤ q → va_A (mW σ tA μ) s.heap.size q := fun q h => Or.inr h
  have hS : va_S (va_A (mW σ tA μ) s.heap.size) s.heap s.heap [] := va_S.rf
  rw [lg_entry_eq]
  have hlen : (mEn (as.map (cV σ))).length ≤ M.2.2.1 := by rw [← mEn_c, cL_len]; exact Nat.le_of_ble_eq_true hmax
  have hl := mEnt_has hlen
  rw [← mEnt_c] at hl
  refine E p l e _ s m _ below meth c D σ tA (va_A (mW σ tA μ) s.heap.size) s.heap 0 0 _ ⟨hx, hb, hml, hown, fun w hw => hts w (List.mem_cons_of_mem _ hw), hK, hA, Nat.le_refl _, Nat.le_refl _, hok, fun L xs h => by cases h⟩ (Nat.le_refl _) (Nat.le_refl _) ?_ rfl s.heap [] _ hP hD hS hl
  intro pc H locs ls hret hP1 hD1 hS1
  cases r with
  | none => exact W.vret hx hb (hr.trans hret.2) (fun t ht hW => ⟨⟨rfl, by rw [ht]; exact hP1, va_K.moved hW.alike hK, hD1⟩, hS1.F ht⟩) hS1.2.2 hret.1
  | some v =>
    cases v with
    | int v =>
      obtain ⟨h1, ty, h2, h3⟩ := hret
      exact W.zret hx hb (hr.trans h2) h3 (fun t ht hW => ⟨⟨rfl, by rw [ht]; exact hP1, va_K.moved hW.alike hK, hD1⟩, hS1.F ht⟩) hS1.2.2 h1
    | long v => exact W.lret hx hb (hr.trans hret.2) (fun t ht hW => ⟨⟨rfl, by rw [ht]; exact hP1, va_K.moved hW.alike hK, hD1⟩, hS1.F ht⟩) hS1.2.2 hret.1
    | _ => exact hret.elim
end
section
/-! calls -/
def mLkV (own : String) (idx n : Nat) (N : MB) : Prop := GoodIn mTt (wsV own idx N.1.cls N.1 (mWs N)) ∧ (N.1.cls ≠ "java/lang/invoke/MethodHandle" ∧ N.1.cls ≠ "java/lang/invoke/VarHandle" ∧ (parseMethodDescriptor N.1.desc).map (fun d => d.parameters.length) = some n) ∧ N.2.2.1 ≤ 21
def mLkS (own : String) (idx n : Nat) (N : MB) : Prop := GoodIn mTt (va_wsS own idx N.1 (mWs N)) ∧ (N.1.cls ≠ "java/lang/invoke/MethodHandle" ∧ N.1.cls ≠ "java/lang/invoke/VarHandle" ∧ (parseMethodDescriptor N.1.desc).map (fun d => d.parameters.length) = some n) ∧ N.2.2.1 ≤ 21
theorem m_at {i : Nat} {w : Cond} (h : decide (lw_tbl[i]? = some w) = true) (g : goodWord w = true) : w ∈ mTt := mTt_in (List.mem_of_getElem? (of_decide_eq_true h)) g
theorem mGi {w : Cond} (h : w ∈ mTt) : w ∈ mTt ∧ ((w.onTables && w.keeps) = true ∨ ∃ ty, w = .arrayClass ty) := mTt_good w h
theorem mGi_app {a b : List Cond} (ha : GoodIn mTt a) (hb : GoodIn mTt b) : GoodIn mTt (a ++ b) := fun w h => (List.mem_append.mp h).elim (ha w) (hb w)
theorem mGi_cons {c : Cond} {a : List Cond} (hc : c ∈ mTt) (ha : GoodIn mTt a) : GoodIn mTt (c :: a) := fun w h => (List.mem_cons.mp h).elim (fun e => e ▸ mGi hc) (ha w)
theorem mGi_nil : GoodIn mTt [] := fun w h => by cases h
theorem mLkV.of {own : String} {idx n : Nat} {N : MB} (i1 i2 i3 i4 i5 : Nat) (h1 : decide (lw_tbl[i1]? = some (.methodLink own idx N.1)) = true) (h2 : decide (lw_tbl[i2]? = some (.instanceMethod N.1)) = true) (h3 : decide (lw_tbl[i3]? = some (.selects N.1.cls N.1 N.1)) = true) (h4 : decide (lw_tbl[i4]? = some (.initialized N.1.cls)) = true) (h5 : decide (lw_tbl[i5]? = some (.code N.1 N.2.1 N.2.2.1 N.2.2.2.1)) = true)
    (h6 : N.1.cls ≠ "java/lang/invoke/MethodHandle" ∧ N.1.cls ≠ "java/lang/invoke/VarHandle" ∧ (parseMethodDescriptor N.1.desc).map (fun d => d.parameters.length) = some n) (h7 : Nat.ble N.2.2.1 21 = true) : mLkV own idx n N :=
  ⟨mGi_app (mGi_cons (m_at h1 rfl) (mGi_cons (m_at h2 rfl) (mGi_cons (m_at h3 rfl) (mGi_cons (m_at h4 rfl) mGi_nil)))) (mGi_cons (m_at h5 rfl) mTt_good), h6, Nat.le_of_ble_eq_true h7⟩
theorem mLkS.of {own : String} {idx n : Nat} {N : MB} (i1 i2 i4 i5 : Nat) (h1 : decide (lw_tbl[i1]? = some (.methodLink own idx N.1)) = true) (h2 : decide (lw_tbl[i2]? = some (.static N.1)) = true) (h4 : decide (lw_tbl[i4]? = some (.initialized N.1.cls)) = true) (h5 : decide (lw_tbl[i5]? = some (.code N.1 N.2.1 N.2.2.1 N.2.2.2.1)) = true)
    (h6 : N.1.cls ≠ "java/lang/invoke/MethodHandle" ∧ N.1.cls ≠ "java/lang/invoke/VarHandle" ∧ (parseMethodDescriptor N.1.desc).map (fun d => d.parameters.length) = some n) (h7 : Nat.ble N.2.2.1 21 = true) : mLkS own idx n N :=
  ⟨mGi_app (mGi_cons (m_at h1 rfl) (mGi_cons (m_at h2 rfl) (mGi_cons (m_at h4 rfl) mGi_nil))) (mGi_cons (m_at h5 rfl) mTt_good), h6, Nat.le_of_ble_eq_true h7⟩
def mCat (st : List Value) : Nat := (st.map fun v => v.category).sum
theorem mCat_c {σ : Nat → Nat} {st : List Value} : ((st.map (cV σ)).map fun v => v.category).sum = mCat st := by
  unfold mCat
  rw [List.map_map]
  congr 2
  funext v
  exact cV_cat
section CALLS
variable {p : Program} {l : Launch} {e : Env} {R : Room} {s : State} {m : MethodId} {args : Array Value} {below : List Frame} {meth : Method} {c : Code} {D : va_G} {σ : Nat → Nat} {tA : Nat → ClassId} {A : Nat → Prop} {H0 : Heap} {cells slots : Nat} {Q : State → Prop}
/-- behind a call -/
theorem m_after {H : Heap} {locs : List Loc} {pc : Nat} {ls : Array Slot} {st0 st : List Value} {a : Array Value} {r : Option Value} {μ μ1 : MMe} (hA : ∀ q, H0.size ≤ q → A q)
    (hr : va_Run p l e R s m args below meth c H locs cells slots 0 0 (F0 m pc ls st0) (st.map (cV σ)) (mQ D σ tA (va_A (mW σ tA μ) H.size) r μ1 a) (va_A (mW σ tA μ) H.size)) (hD : va_D A (mW σ tA μ)) (hS : va_S A H0 H locs)
    (kk : ∀ (H1 : Heap) (locs1 : List Loc), va_P D cls_ (mW σ tA μ1) H1 → va_D A (mW σ tA μ1) → va_S A H0 H1 locs1 → W p l e R s m args below meth c H1 locs1 cells slots Q (F0 m (pc + 3) ls ((r.toList ++ st).map (cV σ)))) : W p l e R s m args below meth c H locs cells slots Q (F0 m pc ls st0) := by
  have hA1 : ∀ q, va_A (mW σ tA μ) H.size q → A q := by
    intro q h
    rcases h with ⟨k, e, h⟩ | h
    · exact hD.2 k (q, e) h
    · exact hA q (Nat.le_trans hS.1 h)
  intro T hT X
  obtain ⟨v, st₀, t, T', L, h0, X', hL, e1, e2, ⟨⟨hv, hP1, hK1, hD1⟩, hz, hk⟩, stp⟩ := hr T hT X
  have hv : v = r.map (cV σ) := by injection hv
  subst hv
  rw [h0] at hz hk
  obtain ⟨t2, a1, b1⟩ := kk T'.heap (locs ++ L) (by rw [e1]; exact hP1) (hD1.weaken (fun _ _ _ h => hA1 _ h))
    ⟨Nat.le_trans hS.1 (by rw [e1]; exact hz), fun q h1 h2 => by rw [e1, hk q (Nat.lt_of_lt_of_le h1 hS.1) (fun z => h2 (hA1 q z))]; exact hS.2.1 q h1 h2, fun q hq => by
      rcases List.mem_append.mp hq with h | h
      · exact hS.2.2 q h
      · exact hA1 _ (hL q h)⟩ T' rfl X'
  refine ⟨t2, stp t2 ?_, b1⟩
  rw [show ({ F0 m pc ls st0 with pc := (F0 m pc ls st0).pc + 3, stack := (r.map (cV σ)).toList ++ st.map (cV σ) } : JFrame) = F0 m (pc + 3) ls ((r.toList ++ st).map (cV σ)) from by
    rw [List.map_append]
    cases r <;> rfl]
  exact a1
theorem m_blind {as : List Value} {sz : Nat} {μ : MMe} : FrameBlind (va_Pc as (mBf D σ tA sz μ)) := fun a U g mk q => by
  obtain ⟨q0, q1, qP, qK, qD⟩ := q
  exact ⟨q0, q1, qP, va_K.moved (u := U) (U := U.calling g mk a) (Vm.Alike.refl U.vm) qK, qD⟩
end CALLS
section EVC
variable {d : Nat} {M N : MB} {scr : Option (Nat × (Nat → Int32))} {r r' : Option Value} {μ μ' μ1 : MMe} {pc idx n k a b : Nat} {cd : List MEn} {z : List (Option Value)} {st stk As : List Value}
set_option maxHeartbeats 4000000 in
theorem mEv.callS (hl : mLkS M.1.cls idx n N) (hn : As.length = n) (hst : stk = As.reverse ++ st) (hcat : Nat.ble (mCat st) 8 = true) (hc : mCall d N As μ r μ1) (E : mEv (d + 1) M scr (pc + 3, cd, z, r.toList ++ st, μ1) r' μ') : mEv (d + 1) M scr (pc, (.invokestatic idx, k, a, b) :: cd, z, stk, μ) r' μ' := by
  intro p l e R s m args below meth c D σ tA A H0 cells slots Q hC hcs hss hret hk H locs ls hP hD hS hL
  obtain ⟨hd, ho, hr⟩ := mChk.head hk
  simp only [mOpd, Nat.beq_eq] at ho
  subst ho
  obtain ⟨hx, hb, hml, hown, hts, hK, hA, hfr, hlo, hok, hsc⟩ := id hC
  have hM := hc l D σ tA H.size
  subst hst
  refine m_after (st := st) hA (va_runS (As := As.map (cV σ)) ⟨hx, hb, hml, hown, hts⟩ hM (va_cwS n hts hl.1 rfl rfl rfl hl.2.1 ⟨by show d + 1 ≤ R.frames; exact hfr, by have := hl.2.2; show 8 + (N.2.2.1 + 11) + 40 * d ≤ R.locals; omega⟩) ⟨m_blind, fun U hU hW => ⟨rfl, by rw [hU], by rw [hU]; exact hP, va_K.moved hW.alike hK, hD.weaken (fun _ _ _ _ => trivial)⟩⟩ rfl (by rw [List.length_map]; exact hn) hL.1.1 (by rw [List.map_append, List.map_reverse]) (lv_room (by rw [mCat_c]; exact Nat.le_of_ble_eq_true hcat)) hd ⟨hcs, hss⟩) hD hS (fun H1 locs1 hP1 hD1 hS1 => ?_)
  exact E p l e R s m args below meth c D σ tA A H0 cells slots Q hC hcs hss hret hr H1 locs1 ls hP1 hD1 hS1 hL
set_option maxHeartbeats 4000000 in
theorem mEv.callV {h ci : Nat} {fs : List Value} (hl : mLkV M.1.cls idx n N) (hn : As.length = n) (hst : stk = As.reverse ++ .ref h :: st) (hcat : Nat.ble (mCat st) 8 = true) (hrv : μ[h]? = some (.inr (ci, fs))) (hci : (cls_[ci]?).map (·.1) = some N.1.cls) (hc : mCall d N (.ref h :: As) μ r μ1) (E : mEv (d + 1) M scr (pc + 3, cd, z, r.toList ++ st, μ1) r' μ') : mEv (d + 1) M scr (pc, (.invokevirtual idx, k, a, b) :: cd, z, stk, μ) r' μ' := by
  intro p l e R s m args below meth c D σ tA A H0 cells slots Q hC hcs hss hret hk H locs ls hP hD hS hL
  obtain ⟨hd, ho, hr⟩ := mChk.head hk
  simp only [mOpd, Nat.beq_eq] at ho
  subst ho
  obtain ⟨hx, hb, hml, hown, hts, hK, hA, hfr, hlo, hok, hsc⟩ := id hC
  have hM := hc l D σ tA H.size
  subst hst
  cases hq : cls_[ci]? with
  | none => rw [hq] at hci; cases hci
  | some q =>
    rw [hq] at hci
    have hci : q.1 = N.1.cls := Option.some.inj hci
    have hrecv := va_recv hK hP (ci := ci) (q0 := h) hq (mW_at (σ := σ) (tA := tA) hrv)
    rw [hci] at hrecv
    refine m_after (st := st) hA (va_runV (As := As.map (cV σ)) (b := σ h) ⟨hx, hb, hml, hown, hts⟩ hM (cwV n hts hl.1 rfl rfl rfl ⟨rfl, hl.2.1⟩ ⟨by show d + 1 ≤ R.frames; exact hfr, by have := hl.2.2; show 8 + (N.2.2.1 + 11) + 40 * d ≤ R.locals; omega⟩) ⟨m_blind, hrecv, fun U hU hW => ⟨rfl, by rw [hU], by rw [hU]; exact hP, va_K.moved hW.alike hK, hD.weaken (fun _ _ _ _ => trivial)⟩⟩ rfl (by rw [List.length_map]; exact hn) hL.1.1 (by rw [List.map_append, List.map_reverse]; rfl) (lv_room (by rw [mCat_c]; exact Nat.le_of_ble_eq_true hcat)) hd ⟨hcs, hss⟩) hD hS (fun H1 locs1 hP1 hD1 hS1 => ?_)
    exact E p l e R s m args below meth c D σ tA A H0 cells slots Q hC hcs hss hret hr H1 locs1 ls hP1 hD1 hS1 hL
/-- System.arraycopy of ints -/
def mLkC (own : String) (idx : Nat) : Prop := Cond.methodLink own idx arraycopyName ∈ mTt ∧ Cond.native arraycopyName ∈ mTt ∧ Cond.static arraycopyName ∈ mTt ∧ Cond.initialized "java/lang/System" ∈ mTt
def mCpG (sp dp n : Int32) (n0 n1 : Nat) : Bool := !(decide (sp < 0)) && (!(decide (dp < 0)) && (!(decide (n < 0)) && (Nat.ble (sp.toNatClampNeg + n.toNatClampNeg) n0 && Nat.ble (dp.toNatClampNeg + n.toNatClampNeg) n1)))
set_option maxHeartbeats 4000000 in
theorem mEv.copy {h0 h1 n0 n1 : Nat} {f g : Nat → Int32} {sp dp cn : Int32} (hl : mLkC M.1.cls idx) (hst : stk = .int cn :: .int dp :: .ref h1 :: .int sp :: .ref h0 :: st) (hcat : Nat.ble (mCat st) 8 = true) (he0 : μ[h0]? = some (.inl (0, n0, .inl f))) (he1 : μ[h1]? = some (.inl (0, n1, .inl g))) (hg : mCpG sp dp cn n0 n1 = true)
    (E : mEv (d + 1) M scr (pc + 3, cd, z, st, μ.set h1 (.inl (0, n1, .inl (va_cpy f g sp.toNatClampNeg dp.toNatClampNeg cn.toNatClampNeg)))) r' μ') : mEv (d + 1) M scr (pc, (.invokestatic idx, k, a, b) :: cd, z, stk, μ) r' μ' := by
  intro p l e R s m args below meth c D σ tA A H0 cells slots Q hC hcs hss hret hk H locs ls hP hD hS hL
  obtain ⟨hd, ho, hr⟩ := mChk.head hk
  simp only [mOpd, Nat.beq_eq] at ho
  subst ho
  obtain ⟨hx, hb, hml, hown, hts, hK, hA, hfr, hlo, hok, hsc⟩ := id hC
  subst hst
  simp only [mCpG, Bool.and_eq_true, Bool.not_eq_true', decide_eq_false_iff_not, Nat.ble_eq] at hg
  obtain ⟨g1, g2, g3, g4, g5⟩ := hg
  have hw0 := mW_at (σ := σ) (tA := tA) he0
  have hw1 := mW_at (σ := σ) (tA := tA) he1
  refine va_copyi hx hb (hml.trans hL.1.1.symm) hown (hts _ hl.1) (hts _ hl.2.1) (hts _ hl.2.2.1) (hts _ hl.2.2.2) hK hP hD hS h0 h1 0 0 (a0 := σ h0) (a := σ h1) (c0 := tA 0) (c1 := tA 0) (n0 := n0) (n1 := n1) (f := f) (g := g) (ty := .int) hw0 hw1 rfl rfl rfl g1 g2 g3 g4 g5 (fun _ _ => rfl) (Nat.le_trans (Nat.succ_le_succ (Nat.zero_le d)) hfr) (by
    rw [mCat_c]
    have h8 := Nat.le_of_ble_eq_true hcat
    have hn : nativeFrameWords "java/lang/System" "arraycopy" 5 = 7 := by decide +kernel
    rw [hn]; omega) hd (fun H1 locs1 hP1 hD1 hS1 => ?_)
  rw [show ((mW σ tA μ).set h1 (σ h1, Sum.inl (tA 0, n1, Sum.inl (va_cpy f g sp.toNatClampNeg dp.toNatClampNeg cn.toNatClampNeg)))) = mW σ tA (μ.set h1 (.inl (0, n1, .inl (va_cpy f g sp.toNatClampNeg dp.toNatClampNeg cn.toNatClampNeg)))) from mW_set (c := .inl (0, n1, .inl (va_cpy f g sp.toNatClampNeg dp.toNatClampNeg cn.toNatClampNeg)))] at hP1 hD1
  exact E p l e R s m args below meth c D σ tA A H0 cells slots Q hC hcs hss hret hr H1 locs1 ls hP1 hD1 hS1 hL
/-- the law's script: read alone -/
theorem mEv.sld {L : Nat} {xs : Nat → Int32} {i : Int32} (hg : inb i L = true) (E : mEv d M (some (L, xs)) (pc + 1, cd, z, .int (xs i.toNatClampNeg) :: st, μ) r' μ') : mEv d M (some (L, xs)) (pc, (.iaload, k, a, b) :: cd, z, .int i :: .ref 1000000 :: st, μ) r' μ' := by
  intro p l e R s m args below meth c D σ tA A H0 cells slots Q hC hcs hss hret hk H locs ls hP hD hS hL
  obtain ⟨hd, ho, hr⟩ := mChk.head hk
  simp only [mOpd, Nat.beq_eq] at ho
  subst ho
  obtain ⟨hx, hb, hml, hown, hts, hK, hA, hfr, hlo, hok, hsc⟩ := id hC
  obtain ⟨hX, hbl, hbA⟩ := hsc L xs rfl
  exact va_sld hx hb hX hbl hbA hS (inb_in hg) hd (E p l e R s m args below meth c D σ tA A H0 cells slots Q hC hcs hss hret hr H locs ls hP hD hS hL)
theorem mEv.slen {L : Nat} {xs : Nat → Int32} (E : mEv d M (some (L, xs)) (pc + 1, cd, z, .int (nI L) :: st, μ) r' μ') : mEv d M (some (L, xs)) (pc, (.arraylength, k, a, b) :: cd, z, .ref 1000000 :: st, μ) r' μ' := by
  intro p l e R s m args below meth c D σ tA A H0 cells slots Q hC hcs hss hret hk H locs ls hP hD hS hL
  obtain ⟨hd, ho, hr⟩ := mChk.head hk
  simp only [mOpd, Nat.beq_eq] at ho
  subst ho
  obtain ⟨hx, hb, hml, hown, hts, hK, hA, hfr, hlo, hok, hsc⟩ := id hC
  obtain ⟨hX, hbl, hbA⟩ := hsc L xs rfl
  exact va_slen hx hb hX hbl hbA hS hd (E p l e R s m args below meth c D σ tA A H0 cells slots Q hC hcs hss hret hr H locs ls hP hD hS hL)
end EVC
/-! the frame: a contract of few cells serves in a larger world, at other places -/
theorem m_mono {l : Launch} {y : MethodName} {ws : List Cond} {rm : Room} {P1 P2 : Array Value → State → Prop} {Q1 Q2 : Array Value → State → Outcome → State → Prop} {mc ms : Nat} {f1 f2 : Addr → Prop} (h : Met l y ws rm P1 Q1 mc ms f1) (hP : ∀ a s, P2 a s → P1 a s) (hQ : ∀ a s o t, P2 a s → Q1 a s o t → Q2 a s o t) (hf : ∀ q, f1 q → f2 q) : Met l y ws rm P2 Q2 mc ms f2 := by
  intro p e ha hc hk s m args below hfr happ hp hK
  obtain ⟨n, o, h1, h2, h3, h4, L, h5, h6⟩ := h p e ha hc hk s m args below hfr happ (hP _ _ hp) hK
  exact ⟨n, o, h1, h2, h3, hQ _ _ _ _ hp h4, L, h5, fun q hq => hf _ (h6 q hq)⟩
theorem cV_comp {σ ρ : Nat → Nat} (v : Value) : cV (fun i => σ (ρ i)) v = cV σ (cV ρ v) := by cases v <;> rfl
theorem cE_comp {σ ρ : Nat → Nat} {tA : Nat → ClassId} (c : va_E) : cE (fun i => σ (ρ i)) tA c = cE σ tA (cE ρ (fun t => t) c) := by
  match c with
  | .inl (t, n, .inl f) => rfl
  | .inl (t, n, .inr (.inl f)) => rfl
  | .inl (t, n, .inr (.inr (.inl f))) => rfl
  | .inl (t, n, .inr (.inr (.inr (.inl f)))) => rfl
  | .inl (t, n, .inr (.inr (.inr (.inr g)))) =>
    have h : (fun k => (g k).map (fun i => σ (ρ i))) = (fun k => ((g k).map ρ).map σ) := by
      funext k
      rw [Option.map_map]
      rfl
    exact congrArg (fun f => (Sum.inl (tA t, n, .inr (.inr (.inr (.inr f)))) : va_E)) h
  | .inr (ci, fs) =>
    show Sum.inr (ci, fs.map (cV fun i => σ (ρ i))) = Sum.inr (ci, (fs.map (cV ρ)).map (cV σ))
    rw [List.map_map]
    congr 2
    exact List.map_congr_left (fun v _ => cV_comp v)
theorem mW_some {σ : Nat → Nat} {tA : Nat → ClassId} {μ : MMe} {k : Nat} {q : Nat × va_E} (h : (mW σ tA μ)[k]? = some q) : ∃ c, μ[k]? = some c ∧ q = (σ k, cE σ tA c) := by
  unfold mW at h
  rw [List.getElem?_mapIdx] at h
  cases hc : μ[k]? with
  | none => rw [hc] at h; cases h
  | some c => rw [hc] at h; exact ⟨c, rfl, (Option.some.inj h).symm⟩
set_option maxHeartbeats 4000000 in
theorem mCall.frame {d : Nat} {M : MB} {as : List Value} {μ μ' : MMe} {r : Option Value} (hc : mCall d M as μ r μ') (ρ : Nat → Nat) (B B' : MMe) (hlen : μ'.length = μ.length) (hlB : B'.length = B.length) (hin : ∀ i c, μ[i]? = some c → B[ρ i]? = some (cE ρ (fun t => t) c)) (hinj : ∀ i j, i < μ.length → j < μ.length → ρ i = ρ j → i = j)
    (hout : ∀ i c, μ'[i]? = some c → B'[ρ i]? = some (cE ρ (fun t => t) c)) (hoth : ∀ k, (∀ i, i < μ.length → ρ i ≠ k) → B'[k]? = B[k]?) : mCall d M (as.map (cV ρ)) B (r.map (cV ρ)) B' := by
  intro l D σ tA sz
  have key : ∀ (k : Nat) (q : Nat × va_E), (mW (fun i => σ (ρ i)) tA μ)[k]? = some q → (mW σ tA B)[ρ k]? = some q := by
    intro k q h
    obtain ⟨c, h1, rfl⟩ := mW_some h
    exact (mW_at (hin k c h1)).trans (congrArg (fun e => some (σ (ρ k), e)) (cE_comp c).symm)
  have hsub : ∀ q, va_A (mW (fun i => σ (ρ i)) tA μ) sz q → va_A (mW σ tA B) sz q := by
    intro q h
    rcases h with ⟨k, e, h⟩ | h
    · exact Or.inl ⟨ρ k, e, key k _ h⟩
    · exact Or.inr h
  refine m_mono (hc l D (fun i => σ (ρ i)) tA sz) ?_ ?_ hsub
  · rintro a s ⟨h1, h2, h3, h4, h5⟩
    refine ⟨?_, h2, h3.by ρ key, h4, h5.by ρ key ?_⟩
    · rw [h1, List.map_map]
      congr 1
      exact (List.map_congr_left (fun v _ => cV_comp v)).symm
    · intro i j hi hj
      unfold mW at hi hj
      rw [List.length_mapIdx] at hi hj
      exact hinj i j hi hj
  · rintro a s o t ⟨h1, h2, h3, h4, h5⟩ ⟨⟨g1, g2, g3, g4⟩, g5⟩
    refine ⟨⟨?_, ?_, g3, ?_⟩, ?_⟩
    · rw [g1, Option.map_map]
      congr 1
      cases r with
      | none => rfl
      | some v => exact congrArg some (cV_comp v)
    · intro k q hq
      obtain ⟨c, hc1, rfl⟩ := mW_some hq
      by_cases hk : ∃ i, i < μ.length ∧ ρ i = k
      · obtain ⟨i, hi, rfl⟩ := hk
        have hi' : i < μ'.length := by omega
        have hB := hout i _ (List.getElem?_eq_getElem hi')
        rw [hc1] at hB
        have hB := Option.some.inj hB
        subst hB
        have := g2 i _ (mW_at (List.getElem?_eq_getElem hi'))
        rw [cE_comp] at this
        exact this
      · have hk2 : ∀ i, i < μ.length → ρ i ≠ k := fun i hi e => hk ⟨i, hi, e⟩
        have hB := hoth k hk2
        rw [hc1] at hB
        have hq0 := mW_at (σ := σ) (tA := tA) hB.symm
        have hat := h3 k _ hq0
        have hlt := hat.lt
        refine hat.kept ?_
        refine g5.2 _ hlt ?_
        rintro (⟨i, e, h⟩ | h)
        · have hbig := key i _ h
          have := h5.1 _ _ _ _ hbig hq0 rfl
          obtain ⟨c', hc', -⟩ := mW_some h
          exact hk2 i (List.getElem?_eq_some_iff.mp hc').1 this
        · have : (σ k, cE σ tA c).1 < s.heap.size := hlt
          omega
    · refine ⟨fun i j p q hp hq hpq => ?_, fun k q hq => ?_⟩
      · obtain ⟨c1, hc1, rfl⟩ := mW_some hp
        obtain ⟨c2, hc2, rfl⟩ := mW_some hq
        have hi : i < B.length := by rw [← hlB]; exact (List.getElem?_eq_some_iff.mp hc1).1
        have hj : j < B.length := by rw [← hlB]; exact (List.getElem?_eq_some_iff.mp hc2).1
        exact h5.1 i j _ _ (mW_at (List.getElem?_eq_getElem hi)) (mW_at (List.getElem?_eq_getElem hj)) hpq
      · obtain ⟨c1, hc1, rfl⟩ := mW_some hq
        have hi : k < B.length := by rw [← hlB]; exact (List.getElem?_eq_some_iff.mp hc1).1
        exact Or.inl ⟨k, _, mW_at (List.getElem?_eq_getElem hi)⟩
    · exact ⟨g5.1, fun q hq hn => g5.2 q hq (fun z => hn (hsub q z))⟩
end
section
def T_X0_pairCell : List (Nat × List MEn) := [(0, [(.iload_n 0, 1, 0, 0), (.bipush 6, 2, 0, 0), (.imul, 1, 0, 0), (.iload_n 1, 1, 0, 0), (.iadd, 1, 0, 0), (.ireturn, 1, 0, 0)])]
def m_X0_pairCell : MB := (yX0_pairCell, cX0_pairCell, 2, (some .int), T_X0_pairCell)
theorem ok_X0_pairCell : mOk m_X0_pairCell := mOk.of (by decide +kernel)
theorem pl_X0_pairCell : plainFor m_X0_pairCell.1 = true := by decide +kernel
def T_X0_linkCell : List (Nat × List MEn) := [(0, [(.iload_n 0, 1, 0, 0), (.iload_n 1, 1, 0, 0), (.if_icmp .ge 12, 3, 14, 0), (.iload_n 0, 1, 0, 0), (.bipush 6, 2, 0, 0), (.imul, 1, 0, 0), (.iload_n 1, 1, 0, 0), (.iadd, 1, 0, 0), (.goto 9, 3, 20, 0)]),
  (14, [(.iload_n 1, 1, 0, 0), (.bipush 6, 2, 0, 0), (.imul, 1, 0, 0), (.iload_n 0, 1, 0, 0), (.iadd, 1, 0, 0)]),
  (20, [(.ireturn, 1, 0, 0)])]
def m_X0_linkCell : MB := (yX0_linkCell, cX0_linkCell, 2, (some .int), T_X0_linkCell)
theorem ok_X0_linkCell : mOk m_X0_linkCell := mOk.of (by decide +kernel)
theorem pl_X0_linkCell : plainFor m_X0_linkCell.1 = true := by decide +kernel
def T_X0_begin : List (Nat × List MEn) := [(0, [(.aload_n 0, 1, 0, 0), (.iload_n 1, 1, 0, 0), (.putfield 40, 3, 0, 0), (.aload_n 0, 1, 0, 0), (.iconst 0, 1, 0, 0), (.putfield 44, 3, 0, 1), (.aload_n 0, 1, 0, 0), (.iconst 1, 1, 0, 0), (.putfield 47, 3, 0, 2), (.aload_n 0, 1, 0, 0), (.iconst 0, 1, 0, 0), (.putfield 50, 3, 0, 3), (.aload_n 0, 1, 0, 0), (.iconst 0, 1, 0, 0), (.putfield 53, 3, 0, 4), (.aload_n 0, 1, 0, 0), (.getfield 11, 3, 0, 5), (.iconst 5, 1, 0, 0), (.invokestatic 56, 3, 0, 0), (.aload_n 0, 1, 0, 0), (.getfield 15, 3, 0, 6), (.iconst 0, 1, 0, 0), (.invokestatic 56, 3, 0, 0), (.aload_n 0, 1, 0, 0), (.getfield 18, 3, 0, 7), (.iconst 0, 1, 0, 0), (.invokestatic 56, 3, 0, 0), (.aload_n 0, 1, 0, 0), (.getfield 24, 3, 0, 9), (.iconst 0, 1, 0, 0), (.invokestatic 56, 3, 0, 0), (.aload_n 0, 1, 0, 0), (.getfield 27, 3, 0, 10), (.iconst 0, 1, 0, 0), (.invokestatic 56, 3, 0, 0), (.aload_n 0, 1, 0, 0), (.getfield 30, 3, 0, 11), (.iconst 0, 1, 0, 0), (.invokestatic 56, 3, 0, 0), (.iconst 0, 1, 0, 0), (.istore_n 2, 1, 0, 0)]),
  (75, [(.iload_n 2, 1, 0, 0), (.bipush 6, 2, 0, 0), (.if_icmp .ge 38, 3, 116, 0), (.iconst 0, 1, 0, 0), (.istore_n 3, 1, 0, 0)]),
  (83, [(.iload_n 3, 1, 0, 0), (.bipush 6, 2, 0, 0), (.if_icmp .ge 24, 3, 110, 0), (.aload_n 0, 1, 0, 0), (.getfield 21, 3, 0, 8), (.iload_n 2, 1, 0, 0), (.iload_n 3, 1, 0, 0), (.invokestatic 60, 3, 0, 0), (.iload_n 2, 1, 0, 0), (.iload_n 3, 1, 0, 0), (.invokestatic 64, 3, 0, 0), (.iastore, 1, 0, 0), (.iinc 3 1, 3, 0, 0), (.goto (-24), 3, 83, 0)]),
  (110, [(.iinc 2 1, 3, 0, 0), (.goto (-38), 3, 75, 0)]),
  (116, [(.return_, 1, 0, 0)])]
def m_X0_begin : MB := (yX0_begin, cX0_begin, 4, none, T_X0_begin)
theorem ok_X0_begin : mOk m_X0_begin := mOk.of (by decide +kernel)
theorem pl_X0_begin : plainFor m_X0_begin.1 = true := by decide +kernel
def T_X0_leastOther : List (Nat × List MEn) := [(0, [(.iload_n 0, 1, 0, 0), (.ifCond .eq 9, 3, 10, 0), (.iload_n 1, 1, 0, 0), (.ifCond .eq 5, 3, 10, 0), (.iconst 0, 1, 0, 0), (.ireturn, 1, 0, 0)]),
  (10, [(.iload_n 0, 1, 0, 0), (.iconst 1, 1, 0, 0), (.if_icmp .eq 12, 3, 24, 0), (.iload_n 1, 1, 0, 0), (.iconst 1, 1, 0, 0), (.if_icmp .eq 7, 3, 24, 0), (.iconst 1, 1, 0, 0), (.goto 4, 3, 25, 0)]),
  (24, [(.iconst 2, 1, 0, 0)]),
  (25, [(.ireturn, 1, 0, 0)])]
def m_X0_leastOther : MB := (yX0_leastOther, cX0_leastOther, 2, (some .int), T_X0_leastOther)
theorem ok_X0_leastOther : mOk m_X0_leastOther := mOk.of (by decide +kernel)
theorem pl_X0_leastOther : plainFor m_X0_leastOther.1 = true := by decide +kernel
def T_X0_fill : List (Nat × List MEn) := [(0, [(.iconst 0, 1, 0, 0), (.istore_n 2, 1, 0, 0)]),
  (2, [(.iload_n 2, 1, 0, 0), (.aload_n 0, 1, 0, 0), (.arraylength, 1, 0, 0), (.if_icmp .ge 13, 3, 18, 0), (.aload_n 0, 1, 0, 0), (.iload_n 2, 1, 0, 0), (.iload_n 1, 1, 0, 0), (.iastore, 1, 0, 0), (.iinc 2 1, 3, 0, 0), (.goto (-13), 3, 2, 0)]),
  (18, [(.return_, 1, 0, 0)])]
def m_X0_fill : MB := (yX0_fill, cX0_fill, 3, none, T_X0_fill)
theorem ok_X0_fill : mOk m_X0_fill := mOk.of (by decide +kernel)
theorem pl_X0_fill : plainFor m_X0_fill.1 = true := by decide +kernel
def T_X0_copyFrom : List (Nat × List MEn) := [(0, [(.aload_n 0, 1, 0, 0), (.aload_n 1, 1, 0, 0), (.getfield 40, 3, 0, 0), (.putfield 40, 3, 0, 0), (.aload_n 0, 1, 0, 0), (.aload_n 1, 1, 0, 0), (.getfield 44, 3, 0, 1), (.putfield 44, 3, 0, 1), (.aload_n 0, 1, 0, 0), (.aload_n 1, 1, 0, 0), (.getfield 47, 3, 0, 2), (.putfield 47, 3, 0, 2), (.aload_n 0, 1, 0, 0), (.aload_n 1, 1, 0, 0), (.getfield 50, 3, 0, 3), (.putfield 50, 3, 0, 3), (.aload_n 0, 1, 0, 0), (.aload_n 1, 1, 0, 0), (.getfield 53, 3, 0, 4), (.putfield 53, 3, 0, 4), (.aload_n 1, 1, 0, 0), (.getfield 11, 3, 0, 5), (.iconst 0, 1, 0, 0), (.aload_n 0, 1, 0, 0), (.getfield 11, 3, 0, 5), (.iconst 0, 1, 0, 0), (.bipush 36, 2, 0, 0), (.invokestatic 67, 3, 0, 0), (.aload_n 1, 1, 0, 0), (.getfield 15, 3, 0, 6), (.iconst 0, 1, 0, 0), (.aload_n 0, 1, 0, 0), (.getfield 15, 3, 0, 6), (.iconst 0, 1, 0, 0), (.bipush 36, 2, 0, 0), (.invokestatic 67, 3, 0, 0), (.aload_n 1, 1, 0, 0), (.getfield 18, 3, 0, 7), (.iconst 0, 1, 0, 0), (.aload_n 0, 1, 0, 0), (.getfield 18, 3, 0, 7), (.iconst 0, 1, 0, 0), (.bipush 36, 2, 0, 0), (.invokestatic 67, 3, 0, 0), (.aload_n 1, 1, 0, 0), (.getfield 21, 3, 0, 8), (.iconst 0, 1, 0, 0), (.aload_n 0, 1, 0, 0), (.getfield 21, 3, 0, 8), (.iconst 0, 1, 0, 0), (.bipush 36, 2, 0, 0), (.invokestatic 67, 3, 0, 0), (.aload_n 1, 1, 0, 0), (.getfield 24, 3, 0, 9), (.iconst 0, 1, 0, 0), (.aload_n 0, 1, 0, 0), (.getfield 24, 3, 0, 9), (.iconst 0, 1, 0, 0), (.sipush 180, 3, 0, 0), (.invokestatic 67, 3, 0, 0), (.aload_n 1, 1, 0, 0), (.getfield 27, 3, 0, 10), (.iconst 0, 1, 0, 0), (.aload_n 0, 1, 0, 0), (.getfield 27, 3, 0, 10), (.iconst 0, 1, 0, 0), (.iconst 5, 1, 0, 0), (.invokestatic 67, 3, 0, 0), (.aload_n 1, 1, 0, 0), (.getfield 30, 3, 0, 11), (.iconst 0, 1, 0, 0), (.aload_n 0, 1, 0, 0), (.getfield 30, 3, 0, 11), (.iconst 0, 1, 0, 0), (.bipush 24, 2, 0, 0), (.invokestatic 67, 3, 0, 0), (.aload_n 1, 1, 0, 0), (.getfield 33, 3, 0, 12), (.iconst 0, 1, 0, 0), (.aload_n 0, 1, 0, 0), (.getfield 33, 3, 0, 12), (.iconst 0, 1, 0, 0), (.aload_n 1, 1, 0, 0), (.getfield 53, 3, 0, 4), (.iconst 4, 1, 0, 0), (.imul, 1, 0, 0), (.invokestatic 67, 3, 0, 0), (.return_, 1, 0, 0)])]
def m_X0_copyFrom : MB := (yX0_copyFrom, cX0_copyFrom, 2, none, T_X0_copyFrom)
theorem ok_X0_copyFrom : mOk m_X0_copyFrom := mOk.of (by decide +kernel)
theorem pl_X0_copyFrom : plainFor m_X0_copyFrom.1 = true := by decide +kernel
def T_X0_freeWires : List (Nat × List MEn) := [(0, [(.aload_n 0, 1, 0, 0), (.getfield 11, 3, 0, 5), (.iload_n 1, 1, 0, 0), (.iaload, 1, 0, 0), (.aload_n 0, 1, 0, 0), (.getfield 18, 3, 0, 7), (.iload_n 1, 1, 0, 0), (.iaload, 1, 0, 0), (.isub, 1, 0, 0), (.istore_n 2, 1, 0, 0), (.iload_n 2, 1, 0, 0), (.ifCond .ge 7, 3, 22, 0), (.iconst 0, 1, 0, 0), (.goto 4, 3, 23, 0)]),
  (22, [(.iload_n 2, 1, 0, 0)]),
  (23, [(.ireturn, 1, 0, 0)])]
def m_X0_freeWires : MB := (yX0_freeWires, cX0_freeWires, 3, (some .int), T_X0_freeWires)
theorem ok_X0_freeWires : mOk m_X0_freeWires := mOk.of (by decide +kernel)
theorem pl_X0_freeWires : plainFor m_X0_freeWires.1 = true := by decide +kernel
def T_X0_servesOver : List (Nat × List MEn) := [(0, [(.aload_n 0, 1, 0, 0), (.getfield 11, 3, 0, 5), (.iload_n 1, 1, 0, 0), (.iaload, 1, 0, 0), (.aload_n 0, 1, 0, 0), (.getfield 18, 3, 0, 7), (.iload_n 1, 1, 0, 0), (.iaload, 1, 0, 0), (.isub, 1, 0, 0), (.aload_n 0, 1, 0, 0), (.getfield 15, 3, 0, 6), (.iload_n 1, 1, 0, 0), (.iaload, 1, 0, 0), (.if_icmp .le 7, 3, 26, 0), (.iconst 1, 1, 0, 0), (.goto 4, 3, 27, 0)]),
  (26, [(.iconst 0, 1, 0, 0)]),
  (27, [(.ireturn, 1, 0, 0)])]
def m_X0_servesOver : MB := (yX0_servesOver, cX0_servesOver, 2, (some .boolean), T_X0_servesOver)
theorem ok_X0_servesOver : mOk m_X0_servesOver := mOk.of (by decide +kernel)
theorem pl_X0_servesOver : plainFor m_X0_servesOver.1 = true := by decide +kernel
def T_X0_wayNow : List (Nat × List MEn) := [(0, [(.aload_n 0, 1, 0, 0), (.iload_n 1, 1, 0, 0), (.iload_n 2, 1, 0, 0), (.invokestatic 73, 3, 0, 0), (.invokevirtual 76, 3, 0, 0), (.ifCond .le 5, 3, 14, 0), (.iconst (-1), 1, 0, 0), (.ireturn, 1, 0, 0)]),
  (14, [(.aload_n 0, 1, 0, 0), (.getfield 21, 3, 0, 8), (.iload_n 1, 1, 0, 0), (.iload_n 2, 1, 0, 0), (.invokestatic 60, 3, 0, 0), (.iaload, 1, 0, 0), (.istore_n 3, 1, 0, 0), (.aload_n 0, 1, 0, 0), (.iload_n 1, 1, 0, 0), (.iload_n 3, 1, 0, 0), (.invokestatic 73, 3, 0, 0), (.invokevirtual 80, 3, 0, 0), (.ifCond .eq 19, 3, 53, 0), (.aload_n 0, 1, 0, 0), (.iload_n 3, 1, 0, 0), (.iload_n 2, 1, 0, 0), (.invokestatic 73, 3, 0, 0), (.invokevirtual 80, 3, 0, 0), (.ifCond .eq 7, 3, 53, 0), (.iload_n 3, 1, 0, 0), (.goto 5, 3, 55, 0)]),
  (53, [(.bipush (-5), 2, 0, 0)]),
  (55, [(.ireturn, 1, 0, 0)])]
def m_X0_wayNow : MB := (yX0_wayNow, cX0_wayNow, 4, (some .int), T_X0_wayNow)
theorem ok_X0_wayNow : mOk m_X0_wayNow := mOk.of (by decide +kernel)
theorem pl_X0_wayNow : plainFor m_X0_wayNow.1 = true := by decide +kernel
def T_X0_hasAnyWay : List (Nat × List MEn) := [(0, [(.aload_n 0, 1, 0, 0), (.iload_n 1, 1, 0, 0), (.iload_n 2, 1, 0, 0), (.invokestatic 73, 3, 0, 0), (.invokevirtual 76, 3, 0, 0), (.ifCond .le 7, 3, 16, 0), (.iconst 1, 1, 0, 0), (.goto 4, 3, 17, 0)]),
  (16, [(.iconst 0, 1, 0, 0)]),
  (17, [(.istore_n 3, 1, 0, 0), (.iconst 0, 1, 0, 0), (.istore 4, 2, 0, 0)]),
  (21, [(.iload 4, 2, 0, 0), (.aload_n 0, 1, 0, 0), (.getfield 40, 3, 0, 0), (.if_icmp .ge 57, 3, 84, 0), (.iload_n 3, 1, 0, 0), (.ifCond .ne 53, 3, 84, 0), (.iload 4, 2, 0, 0), (.iload_n 1, 1, 0, 0), (.if_icmp .eq 39, 3, 76, 0), (.iload 4, 2, 0, 0), (.iload_n 2, 1, 0, 0), (.if_icmp .eq 33, 3, 76, 0), (.aload_n 0, 1, 0, 0), (.iload_n 1, 1, 0, 0), (.iload 4, 2, 0, 0), (.invokestatic 73, 3, 0, 0), (.invokevirtual 80, 3, 0, 0), (.ifCond .eq 20, 3, 76, 0), (.aload_n 0, 1, 0, 0), (.iload 4, 2, 0, 0), (.iload_n 2, 1, 0, 0), (.invokestatic 73, 3, 0, 0), (.invokevirtual 80, 3, 0, 0), (.ifCond .eq 7, 3, 76, 0), (.iconst 1, 1, 0, 0), (.goto 4, 3, 77, 0)]),
  (76, [(.iconst 0, 1, 0, 0)]),
  (77, [(.istore_n 3, 1, 0, 0), (.iinc 4 1, 3, 0, 0), (.goto (-60), 3, 21, 0)]),
  (84, [(.iload_n 3, 1, 0, 0), (.ireturn, 1, 0, 0)])]
def m_X0_hasAnyWay : MB := (yX0_hasAnyWay, cX0_hasAnyWay, 5, (some .boolean), T_X0_hasAnyWay)
theorem ok_X0_hasAnyWay : mOk m_X0_hasAnyWay := mOk.of (by decide +kernel)
theorem pl_X0_hasAnyWay : plainFor m_X0_hasAnyWay.1 = true := by decide +kernel
def T_X0_ask : List (Nat × List MEn) := [(0, [(.iload_n 1, 1, 0, 0), (.iload_n 2, 1, 0, 0), (.invokestatic 60, 3, 0, 0), (.istore 4, 2, 0, 0), (.aload_n 0, 1, 0, 0), (.iconst 0, 1, 0, 0), (.iload 4, 2, 0, 0), (.invokevirtual 84, 3, 0, 0), (.aload_n 0, 1, 0, 0), (.getfield 53, 3, 0, 4), (.bipush 80, 2, 0, 0), (.if_icmp .lt 13, 3, 33, 0), (.aload_n 0, 1, 0, 0), (.iconst 4, 1, 0, 0), (.iload 4, 2, 0, 0), (.invokevirtual 84, 3, 0, 0), (.bipush (-5), 2, 0, 0), (.ireturn, 1, 0, 0)]),
  (33, [(.aload_n 0, 1, 0, 0), (.iload_n 1, 1, 0, 0), (.iload_n 2, 1, 0, 0), (.invokevirtual 88, 3, 0, 0), (.istore 5, 2, 0, 0), (.iload 5, 2, 0, 0), (.bipush (-5), 2, 0, 0), (.if_icmp .ne 50, 3, 95, 0), (.aload_n 0, 1, 0, 0), (.getfield 44, 3, 0, 1), (.iconst 1, 1, 0, 0), (.if_icmp .ne 42, 3, 95, 0), (.aload_n 0, 1, 0, 0), (.iload_n 1, 1, 0, 0), (.aload_n 0, 1, 0, 0), (.getfield 21, 3, 0, 8), (.iload 4, 2, 0, 0), (.iaload, 1, 0, 0), (.invokestatic 73, 3, 0, 0), (.invokevirtual 80, 3, 0, 0), (.ifCond .eq 24, 3, 95, 0), (.aload_n 0, 1, 0, 0), (.iconst 3, 1, 0, 0), (.iload 4, 2, 0, 0), (.invokevirtual 84, 3, 0, 0), (.aload_n 0, 1, 0, 0), (.iload_n 1, 1, 0, 0), (.iload_n 2, 1, 0, 0), (.invokevirtual 91, 3, 0, 0), (.aload_n 0, 1, 0, 0), (.iload_n 1, 1, 0, 0), (.iload_n 2, 1, 0, 0), (.invokevirtual 88, 3, 0, 0), (.istore 5, 2, 0, 0)]),
  (95, [(.iload 5, 2, 0, 0), (.bipush (-5), 2, 0, 0), (.if_icmp .ne 19, 3, 118, 0), (.aload_n 0, 1, 0, 0), (.iconst 4, 1, 0, 0), (.iload 4, 2, 0, 0), (.invokevirtual 84, 3, 0, 0), (.aload_n 0, 1, 0, 0), (.iload_n 1, 1, 0, 0), (.iload_n 2, 1, 0, 0), (.invokevirtual 91, 3, 0, 0), (.bipush (-5), 2, 0, 0), (.ireturn, 1, 0, 0)]),
  (118, [(.aload_n 0, 1, 0, 0), (.iload 5, 2, 0, 0), (.iconst (-1), 1, 0, 0), (.if_icmp .ne 7, 3, 129, 0), (.iconst 1, 1, 0, 0), (.goto 4, 3, 130, 0)]),
  (129, [(.iconst 2, 1, 0, 0)]),
  (130, [(.iload 4, 2, 0, 0), (.invokevirtual 84, 3, 0, 0), (.aload_n 0, 1, 0, 0), (.aload_n 0, 1, 0, 0), (.iload_n 1, 1, 0, 0), (.iload_n 2, 1, 0, 0), (.iload 5, 2, 0, 0), (.iload_n 3, 1, 0, 0), (.invokevirtual 94, 3, 0, 0), (.iconst 1, 1, 0, 0), (.invokevirtual 98, 3, 0, 0), (.iload 5, 2, 0, 0), (.ireturn, 1, 0, 0)])]
def m_X0_ask : MB := (yX0_ask, cX0_ask, 6, (some .int), T_X0_ask)
theorem ok_X0_ask : mOk m_X0_ask := mOk.of (by decide +kernel)
theorem pl_X0_ask : plainFor m_X0_ask.1 = true := by decide +kernel
def T_X0_count : List (Nat × List MEn) := [(0, [(.aload_n 0, 1, 0, 0), (.getfield 27, 3, 0, 10), (.iload_n 1, 1, 0, 0), (.dup2, 1, 0, 0), (.iaload, 1, 0, 0), (.iconst 1, 1, 0, 0), (.iadd, 1, 0, 0), (.iastore, 1, 0, 0), (.aload_n 0, 1, 0, 0), (.getfield 24, 3, 0, 9), (.iload_n 1, 1, 0, 0), (.bipush 36, 2, 0, 0), (.imul, 1, 0, 0), (.iload_n 2, 1, 0, 0), (.iadd, 1, 0, 0), (.dup2, 1, 0, 0), (.iaload, 1, 0, 0), (.iconst 1, 1, 0, 0), (.iadd, 1, 0, 0), (.iastore, 1, 0, 0), (.return_, 1, 0, 0)])]
def m_X0_count : MB := (yX0_count, cX0_count, 3, none, T_X0_count)
theorem ok_X0_count : mOk m_X0_count := mOk.of (by decide +kernel)
theorem pl_X0_count : plainFor m_X0_count.1 = true := by decide +kernel
def T_X0_advanceX : List (Nat × List MEn) := [(0, [(.aload_n 0, 1, 0, 0), (.aload_n 0, 1, 0, 0), (.getfield 47, 3, 0, 2), (.i2l, 1, 0, 0), (.ldc2_w 101, 3, 1103515245, 0), (.lmul, 1, 0, 0), (.ldc2_w 103, 3, 12345, 0), (.ladd, 1, 0, 0), (.ldc2_w 105, 3, 2147483648, 0), (.lrem, 1, 0, 0), (.l2i, 1, 0, 0), (.putfield 47, 3, 0, 2), (.return_, 1, 0, 0)])]
def m_X0_advanceX : MB := (yX0_advanceX, cX0_advanceX, 1, none, T_X0_advanceX)
theorem ok_X0_advanceX : mOk m_X0_advanceX := mOk.of (by decide +kernel)
theorem pl_X0_advanceX : plainFor m_X0_advanceX.1 = true := by decide +kernel
def T_X0_redraw : List (Nat × List MEn) := [(0, [(.aload_n 0, 1, 0, 0), (.invokevirtual 107, 3, 0, 0), (.aload_n 0, 1, 0, 0), (.getfield 47, 3, 0, 2), (.ldc 110, 2, 65536, 0), (.idiv, 1, 0, 0), (.aload_n 0, 1, 0, 0), (.getfield 40, 3, 0, 0), (.iconst 2, 1, 0, 0), (.isub, 1, 0, 0), (.irem, 1, 0, 0), (.istore_n 3, 1, 0, 0), (.iload_n 3, 1, 0, 0), (.iload_n 1, 1, 0, 0), (.iload_n 2, 1, 0, 0), (.invokestatic 111, 3, 0, 0), (.if_icmp .lt 6, 3, 31, 0), (.iinc 3 1, 3, 0, 0)]),
  (31, [(.iload_n 3, 1, 0, 0), (.iload_n 1, 1, 0, 0), (.iload_n 2, 1, 0, 0), (.invokestatic 116, 3, 0, 0), (.if_icmp .lt 6, 3, 43, 0), (.iinc 3 1, 3, 0, 0)]),
  (43, [(.aload_n 0, 1, 0, 0), (.getfield 21, 3, 0, 8), (.iload_n 1, 1, 0, 0), (.iload_n 2, 1, 0, 0), (.invokestatic 60, 3, 0, 0), (.iload_n 3, 1, 0, 0), (.iastore, 1, 0, 0), (.return_, 1, 0, 0)])]
def m_X0_redraw : MB := (yX0_redraw, cX0_redraw, 4, none, T_X0_redraw)
theorem ok_X0_redraw : mOk m_X0_redraw := mOk.of (by decide +kernel)
theorem pl_X0_redraw : plainFor m_X0_redraw.1 = true := by decide +kernel
def T_X0_addCall : List (Nat × List MEn) := [(0, [(.aload_n 0, 1, 0, 0), (.getfield 53, 3, 0, 4), (.iconst 4, 1, 0, 0), (.imul, 1, 0, 0), (.istore 5, 2, 0, 0), (.aload_n 0, 1, 0, 0), (.getfield 33, 3, 0, 12), (.iload 5, 2, 0, 0), (.iconst 0, 1, 0, 0), (.iadd, 1, 0, 0), (.iload_n 1, 1, 0, 0), (.iastore, 1, 0, 0), (.aload_n 0, 1, 0, 0), (.getfield 33, 3, 0, 12), (.iload 5, 2, 0, 0), (.iconst 1, 1, 0, 0), (.iadd, 1, 0, 0), (.iload_n 2, 1, 0, 0), (.iastore, 1, 0, 0), (.aload_n 0, 1, 0, 0), (.getfield 33, 3, 0, 12), (.iload 5, 2, 0, 0), (.iconst 2, 1, 0, 0), (.iadd, 1, 0, 0), (.iload_n 3, 1, 0, 0), (.iastore, 1, 0, 0), (.aload_n 0, 1, 0, 0), (.getfield 33, 3, 0, 12), (.iload 5, 2, 0, 0), (.iconst 3, 1, 0, 0), (.iadd, 1, 0, 0), (.iload 4, 2, 0, 0), (.iastore, 1, 0, 0), (.aload_n 0, 1, 0, 0), (.dup, 1, 0, 0), (.getfield 53, 3, 0, 4), (.iconst 1, 1, 0, 0), (.iadd, 1, 0, 0), (.putfield 53, 3, 0, 4), (.iload 5, 2, 0, 0), (.ireturn, 1, 0, 0)])]
def m_X0_addCall : MB := (yX0_addCall, cX0_addCall, 6, (some .int), T_X0_addCall)
theorem ok_X0_addCall : mOk m_X0_addCall := mOk.of (by decide +kernel)
theorem pl_X0_addCall : plainFor m_X0_addCall.1 = true := by decide +kernel
def T_X0_hold : List (Nat × List MEn) := [(0, [(.aload_n 0, 1, 0, 0), (.getfield 33, 3, 0, 12), (.iload_n 1, 1, 0, 0), (.iconst 0, 1, 0, 0), (.iadd, 1, 0, 0), (.iaload, 1, 0, 0), (.istore_n 3, 1, 0, 0), (.aload_n 0, 1, 0, 0), (.getfield 33, 3, 0, 12), (.iload_n 1, 1, 0, 0), (.iconst 1, 1, 0, 0), (.iadd, 1, 0, 0), (.iaload, 1, 0, 0), (.istore 4, 2, 0, 0), (.aload_n 0, 1, 0, 0), (.getfield 33, 3, 0, 12), (.iload_n 1, 1, 0, 0), (.iconst 2, 1, 0, 0), (.iadd, 1, 0, 0), (.iaload, 1, 0, 0), (.istore 5, 2, 0, 0), (.iload 5, 2, 0, 0), (.iconst (-1), 1, 0, 0), (.if_icmp .ne 21, 3, 53, 0), (.aload_n 0, 1, 0, 0), (.getfield 18, 3, 0, 7), (.iload_n 3, 1, 0, 0), (.iload 4, 2, 0, 0), (.invokestatic 73, 3, 0, 0), (.dup2, 1, 0, 0), (.iaload, 1, 0, 0), (.iload_n 2, 1, 0, 0), (.iadd, 1, 0, 0), (.iastore, 1, 0, 0), (.goto 34, 3, 84, 0)]),
  (53, [(.aload_n 0, 1, 0, 0), (.getfield 18, 3, 0, 7), (.iload_n 3, 1, 0, 0), (.iload 5, 2, 0, 0), (.invokestatic 73, 3, 0, 0), (.dup2, 1, 0, 0), (.iaload, 1, 0, 0), (.iload_n 2, 1, 0, 0), (.iadd, 1, 0, 0), (.iastore, 1, 0, 0), (.aload_n 0, 1, 0, 0), (.getfield 18, 3, 0, 7), (.iload 5, 2, 0, 0), (.iload 4, 2, 0, 0), (.invokestatic 73, 3, 0, 0), (.dup2, 1, 0, 0), (.iaload, 1, 0, 0), (.iload_n 2, 1, 0, 0), (.iadd, 1, 0, 0), (.iastore, 1, 0, 0)]),
  (84, [(.return_, 1, 0, 0)])]
def m_X0_hold : MB := (yX0_hold, cX0_hold, 6, none, T_X0_hold)
theorem ok_X0_hold : mOk m_X0_hold := mOk.of (by decide +kernel)
theorem pl_X0_hold : plainFor m_X0_hold.1 = true := by decide +kernel
def T_X0_endCall : List (Nat × List MEn) := [(0, [(.iload_n 1, 1, 0, 0), (.iconst 4, 1, 0, 0), (.imul, 1, 0, 0), (.istore_n 2, 1, 0, 0), (.aload_n 0, 1, 0, 0), (.getfield 53, 3, 0, 4), (.iload_n 1, 1, 0, 0), (.isub, 1, 0, 0), (.iconst 1, 1, 0, 0), (.isub, 1, 0, 0), (.iconst 4, 1, 0, 0), (.imul, 1, 0, 0), (.istore_n 3, 1, 0, 0), (.aload_n 0, 1, 0, 0), (.iload_n 2, 1, 0, 0), (.iconst (-1), 1, 0, 0), (.invokevirtual 98, 3, 0, 0), (.aload_n 0, 1, 0, 0), (.getfield 33, 3, 0, 12), (.iload_n 2, 1, 0, 0), (.iconst 4, 1, 0, 0), (.iadd, 1, 0, 0), (.aload_n 0, 1, 0, 0), (.getfield 33, 3, 0, 12), (.iload_n 2, 1, 0, 0), (.iload_n 3, 1, 0, 0), (.invokestatic 67, 3, 0, 0), (.aload_n 0, 1, 0, 0), (.dup, 1, 0, 0), (.getfield 53, 3, 0, 4), (.iconst 1, 1, 0, 0), (.isub, 1, 0, 0), (.putfield 53, 3, 0, 4), (.return_, 1, 0, 0)])]
def m_X0_endCall : MB := (yX0_endCall, cX0_endCall, 4, none, T_X0_endCall)
theorem ok_X0_endCall : mOk m_X0_endCall := mOk.of (by decide +kernel)
theorem pl_X0_endCall : plainFor m_X0_endCall.1 = true := by decide +kernel
def T_X0_passHours : List (Nat × List MEn) := [(0, [(.iconst 0, 1, 0, 0), (.istore_n 2, 1, 0, 0), (.iconst 0, 1, 0, 0), (.istore_n 3, 1, 0, 0)]),
  (4, [(.iload_n 3, 1, 0, 0), (.iload_n 1, 1, 0, 0), (.if_icmp .ge 62, 3, 68, 0), (.iload_n 2, 1, 0, 0), (.aload_n 0, 1, 0, 0), (.invokevirtual 119, 3, 0, 0), (.iadd, 1, 0, 0), (.istore_n 2, 1, 0, 0), (.aload_n 0, 1, 0, 0), (.dup, 1, 0, 0), (.getfield 50, 3, 0, 3), (.iconst 1, 1, 0, 0), (.iadd, 1, 0, 0), (.putfield 50, 3, 0, 3), (.aload_n 0, 1, 0, 0), (.getfield 30, 3, 0, 11), (.aload_n 0, 1, 0, 0), (.getfield 50, 3, 0, 3), (.bipush 24, 2, 0, 0), (.invokestatic 123, 3, 0, 0), (.iaload, 1, 0, 0), (.istore 4, 2, 0, 0), (.iconst 0, 1, 0, 0), (.istore 5, 2, 0, 0)]),
  (45, [(.iload 5, 2, 0, 0), (.iload 4, 2, 0, 0), (.if_icmp .ge 13, 3, 62, 0), (.aload_n 0, 1, 0, 0), (.invokevirtual 126, 3, 0, 0), (.iinc 5 1, 3, 0, 0), (.goto (-14), 3, 45, 0)]),
  (62, [(.iinc 3 1, 3, 0, 0), (.goto (-61), 3, 4, 0)]),
  (68, [(.iload_n 2, 1, 0, 0), (.ireturn, 1, 0, 0)])]
def m_X0_passHours : MB := (yX0_passHours, cX0_passHours, 6, (some .int), T_X0_passHours)
theorem ok_X0_passHours : mOk m_X0_passHours := mOk.of (by decide +kernel)
theorem pl_X0_passHours : plainFor m_X0_passHours.1 = true := by decide +kernel
def T_X0_endHour : List (Nat × List MEn) := [(0, [(.aload_n 0, 1, 0, 0), (.getfield 53, 3, 0, 4), (.istore_n 1, 1, 0, 0), (.iconst 0, 1, 0, 0), (.istore_n 2, 1, 0, 0), (.iconst 0, 1, 0, 0), (.istore_n 3, 1, 0, 0)]),
  (9, [(.iload_n 3, 1, 0, 0), (.iload_n 1, 1, 0, 0), (.if_icmp .ge 61, 3, 72, 0), (.iload_n 3, 1, 0, 0), (.iconst 4, 1, 0, 0), (.imul, 1, 0, 0), (.istore 4, 2, 0, 0), (.aload_n 0, 1, 0, 0), (.getfield 33, 3, 0, 12), (.iload 4, 2, 0, 0), (.iconst 3, 1, 0, 0), (.iadd, 1, 0, 0), (.dup2, 1, 0, 0), (.iaload, 1, 0, 0), (.iconst 1, 1, 0, 0), (.isub, 1, 0, 0), (.iastore, 1, 0, 0), (.aload_n 0, 1, 0, 0), (.getfield 33, 3, 0, 12), (.iload 4, 2, 0, 0), (.iconst 3, 1, 0, 0), (.iadd, 1, 0, 0), (.iaload, 1, 0, 0), (.ifCond .ne 13, 3, 54, 0), (.aload_n 0, 1, 0, 0), (.iload 4, 2, 0, 0), (.iconst (-1), 1, 0, 0), (.invokevirtual 98, 3, 0, 0), (.goto 15, 3, 66, 0)]),
  (54, [(.aload_n 0, 1, 0, 0), (.iload 4, 2, 0, 0), (.iload_n 2, 1, 0, 0), (.iconst 4, 1, 0, 0), (.imul, 1, 0, 0), (.invokevirtual 129, 3, 0, 0), (.iinc 2 1, 3, 0, 0)]),
  (66, [(.iinc 3 1, 3, 0, 0), (.goto (-60), 3, 9, 0)]),
  (72, [(.aload_n 0, 1, 0, 0), (.iload_n 2, 1, 0, 0), (.putfield 53, 3, 0, 4), (.iload_n 1, 1, 0, 0), (.iload_n 2, 1, 0, 0), (.isub, 1, 0, 0), (.ireturn, 1, 0, 0)])]
def m_X0_endHour : MB := (yX0_endHour, cX0_endHour, 5, (some .int), T_X0_endHour)
theorem ok_X0_endHour : mOk m_X0_endHour := mOk.of (by decide +kernel)
theorem pl_X0_endHour : plainFor m_X0_endHour.1 = true := by decide +kernel
def T_X0_moveCall : List (Nat × List MEn) := [(0, [(.iload_n 2, 1, 0, 0), (.iload_n 1, 1, 0, 0), (.if_icmp .eq 17, 3, 19, 0), (.aload_n 0, 1, 0, 0), (.getfield 33, 3, 0, 12), (.iload_n 1, 1, 0, 0), (.aload_n 0, 1, 0, 0), (.getfield 33, 3, 0, 12), (.iload_n 2, 1, 0, 0), (.iconst 4, 1, 0, 0), (.invokestatic 67, 3, 0, 0)]),
  (19, [(.return_, 1, 0, 0)])]
def m_X0_moveCall : MB := (yX0_moveCall, cX0_moveCall, 3, none, T_X0_moveCall)
theorem ok_X0_moveCall : mOk m_X0_moveCall := mOk.of (by decide +kernel)
theorem pl_X0_moveCall : plainFor m_X0_moveCall.1 = true := by decide +kernel
def T_X0_askByPlan : List (Nat × List MEn) := [(0, [(.aload_n 0, 1, 0, 0), (.invokevirtual 107, 3, 0, 0), (.aload_n 0, 1, 0, 0), (.getfield 47, 3, 0, 2), (.ldc 110, 2, 65536, 0), (.idiv, 1, 0, 0), (.aload_n 0, 1, 0, 0), (.getfield 40, 3, 0, 0), (.irem, 1, 0, 0), (.istore_n 1, 1, 0, 0), (.aload_n 0, 1, 0, 0), (.getfield 47, 3, 0, 2), (.sipush 1024, 3, 0, 0), (.idiv, 1, 0, 0), (.aload_n 0, 1, 0, 0), (.getfield 40, 3, 0, 0), (.irem, 1, 0, 0), (.istore_n 2, 1, 0, 0), (.iload_n 2, 1, 0, 0), (.iload_n 1, 1, 0, 0), (.if_icmp .ne 12, 3, 45, 0), (.iload_n 2, 1, 0, 0), (.iconst 1, 1, 0, 0), (.iadd, 1, 0, 0), (.aload_n 0, 1, 0, 0), (.getfield 40, 3, 0, 0), (.irem, 1, 0, 0), (.istore_n 2, 1, 0, 0)]),
  (45, [(.aload_n 0, 1, 0, 0), (.iload_n 1, 1, 0, 0), (.iload_n 2, 1, 0, 0), (.iconst 1, 1, 0, 0), (.aload_n 0, 1, 0, 0), (.getfield 47, 3, 0, 2), (.sipush 4096, 3, 0, 0), (.idiv, 1, 0, 0), (.bipush 6, 2, 0, 0), (.irem, 1, 0, 0), (.iadd, 1, 0, 0), (.invokevirtual 132, 3, 0, 0), (.pop, 1, 0, 0), (.return_, 1, 0, 0)])]
def m_X0_askByPlan : MB := (yX0_askByPlan, cX0_askByPlan, 3, none, T_X0_askByPlan)
theorem ok_X0_askByPlan : mOk m_X0_askByPlan := mOk.of (by decide +kernel)
theorem pl_X0_askByPlan : plainFor m_X0_askByPlan.1 = true := by decide +kernel
def T_X0_doOrder : List (Nat × List MEn) := [(0, [(.aload_n 1, 1, 0, 0), (.iload_n 2, 1, 0, 0), (.iconst 1, 1, 0, 0), (.iadd, 1, 0, 0), (.iaload, 1, 0, 0), (.istore_n 3, 1, 0, 0), (.aload_n 1, 1, 0, 0), (.iload_n 2, 1, 0, 0), (.iconst 2, 1, 0, 0), (.iadd, 1, 0, 0), (.iaload, 1, 0, 0), (.istore 4, 2, 0, 0), (.aload_n 1, 1, 0, 0), (.iload_n 2, 1, 0, 0), (.iconst 3, 1, 0, 0), (.iadd, 1, 0, 0), (.iaload, 1, 0, 0), (.istore 5, 2, 0, 0), (.aload_n 1, 1, 0, 0), (.iload_n 2, 1, 0, 0), (.iconst 0, 1, 0, 0), (.iadd, 1, 0, 0), (.iaload, 1, 0, 0), (.lookupswitch 120 #[(43, 71), (48, 51), (112, 110), (114, 95), (119, 80)], 51, 0, 0)]),
  (76, [(.aload_n 0, 1, 0, 0), (.iload_n 3, 1, 0, 0), (.iload 4, 2, 0, 0), (.iload 5, 2, 0, 0), (.invokevirtual 132, 3, 0, 0), (.bipush (-5), 2, 0, 0), (.if_icmp .eq 7, 3, 94, 0), (.iconst 1, 1, 0, 0), (.goto 4, 3, 95, 0)]),
  (94, [(.iconst 0, 1, 0, 0)]),
  (95, [(.ireturn, 1, 0, 0)]),
  (96, [(.aload_n 0, 1, 0, 0), (.iload 5, 2, 0, 0), (.invokevirtual 138, 3, 0, 0), (.pop, 1, 0, 0), (.iconst 0, 1, 0, 0), (.ireturn, 1, 0, 0)]),
  (105, [(.aload_n 0, 1, 0, 0), (.getfield 11, 3, 0, 5), (.iload_n 3, 1, 0, 0), (.iload 4, 2, 0, 0), (.invokestatic 73, 3, 0, 0), (.iload 5, 2, 0, 0), (.iastore, 1, 0, 0), (.iconst 0, 1, 0, 0), (.ireturn, 1, 0, 0)]),
  (120, [(.aload_n 0, 1, 0, 0), (.getfield 15, 3, 0, 6), (.iload_n 3, 1, 0, 0), (.iload 4, 2, 0, 0), (.invokestatic 73, 3, 0, 0), (.iload 5, 2, 0, 0), (.iastore, 1, 0, 0), (.iconst 0, 1, 0, 0), (.ireturn, 1, 0, 0)]),
  (135, [(.aload_n 0, 1, 0, 0), (.getfield 30, 3, 0, 11), (.iload_n 3, 1, 0, 0), (.iload 5, 2, 0, 0), (.iastore, 1, 0, 0), (.iconst 0, 1, 0, 0), (.ireturn, 1, 0, 0)]),
  (145, [(.aload_n 0, 1, 0, 0), (.iload 5, 2, 0, 0), (.putfield 44, 3, 0, 1), (.iconst 0, 1, 0, 0), (.ireturn, 1, 0, 0)])]
def m_X0_doOrder : MB := (yX0_doOrder, cX0_doOrder, 6, (some .boolean), T_X0_doOrder)
theorem ok_X0_doOrder : mOk m_X0_doOrder := mOk.of (by decide +kernel)
theorem pl_X0_doOrder : plainFor m_X0_doOrder.1 = true := by decide +kernel
def T_X0_callsOverLink : List (Nat × List MEn) := [(0, [(.iconst 0, 1, 0, 0), (.istore_n 2, 1, 0, 0), (.iconst 0, 1, 0, 0), (.istore_n 3, 1, 0, 0)]),
  (4, [(.iload_n 3, 1, 0, 0), (.aload_n 0, 1, 0, 0), (.getfield 53, 3, 0, 4), (.if_icmp .ge 70, 3, 79, 0), (.iload_n 3, 1, 0, 0), (.iconst 4, 1, 0, 0), (.imul, 1, 0, 0), (.istore 4, 2, 0, 0), (.aload_n 0, 1, 0, 0), (.getfield 33, 3, 0, 12), (.iload 4, 2, 0, 0), (.iconst 2, 1, 0, 0), (.iadd, 1, 0, 0), (.iaload, 1, 0, 0), (.istore 5, 2, 0, 0), (.iload 5, 2, 0, 0), (.iconst (-1), 1, 0, 0), (.if_icmp .eq 42, 3, 73, 0), (.aload_n 0, 1, 0, 0), (.getfield 33, 3, 0, 12), (.iload 4, 2, 0, 0), (.iconst 0, 1, 0, 0), (.iadd, 1, 0, 0), (.iaload, 1, 0, 0), (.iload 5, 2, 0, 0), (.invokestatic 73, 3, 0, 0), (.iload_n 1, 1, 0, 0), (.if_icmp .eq 21, 3, 70, 0), (.iload 5, 2, 0, 0), (.aload_n 0, 1, 0, 0), (.getfield 33, 3, 0, 12), (.iload 4, 2, 0, 0), (.iconst 1, 1, 0, 0), (.iadd, 1, 0, 0), (.iaload, 1, 0, 0), (.invokestatic 73, 3, 0, 0), (.iload_n 1, 1, 0, 0), (.if_icmp .ne 6, 3, 73, 0)]),
  (70, [(.iinc 2 1, 3, 0, 0)]),
  (73, [(.iinc 3 1, 3, 0, 0), (.goto (-72), 3, 4, 0)]),
  (79, [(.iload_n 2, 1, 0, 0), (.ireturn, 1, 0, 0)])]
def m_X0_callsOverLink : MB := (yX0_callsOverLink, cX0_callsOverLink, 6, (some .int), T_X0_callsOverLink)
theorem ok_X0_callsOverLink : mOk m_X0_callsOverLink := mOk.of (by decide +kernel)
theorem pl_X0_callsOverLink : plainFor m_X0_callsOverLink.1 = true := by decide +kernel
def T_X0_wiresHeld : List (Nat × List MEn) := [(0, [(.iconst 0, 1, 0, 0), (.istore_n 1, 1, 0, 0), (.iconst 0, 1, 0, 0), (.istore_n 2, 1, 0, 0)]),
  (4, [(.iload_n 2, 1, 0, 0), (.aload_n 0, 1, 0, 0), (.getfield 53, 3, 0, 4), (.if_icmp .ge 31, 3, 40, 0), (.iload_n 1, 1, 0, 0), (.aload_n 0, 1, 0, 0), (.getfield 33, 3, 0, 12), (.iload_n 2, 1, 0, 0), (.iconst 4, 1, 0, 0), (.imul, 1, 0, 0), (.iconst 2, 1, 0, 0), (.iadd, 1, 0, 0), (.iaload, 1, 0, 0), (.iconst (-1), 1, 0, 0), (.if_icmp .ne 7, 3, 31, 0), (.iconst 1, 1, 0, 0), (.goto 4, 3, 32, 0)]),
  (31, [(.iconst 2, 1, 0, 0)]),
  (32, [(.iadd, 1, 0, 0), (.istore_n 1, 1, 0, 0), (.iinc 2 1, 3, 0, 0), (.goto (-33), 3, 4, 0)]),
  (40, [(.iload_n 1, 1, 0, 0), (.ireturn, 1, 0, 0)])]
def m_X0_wiresHeld : MB := (yX0_wiresHeld, cX0_wiresHeld, 3, (some .int), T_X0_wiresHeld)
theorem ok_X0_wiresHeld : mOk m_X0_wiresHeld := mOk.of (by decide +kernel)
theorem pl_X0_wiresHeld : plainFor m_X0_wiresHeld.1 = true := by decide +kernel
def T_X0_refusedAt : List (Nat × List MEn) := [(0, [(.aload_n 0, 1, 0, 0), (.getfield 24, 3, 0, 9), (.sipush 144, 3, 0, 0), (.iload_n 1, 1, 0, 0), (.iadd, 1, 0, 0), (.iaload, 1, 0, 0), (.ireturn, 1, 0, 0)])]
def m_X0_refusedAt : MB := (yX0_refusedAt, cX0_refusedAt, 2, (some .int), T_X0_refusedAt)
theorem ok_X0_refusedAt : mOk m_X0_refusedAt := mOk.of (by decide +kernel)
theorem pl_X0_refusedAt : plainFor m_X0_refusedAt.1 = true := by decide +kernel
def T_X0_mostRefusedPair : List (Nat × List MEn) := [(0, [(.iconst 0, 1, 0, 0), (.iconst 1, 1, 0, 0), (.invokestatic 60, 3, 0, 0), (.istore_n 1, 1, 0, 0), (.iconst 0, 1, 0, 0), (.istore_n 2, 1, 0, 0)]),
  (8, [(.iload_n 2, 1, 0, 0), (.aload_n 0, 1, 0, 0), (.getfield 40, 3, 0, 0), (.if_icmp .ge 53, 3, 66, 0), (.iconst 0, 1, 0, 0), (.istore_n 3, 1, 0, 0)]),
  (18, [(.iload_n 3, 1, 0, 0), (.aload_n 0, 1, 0, 0), (.getfield 40, 3, 0, 0), (.if_icmp .ge 37, 3, 60, 0), (.iload_n 2, 1, 0, 0), (.iload_n 3, 1, 0, 0), (.if_icmp .eq 26, 3, 54, 0), (.aload_n 0, 1, 0, 0), (.iload_n 2, 1, 0, 0), (.iload_n 3, 1, 0, 0), (.invokestatic 60, 3, 0, 0), (.invokevirtual 141, 3, 0, 0), (.aload_n 0, 1, 0, 0), (.iload_n 1, 1, 0, 0), (.invokevirtual 141, 3, 0, 0), (.if_icmp .le 9, 3, 54, 0), (.iload_n 2, 1, 0, 0), (.iload_n 3, 1, 0, 0), (.invokestatic 60, 3, 0, 0), (.istore_n 1, 1, 0, 0)]),
  (54, [(.iinc 3 1, 3, 0, 0), (.goto (-39), 3, 18, 0)]),
  (60, [(.iinc 2 1, 3, 0, 0), (.goto (-55), 3, 8, 0)]),
  (66, [(.iload_n 1, 1, 0, 0), (.ireturn, 1, 0, 0)])]
def m_X0_mostRefusedPair : MB := (yX0_mostRefusedPair, cX0_mostRefusedPair, 4, (some .int), T_X0_mostRefusedPair)
theorem ok_X0_mostRefusedPair : mOk m_X0_mostRefusedPair := mOk.of (by decide +kernel)
theorem pl_X0_mostRefusedPair : plainFor m_X0_mostRefusedPair.1 = true := by decide +kernel
def T_X0_scarcestLink : List (Nat × List MEn) := [(0, [(.iconst 0, 1, 0, 0), (.iconst 1, 1, 0, 0), (.invokestatic 73, 3, 0, 0), (.istore_n 1, 1, 0, 0), (.iconst 0, 1, 0, 0), (.istore_n 2, 1, 0, 0)]),
  (8, [(.iload_n 2, 1, 0, 0), (.aload_n 0, 1, 0, 0), (.getfield 40, 3, 0, 0), (.if_icmp .ge 50, 3, 63, 0), (.iload_n 2, 1, 0, 0), (.iconst 1, 1, 0, 0), (.iadd, 1, 0, 0), (.istore_n 3, 1, 0, 0)]),
  (20, [(.iload_n 3, 1, 0, 0), (.aload_n 0, 1, 0, 0), (.getfield 40, 3, 0, 0), (.if_icmp .ge 32, 3, 57, 0), (.aload_n 0, 1, 0, 0), (.iload_n 2, 1, 0, 0), (.iload_n 3, 1, 0, 0), (.invokestatic 73, 3, 0, 0), (.invokevirtual 76, 3, 0, 0), (.aload_n 0, 1, 0, 0), (.iload_n 1, 1, 0, 0), (.invokevirtual 76, 3, 0, 0), (.if_icmp .ge 9, 3, 51, 0), (.iload_n 2, 1, 0, 0), (.iload_n 3, 1, 0, 0), (.invokestatic 73, 3, 0, 0), (.istore_n 1, 1, 0, 0)]),
  (51, [(.iinc 3 1, 3, 0, 0), (.goto (-34), 3, 20, 0)]),
  (57, [(.iinc 2 1, 3, 0, 0), (.goto (-52), 3, 8, 0)]),
  (63, [(.iload_n 1, 1, 0, 0), (.ireturn, 1, 0, 0)])]
def m_X0_scarcestLink : MB := (yX0_scarcestLink, cX0_scarcestLink, 4, (some .int), T_X0_scarcestLink)
theorem ok_X0_scarcestLink : mOk m_X0_scarcestLink := mOk.of (by decide +kernel)
theorem pl_X0_scarcestLink : plainFor m_X0_scarcestLink.1 = true := by decide +kernel
def T_X0_mixLinks : List (Nat × List MEn) := [(0, [(.lload_n 1, 1, 0, 0), (.lstore_n 3, 1, 0, 0), (.iconst 0, 1, 0, 0), (.istore 5, 2, 0, 0)]),
  (5, [(.iload 5, 2, 0, 0), (.aload_n 0, 1, 0, 0), (.getfield 40, 3, 0, 0), (.if_icmp .ge 83, 3, 94, 0), (.iload 5, 2, 0, 0), (.iconst 1, 1, 0, 0), (.iadd, 1, 0, 0), (.istore 6, 2, 0, 0)]),
  (20, [(.iload 6, 2, 0, 0), (.aload_n 0, 1, 0, 0), (.getfield 40, 3, 0, 0), (.if_icmp .ge 62, 3, 88, 0), (.iload 5, 2, 0, 0), (.iload 6, 2, 0, 0), (.invokestatic 73, 3, 0, 0), (.istore 7, 2, 0, 0), (.ldc2_w 144, 3, 31, 0), (.lload_n 3, 1, 0, 0), (.lmul, 1, 0, 0), (.aload_n 0, 1, 0, 0), (.getfield 11, 3, 0, 5), (.iload 7, 2, 0, 0), (.iaload, 1, 0, 0), (.i2l, 1, 0, 0), (.ladd, 1, 0, 0), (.lstore_n 3, 1, 0, 0), (.ldc2_w 144, 3, 31, 0), (.lload_n 3, 1, 0, 0), (.lmul, 1, 0, 0), (.aload_n 0, 1, 0, 0), (.getfield 15, 3, 0, 6), (.iload 7, 2, 0, 0), (.iaload, 1, 0, 0), (.i2l, 1, 0, 0), (.ladd, 1, 0, 0), (.lstore_n 3, 1, 0, 0), (.ldc2_w 144, 3, 31, 0), (.lload_n 3, 1, 0, 0), (.lmul, 1, 0, 0), (.aload_n 0, 1, 0, 0), (.iload 7, 2, 0, 0), (.invokevirtual 76, 3, 0, 0), (.i2l, 1, 0, 0), (.ladd, 1, 0, 0), (.lstore_n 3, 1, 0, 0), (.iinc 6 1, 3, 0, 0), (.goto (-65), 3, 20, 0)]),
  (88, [(.iinc 5 1, 3, 0, 0), (.goto (-86), 3, 5, 0)]),
  (94, [(.lload_n 3, 1, 0, 0), (.lreturn, 1, 0, 0)])]
def m_X0_mixLinks : MB := (yX0_mixLinks, cX0_mixLinks, 8, (some .long), T_X0_mixLinks)
theorem ok_X0_mixLinks : mOk m_X0_mixLinks := mOk.of (by decide +kernel)
theorem pl_X0_mixLinks : plainFor m_X0_mixLinks.1 = true := by decide +kernel
def T_X0_mixPairs : List (Nat × List MEn) := [(0, [(.lload_n 1, 1, 0, 0), (.lstore_n 3, 1, 0, 0), (.iconst 0, 1, 0, 0), (.istore 5, 2, 0, 0)]),
  (5, [(.iload 5, 2, 0, 0), (.aload_n 0, 1, 0, 0), (.getfield 40, 3, 0, 0), (.if_icmp .ge 73, 3, 84, 0), (.iconst 0, 1, 0, 0), (.istore 6, 2, 0, 0)]),
  (17, [(.iload 6, 2, 0, 0), (.aload_n 0, 1, 0, 0), (.getfield 40, 3, 0, 0), (.if_icmp .ge 55, 3, 78, 0), (.iload 5, 2, 0, 0), (.iload 6, 2, 0, 0), (.if_icmp .eq 42, 3, 72, 0), (.ldc2_w 144, 3, 31, 0), (.lload_n 3, 1, 0, 0), (.lmul, 1, 0, 0), (.aload_n 0, 1, 0, 0), (.getfield 21, 3, 0, 8), (.iload 5, 2, 0, 0), (.iload 6, 2, 0, 0), (.invokestatic 60, 3, 0, 0), (.iaload, 1, 0, 0), (.i2l, 1, 0, 0), (.ladd, 1, 0, 0), (.lstore_n 3, 1, 0, 0), (.ldc2_w 144, 3, 31, 0), (.lload_n 3, 1, 0, 0), (.lmul, 1, 0, 0), (.aload_n 0, 1, 0, 0), (.iload 5, 2, 0, 0), (.iload 6, 2, 0, 0), (.invokestatic 60, 3, 0, 0), (.invokevirtual 141, 3, 0, 0), (.i2l, 1, 0, 0), (.ladd, 1, 0, 0), (.lstore_n 3, 1, 0, 0)]),
  (72, [(.iinc 6 1, 3, 0, 0), (.goto (-58), 3, 17, 0)]),
  (78, [(.iinc 5 1, 3, 0, 0), (.goto (-76), 3, 5, 0)]),
  (84, [(.lload_n 3, 1, 0, 0), (.lreturn, 1, 0, 0)])]
def m_X0_mixPairs : MB := (yX0_mixPairs, cX0_mixPairs, 7, (some .long), T_X0_mixPairs)
theorem ok_X0_mixPairs : mOk m_X0_mixPairs := mOk.of (by decide +kernel)
theorem pl_X0_mixPairs : plainFor m_X0_mixPairs.1 = true := by decide +kernel
def T_X0_mixLoadsAndCalls : List (Nat × List MEn) := [(0, [(.lload_n 1, 1, 0, 0), (.lstore_n 3, 1, 0, 0), (.iconst 0, 1, 0, 0), (.istore 5, 2, 0, 0)]),
  (5, [(.iload 5, 2, 0, 0), (.bipush 24, 2, 0, 0), (.if_icmp .ge 24, 3, 33, 0), (.ldc2_w 144, 3, 31, 0), (.lload_n 3, 1, 0, 0), (.lmul, 1, 0, 0), (.aload_n 0, 1, 0, 0), (.getfield 30, 3, 0, 11), (.iload 5, 2, 0, 0), (.iaload, 1, 0, 0), (.i2l, 1, 0, 0), (.ladd, 1, 0, 0), (.lstore_n 3, 1, 0, 0), (.iinc 5 1, 3, 0, 0), (.goto (-25), 3, 5, 0)]),
  (33, [(.iconst 0, 1, 0, 0), (.istore 5, 2, 0, 0)]),
  (36, [(.iload 5, 2, 0, 0), (.aload_n 0, 1, 0, 0), (.getfield 53, 3, 0, 4), (.iconst 4, 1, 0, 0), (.imul, 1, 0, 0), (.if_icmp .ge 24, 3, 68, 0), (.ldc2_w 144, 3, 31, 0), (.lload_n 3, 1, 0, 0), (.lmul, 1, 0, 0), (.aload_n 0, 1, 0, 0), (.getfield 33, 3, 0, 12), (.iload 5, 2, 0, 0), (.iaload, 1, 0, 0), (.i2l, 1, 0, 0), (.ladd, 1, 0, 0), (.lstore_n 3, 1, 0, 0), (.iinc 5 1, 3, 0, 0), (.goto (-29), 3, 36, 0)]),
  (68, [(.lload_n 3, 1, 0, 0), (.lreturn, 1, 0, 0)])]
def m_X0_mixLoadsAndCalls : MB := (yX0_mixLoadsAndCalls, cX0_mixLoadsAndCalls, 6, (some .long), T_X0_mixLoadsAndCalls)
theorem ok_X0_mixLoadsAndCalls : mOk m_X0_mixLoadsAndCalls := mOk.of (by decide +kernel)
theorem pl_X0_mixLoadsAndCalls : plainFor m_X0_mixLoadsAndCalls.1 = true := by decide +kernel
def T_X1_append : List (Nat × List MEn) := [(0, [(.aload_n 0, 1, 0, 0), (.getfield 18, 3, 1, 2), (.bipush 120, 2, 0, 0), (.if_icmp .lt 5, 3, 11, 0), (.iconst 0, 1, 0, 0), (.ireturn, 1, 0, 0)]),
  (11, [(.aload_n 0, 1, 0, 0), (.getfield 11, 3, 1, 0), (.aload_n 0, 1, 0, 0), (.getfield 18, 3, 1, 2), (.iload_n 1, 1, 0, 0), (.iastore, 1, 0, 0), (.aload_n 0, 1, 0, 0), (.dup, 1, 0, 0), (.getfield 18, 3, 1, 2), (.iconst 1, 1, 0, 0), (.iadd, 1, 0, 0), (.putfield 18, 3, 1, 2), (.iconst 1, 1, 0, 0), (.ireturn, 1, 0, 0)])]
def m_X1_append : MB := (yX1_append, cX1_append, 2, (some .boolean), T_X1_append)
theorem ok_X1_append : mOk m_X1_append := mOk.of (by decide +kernel)
theorem pl_X1_append : plainFor m_X1_append.1 = true := by decide +kernel
def T_X1_read : List (Nat × List MEn) := [(0, [(.aload_n 0, 1, 0, 0), (.iload_n 1, 1, 0, 0), (.putfield 22, 3, 1, 4), (.aload_n 0, 1, 0, 0), (.iconst 0, 1, 0, 0), (.putfield 25, 3, 1, 5), (.aload_n 0, 1, 0, 0), (.iconst (-1), 1, 0, 0), (.putfield 28, 3, 1, 6), (.aload_n 0, 1, 0, 0), (.iconst 0, 1, 0, 0), (.putfield 31, 3, 1, 3), (.aload_n 0, 1, 0, 0), (.invokevirtual 34, 3, 0, 0), (.aload_n 0, 1, 0, 0), (.getfield 25, 3, 1, 5), (.aload_n 0, 1, 0, 0), (.getfield 18, 3, 1, 2), (.if_icmp .lt 11, 3, 43, 0), (.aload_n 0, 1, 0, 0), (.aload_n 0, 1, 0, 0), (.getfield 18, 3, 1, 2), (.putfield 28, 3, 1, 6)]),
  (43, [(.iconst 0, 1, 0, 0), (.istore_n 2, 1, 0, 0)]),
  (45, [(.iload_n 2, 1, 0, 0), (.bipush 40, 2, 0, 0), (.if_icmp .ge 49, 3, 97, 0), (.aload_n 0, 1, 0, 0), (.getfield 28, 3, 1, 6), (.iconst (-1), 1, 0, 0), (.if_icmp .ne 41, 3, 97, 0), (.aload_n 0, 1, 0, 0), (.getfield 25, 3, 1, 5), (.aload_n 0, 1, 0, 0), (.getfield 18, 3, 1, 2), (.if_icmp .ge 30, 3, 97, 0), (.aload_n 0, 1, 0, 0), (.iload_n 2, 1, 0, 0), (.iconst 4, 1, 0, 0), (.imul, 1, 0, 0), (.invokevirtual 37, 3, 0, 0), (.aload_n 0, 1, 0, 0), (.invokevirtual 34, 3, 0, 0), (.aload_n 0, 1, 0, 0), (.dup, 1, 0, 0), (.getfield 31, 3, 1, 3), (.iconst 1, 1, 0, 0), (.iadd, 1, 0, 0), (.putfield 31, 3, 1, 3), (.iinc 2 1, 3, 0, 0), (.goto (-49), 3, 45, 0)]),
  (97, [(.aload_n 0, 1, 0, 0), (.getfield 28, 3, 1, 6), (.ireturn, 1, 0, 0)])]
def m_X1_read : MB := (yX1_read, cX1_read, 3, (some .int), T_X1_read)
theorem ok_X1_read : mOk m_X1_read := mOk.of (by decide +kernel)
theorem pl_X1_read : plainFor m_X1_read.1 = true := by decide +kernel
def T_X1_readOrder : List (Nat × List MEn) := [(0, [(.iconst 0, 1, 0, 0), (.istore_n 2, 1, 0, 0), (.iconst 0, 1, 0, 0), (.istore_n 3, 1, 0, 0), (.iconst 0, 1, 0, 0), (.istore 4, 2, 0, 0), (.aload_n 0, 1, 0, 0), (.invokevirtual 41, 3, 0, 0), (.istore 5, 2, 0, 0), (.iload 5, 2, 0, 0), (.lookupswitch 147 #[(43, 125), (48, 57), (112, 105), (114, 81), (119, 81), (120, 137)], 57, 0, 0)]),
  (72, [(.aload_n 0, 1, 0, 0), (.iconst (-1), 1, 0, 0), (.invokevirtual 45, 3, 0, 0), (.istore_n 2, 1, 0, 0), (.aload_n 0, 1, 0, 0), (.iload_n 2, 1, 0, 0), (.invokevirtual 45, 3, 0, 0), (.istore_n 3, 1, 0, 0), (.aload_n 0, 1, 0, 0), (.iconst 1, 1, 0, 0), (.bipush 24, 2, 0, 0), (.invokevirtual 51, 3, 0, 0), (.istore 4, 2, 0, 0), (.goto 79, 3, 172, 0)]),
  (96, [(.aload_n 0, 1, 0, 0), (.iconst (-1), 1, 0, 0), (.invokevirtual 45, 3, 0, 0), (.istore_n 2, 1, 0, 0), (.aload_n 0, 1, 0, 0), (.iload_n 2, 1, 0, 0), (.invokevirtual 45, 3, 0, 0), (.istore_n 3, 1, 0, 0), (.aload_n 0, 1, 0, 0), (.iconst 0, 1, 0, 0), (.bipush 30, 2, 0, 0), (.invokevirtual 51, 3, 0, 0), (.istore 4, 2, 0, 0), (.goto 55, 3, 172, 0)]),
  (120, [(.aload_n 0, 1, 0, 0), (.iconst 0, 1, 0, 0), (.bipush 23, 2, 0, 0), (.invokevirtual 51, 3, 0, 0), (.istore_n 2, 1, 0, 0), (.aload_n 0, 1, 0, 0), (.iconst 0, 1, 0, 0), (.bipush 9, 2, 0, 0), (.invokevirtual 51, 3, 0, 0), (.istore 4, 2, 0, 0), (.goto 35, 3, 172, 0)]),
  (140, [(.aload_n 0, 1, 0, 0), (.iconst 0, 1, 0, 0), (.bipush 99, 2, 0, 0), (.invokevirtual 51, 3, 0, 0), (.istore 4, 2, 0, 0), (.goto 23, 3, 172, 0)]),
  (152, [(.aload_n 0, 1, 0, 0), (.iconst 1, 1, 0, 0), (.invokevirtual 55, 3, 0, 0), (.istore 4, 2, 0, 0), (.goto 13, 3, 172, 0)]),
  (162, [(.aload_n 0, 1, 0, 0), (.aload_n 0, 1, 0, 0), (.getfield 25, 3, 1, 5), (.iconst 1, 1, 0, 0), (.isub, 1, 0, 0), (.putfield 28, 3, 1, 6)]),
  (172, [(.aload_n 0, 1, 0, 0), (.invokevirtual 58, 3, 0, 0), (.aload_n 0, 1, 0, 0), (.getfield 15, 3, 1, 1), (.iload_n 1, 1, 0, 0), (.iconst 0, 1, 0, 0), (.iadd, 1, 0, 0), (.iload 5, 2, 0, 0), (.iastore, 1, 0, 0), (.aload_n 0, 1, 0, 0), (.getfield 15, 3, 1, 1), (.iload_n 1, 1, 0, 0), (.iconst 1, 1, 0, 0), (.iadd, 1, 0, 0), (.iload_n 2, 1, 0, 0), (.iastore, 1, 0, 0), (.aload_n 0, 1, 0, 0), (.getfield 15, 3, 1, 1), (.iload_n 1, 1, 0, 0), (.iconst 2, 1, 0, 0), (.iadd, 1, 0, 0), (.iload_n 3, 1, 0, 0), (.iastore, 1, 0, 0), (.aload_n 0, 1, 0, 0), (.getfield 15, 3, 1, 1), (.iload_n 1, 1, 0, 0), (.iconst 3, 1, 0, 0), (.iadd, 1, 0, 0), (.iload 4, 2, 0, 0), (.iastore, 1, 0, 0), (.return_, 1, 0, 0)])]
def m_X1_readOrder : MB := (yX1_readOrder, cX1_readOrder, 6, none, T_X1_readOrder)
theorem ok_X1_readOrder : mOk m_X1_readOrder := mOk.of (by decide +kernel)
theorem pl_X1_readOrder : plainFor m_X1_readOrder.1 = true := by decide +kernel
def T_X1_readKind : List (Nat × List MEn) := [(0, [(.aload_n 0, 1, 0, 0), (.getfield 11, 3, 1, 0), (.aload_n 0, 1, 0, 0), (.getfield 25, 3, 1, 5), (.iaload, 1, 0, 0), (.istore_n 1, 1, 0, 0), (.iload_n 1, 1, 0, 0), (.invokestatic 61, 3, 0, 0), (.ifCond .eq 6, 3, 20, 0), (.bipush 48, 2, 0, 0), (.ireturn, 1, 0, 0)]),
  (20, [(.aload_n 0, 1, 0, 0), (.dup, 1, 0, 0), (.getfield 25, 3, 1, 5), (.iconst 1, 1, 0, 0), (.iadd, 1, 0, 0), (.putfield 25, 3, 1, 5), (.iload_n 1, 1, 0, 0), (.ireturn, 1, 0, 0)])]
def m_X1_readKind : MB := (yX1_readKind, cX1_readKind, 2, (some .int), T_X1_readKind)
theorem ok_X1_readKind : mOk m_X1_readKind := mOk.of (by decide +kernel)
theorem pl_X1_readKind : plainFor m_X1_readKind.1 = true := by decide +kernel
def T_X1_readTown : List (Nat × List MEn) := [(0, [(.aload_n 0, 1, 0, 0), (.aload_n 0, 1, 0, 0), (.getfield 22, 3, 1, 4), (.iconst 1, 1, 0, 0), (.isub, 1, 0, 0), (.invokevirtual 55, 3, 0, 0), (.istore_n 2, 1, 0, 0), (.aload_n 0, 1, 0, 0), (.getfield 28, 3, 1, 6), (.iconst (-1), 1, 0, 0), (.if_icmp .ne 18, 3, 34, 0), (.iload_n 2, 1, 0, 0), (.iload_n 1, 1, 0, 0), (.if_icmp .ne 13, 3, 34, 0), (.aload_n 0, 1, 0, 0), (.aload_n 0, 1, 0, 0), (.getfield 25, 3, 1, 5), (.iconst 1, 1, 0, 0), (.isub, 1, 0, 0), (.putfield 28, 3, 1, 6)]),
  (34, [(.iload_n 2, 1, 0, 0), (.ireturn, 1, 0, 0)])]
def m_X1_readTown : MB := (yX1_readTown, cX1_readTown, 3, (some .int), T_X1_readTown)
theorem ok_X1_readTown : mOk m_X1_readTown := mOk.of (by decide +kernel)
theorem pl_X1_readTown : plainFor m_X1_readTown.1 = true := by decide +kernel
def T_X1_readFigure : List (Nat × List MEn) := [(0, [(.aload_n 0, 1, 0, 0), (.getfield 28, 3, 1, 6), (.iconst (-1), 1, 0, 0), (.if_icmp .eq 5, 3, 10, 0), (.iconst 0, 1, 0, 0), (.ireturn, 1, 0, 0)]),
  (10, [(.aload_n 0, 1, 0, 0), (.invokevirtual 34, 3, 0, 0), (.aload_n 0, 1, 0, 0), (.getfield 25, 3, 1, 5), (.aload_n 0, 1, 0, 0), (.getfield 18, 3, 1, 2), (.if_icmp .ge 18, 3, 40, 0), (.aload_n 0, 1, 0, 0), (.getfield 11, 3, 1, 0), (.aload_n 0, 1, 0, 0), (.getfield 25, 3, 1, 5), (.iaload, 1, 0, 0), (.bipush 48, 2, 0, 0), (.isub, 1, 0, 0), (.goto 4, 3, 41, 0)]),
  (40, [(.iconst (-1), 1, 0, 0)]),
  (41, [(.istore_n 2, 1, 0, 0), (.iload_n 2, 1, 0, 0), (.ifCond .lt 8, 3, 51, 0), (.iload_n 2, 1, 0, 0), (.iload_n 1, 1, 0, 0), (.if_icmp .le 13, 3, 61, 0)]),
  (51, [(.aload_n 0, 1, 0, 0), (.aload_n 0, 1, 0, 0), (.getfield 25, 3, 1, 5), (.putfield 28, 3, 1, 6), (.iconst 0, 1, 0, 0), (.ireturn, 1, 0, 0)]),
  (61, [(.aload_n 0, 1, 0, 0), (.dup, 1, 0, 0), (.getfield 25, 3, 1, 5), (.iconst 1, 1, 0, 0), (.iadd, 1, 0, 0), (.putfield 25, 3, 1, 5), (.iload_n 2, 1, 0, 0), (.ireturn, 1, 0, 0)])]
def m_X1_readFigure : MB := (yX1_readFigure, cX1_readFigure, 3, (some .int), T_X1_readFigure)
theorem ok_X1_readFigure : mOk m_X1_readFigure := mOk.of (by decide +kernel)
theorem pl_X1_readFigure : plainFor m_X1_readFigure.1 = true := by decide +kernel
def T_X1_readNumber : List (Nat × List MEn) := [(0, [(.aload_n 0, 1, 0, 0), (.getfield 28, 3, 1, 6), (.iconst (-1), 1, 0, 0), (.if_icmp .eq 5, 3, 10, 0), (.iconst 0, 1, 0, 0), (.ireturn, 1, 0, 0)]),
  (10, [(.aload_n 0, 1, 0, 0), (.invokevirtual 34, 3, 0, 0), (.aload_n 0, 1, 0, 0), (.getfield 25, 3, 1, 5), (.istore_n 3, 1, 0, 0), (.iconst 0, 1, 0, 0), (.istore 4, 2, 0, 0)]),
  (22, [(.aload_n 0, 1, 0, 0), (.getfield 25, 3, 1, 5), (.aload_n 0, 1, 0, 0), (.getfield 18, 3, 1, 2), (.if_icmp .ge 51, 3, 81, 0), (.aload_n 0, 1, 0, 0), (.getfield 11, 3, 1, 0), (.aload_n 0, 1, 0, 0), (.getfield 25, 3, 1, 5), (.iaload, 1, 0, 0), (.invokestatic 61, 3, 0, 0), (.ifCond .eq 36, 3, 81, 0), (.iload 4, 2, 0, 0), (.bipush 10, 2, 0, 0), (.imul, 1, 0, 0), (.aload_n 0, 1, 0, 0), (.getfield 11, 3, 1, 0), (.aload_n 0, 1, 0, 0), (.getfield 25, 3, 1, 5), (.iaload, 1, 0, 0), (.iadd, 1, 0, 0), (.bipush 48, 2, 0, 0), (.isub, 1, 0, 0), (.istore 4, 2, 0, 0), (.aload_n 0, 1, 0, 0), (.dup, 1, 0, 0), (.getfield 25, 3, 1, 5), (.iconst 1, 1, 0, 0), (.iadd, 1, 0, 0), (.putfield 25, 3, 1, 5), (.goto (-56), 3, 22, 0)]),
  (81, [(.aload_n 0, 1, 0, 0), (.getfield 25, 3, 1, 5), (.iload_n 3, 1, 0, 0), (.isub, 1, 0, 0), (.istore 5, 2, 0, 0), (.iload 5, 2, 0, 0), (.iconst 1, 1, 0, 0), (.if_icmp .lt 21, 3, 113, 0), (.iload 5, 2, 0, 0), (.iconst 2, 1, 0, 0), (.if_icmp .gt 15, 3, 113, 0), (.iload 4, 2, 0, 0), (.iload_n 1, 1, 0, 0), (.if_icmp .lt 9, 3, 113, 0), (.iload 4, 2, 0, 0), (.iload_n 2, 1, 0, 0), (.if_icmp .le 8, 3, 118, 0)]),
  (113, [(.aload_n 0, 1, 0, 0), (.iload_n 3, 1, 0, 0), (.putfield 28, 3, 1, 6)]),
  (118, [(.iload 4, 2, 0, 0), (.ireturn, 1, 0, 0)])]
def m_X1_readNumber : MB := (yX1_readNumber, cX1_readNumber, 6, (some .int), T_X1_readNumber)
theorem ok_X1_readNumber : mOk m_X1_readNumber := mOk.of (by decide +kernel)
theorem pl_X1_readNumber : plainFor m_X1_readNumber.1 = true := by decide +kernel
def T_X1_readEnd : List (Nat × List MEn) := [(0, [(.aload_n 0, 1, 0, 0), (.getfield 28, 3, 1, 6), (.iconst (-1), 1, 0, 0), (.if_icmp .eq 4, 3, 9, 0), (.return_, 1, 0, 0)]),
  (9, [(.aload_n 0, 1, 0, 0), (.invokevirtual 34, 3, 0, 0), (.aload_n 0, 1, 0, 0), (.getfield 25, 3, 1, 5), (.aload_n 0, 1, 0, 0), (.getfield 18, 3, 1, 2), (.if_icmp .ge 30, 3, 51, 0), (.aload_n 0, 1, 0, 0), (.getfield 11, 3, 1, 0), (.aload_n 0, 1, 0, 0), (.getfield 25, 3, 1, 5), (.iaload, 1, 0, 0), (.bipush 59, 2, 0, 0), (.if_icmp .ne 16, 3, 51, 0), (.aload_n 0, 1, 0, 0), (.dup, 1, 0, 0), (.getfield 25, 3, 1, 5), (.iconst 1, 1, 0, 0), (.iadd, 1, 0, 0), (.putfield 25, 3, 1, 5), (.goto 11, 3, 59, 0)]),
  (51, [(.aload_n 0, 1, 0, 0), (.aload_n 0, 1, 0, 0), (.getfield 25, 3, 1, 5), (.putfield 28, 3, 1, 6)]),
  (59, [(.return_, 1, 0, 0)])]
def m_X1_readEnd : MB := (yX1_readEnd, cX1_readEnd, 1, none, T_X1_readEnd)
theorem ok_X1_readEnd : mOk m_X1_readEnd := mOk.of (by decide +kernel)
theorem pl_X1_readEnd : plainFor m_X1_readEnd.1 = true := by decide +kernel
def T_X1_skipBlanks : List (Nat × List MEn) := [(0, [(.aload_n 0, 1, 0, 0), (.getfield 25, 3, 1, 5), (.aload_n 0, 1, 0, 0), (.getfield 18, 3, 1, 2), (.if_icmp .ge 30, 3, 38, 0), (.aload_n 0, 1, 0, 0), (.getfield 11, 3, 1, 0), (.aload_n 0, 1, 0, 0), (.getfield 25, 3, 1, 5), (.iaload, 1, 0, 0), (.bipush 32, 2, 0, 0), (.if_icmp .ne 16, 3, 38, 0), (.aload_n 0, 1, 0, 0), (.dup, 1, 0, 0), (.getfield 25, 3, 1, 5), (.iconst 1, 1, 0, 0), (.iadd, 1, 0, 0), (.putfield 25, 3, 1, 5), (.goto (-35), 3, 0, 0)]),
  (38, [(.return_, 1, 0, 0)])]
def m_X1_skipBlanks : MB := (yX1_skipBlanks, cX1_skipBlanks, 1, none, T_X1_skipBlanks)
theorem ok_X1_skipBlanks : mOk m_X1_skipBlanks := mOk.of (by decide +kernel)
theorem pl_X1_skipBlanks : plainFor m_X1_skipBlanks.1 = true := by decide +kernel
def T_X1_isFigure : List (Nat × List MEn) := [(0, [(.iload_n 0, 1, 0, 0), (.bipush 48, 2, 0, 0), (.if_icmp .lt 13, 3, 16, 0), (.iload_n 0, 1, 0, 0), (.bipush 57, 2, 0, 0), (.if_icmp .gt 7, 3, 16, 0), (.iconst 1, 1, 0, 0), (.goto 4, 3, 17, 0)]),
  (16, [(.iconst 0, 1, 0, 0)]),
  (17, [(.ireturn, 1, 0, 0)])]
def m_X1_isFigure : MB := (yX1_isFigure, cX1_isFigure, 1, (some .boolean), T_X1_isFigure)
theorem ok_X1_isFigure : mOk m_X1_isFigure := mOk.of (by decide +kernel)
theorem pl_X1_isFigure : plainFor m_X1_isFigure.1 = true := by decide +kernel
def T_X2_towns : List (Nat × List MEn) := [(0, [(.iload_n 1, 1, 0, 0), (.iconst 3, 1, 0, 0), (.bipush 6, 2, 0, 0), (.invokestatic 30, 3, 0, 0), (.ifCond .ne 10, 3, 17, 0), (.aload_n 0, 1, 0, 0), (.bipush (-2), 2, 0, 0), (.invokevirtual 34, 3, 0, 0), (.ireturn, 1, 0, 0)]),
  (17, [(.aload_n 0, 1, 0, 0), (.invokevirtual 38, 3, 0, 0), (.aload_n 0, 1, 0, 0), (.getfield 10, 3, 2, 0), (.getfield 41, 3, 0, 0), (.istore_n 2, 1, 0, 0), (.aload_n 0, 1, 0, 0), (.getfield 10, 3, 2, 0), (.iload_n 1, 1, 0, 0), (.invokevirtual 45, 3, 0, 0), (.iload_n 2, 1, 0, 0), (.ireturn, 1, 0, 0)])]
def m_X2_towns : MB := (yX2_towns, cX2_towns, 3, (some .int), T_X2_towns)
theorem ok_X2_towns : mOk m_X2_towns := mOk.of (by decide +kernel)
theorem pl_X2_towns : plainFor m_X2_towns.1 = true := by decide +kernel
def T_X2_link : List (Nat × List MEn) := [(0, [(.aload_n 0, 1, 0, 0), (.iload_n 1, 1, 0, 0), (.iload_n 2, 1, 0, 0), (.invokevirtual 49, 3, 0, 0), (.ifCond .eq 23, 3, 29, 0), (.iload_n 3, 1, 0, 0), (.iconst 0, 1, 0, 0), (.iconst 1, 1, 0, 0), (.invokestatic 30, 3, 0, 0), (.ifCond .eq 14, 3, 29, 0), (.iload 4, 2, 0, 0), (.iconst 0, 1, 0, 0), (.bipush 30, 2, 0, 0), (.invokestatic 30, 3, 0, 0), (.ifCond .ne 10, 3, 36, 0)]),
  (29, [(.aload_n 0, 1, 0, 0), (.bipush (-2), 2, 0, 0), (.invokevirtual 34, 3, 0, 0), (.ireturn, 1, 0, 0)]),
  (36, [(.aload_n 0, 1, 0, 0), (.invokevirtual 38, 3, 0, 0), (.iload_n 3, 1, 0, 0), (.ifCond .ne 13, 3, 54, 0), (.aload_n 0, 1, 0, 0), (.getfield 10, 3, 2, 0), (.getfield 53, 3, 0, 5), (.goto 10, 3, 61, 0)]),
  (54, [(.aload_n 0, 1, 0, 0), (.getfield 10, 3, 2, 0), (.getfield 57, 3, 0, 6)]),
  (61, [(.astore 5, 2, 0, 0), (.iload_n 1, 1, 0, 0), (.iload_n 2, 1, 0, 0), (.invokestatic 60, 3, 0, 0), (.istore 6, 2, 0, 0), (.aload 5, 2, 0, 0), (.iload 6, 2, 0, 0), (.iaload, 1, 0, 0), (.istore 7, 2, 0, 0), (.aload 5, 2, 0, 0), (.iload 6, 2, 0, 0), (.iload 4, 2, 0, 0), (.iastore, 1, 0, 0), (.iload 7, 2, 0, 0), (.ireturn, 1, 0, 0)])]
def m_X2_link : MB := (yX2_link, cX2_link, 8, (some .int), T_X2_link)
theorem ok_X2_link : mOk m_X2_link := mOk.of (by decide +kernel)
theorem pl_X2_link : plainFor m_X2_link.1 = true := by decide +kernel
def T_X2_links : List (Nat × List MEn) := [(0, [(.iload_n 1, 1, 0, 0), (.iconst 0, 1, 0, 0), (.iconst 1, 1, 0, 0), (.invokestatic 30, 3, 0, 0), (.ifCond .eq 13, 3, 19, 0), (.iload_n 2, 1, 0, 0), (.iconst 0, 1, 0, 0), (.bipush 30, 2, 0, 0), (.invokestatic 30, 3, 0, 0), (.ifCond .ne 10, 3, 26, 0)]),
  (19, [(.aload_n 0, 1, 0, 0), (.bipush (-2), 2, 0, 0), (.invokevirtual 34, 3, 0, 0), (.ireturn, 1, 0, 0)]),
  (26, [(.aload_n 0, 1, 0, 0), (.invokevirtual 38, 3, 0, 0), (.iload_n 1, 1, 0, 0), (.ifCond .ne 13, 3, 44, 0), (.aload_n 0, 1, 0, 0), (.getfield 10, 3, 2, 0), (.getfield 53, 3, 0, 5), (.goto 10, 3, 51, 0)]),
  (44, [(.aload_n 0, 1, 0, 0), (.getfield 10, 3, 2, 0), (.getfield 57, 3, 0, 6)]),
  (51, [(.iload_n 2, 1, 0, 0), (.invokestatic 64, 3, 0, 0), (.aload_n 0, 1, 0, 0), (.getfield 10, 3, 2, 0), (.getfield 41, 3, 0, 0), (.aload_n 0, 1, 0, 0), (.getfield 10, 3, 2, 0), (.getfield 41, 3, 0, 0), (.iconst 1, 1, 0, 0), (.isub, 1, 0, 0), (.imul, 1, 0, 0), (.iconst 2, 1, 0, 0), (.idiv, 1, 0, 0), (.ireturn, 1, 0, 0)])]
def m_X2_links : MB := (yX2_links, cX2_links, 3, (some .int), T_X2_links)
theorem ok_X2_links : mOk m_X2_links := mOk.of (by decide +kernel)
theorem pl_X2_links : plainFor m_X2_links.1 = true := by decide +kernel
def T_X2_back : List (Nat × List MEn) := [(0, [(.iload_n 1, 1, 0, 0), (.iconst 0, 1, 0, 0), (.iconst 1, 1, 0, 0), (.invokestatic 30, 3, 0, 0), (.ifCond .ne 10, 3, 16, 0), (.aload_n 0, 1, 0, 0), (.bipush (-2), 2, 0, 0), (.invokevirtual 34, 3, 0, 0), (.ireturn, 1, 0, 0)]),
  (16, [(.aload_n 0, 1, 0, 0), (.invokevirtual 38, 3, 0, 0), (.aload_n 0, 1, 0, 0), (.getfield 10, 3, 2, 0), (.getfield 68, 3, 0, 1), (.istore_n 2, 1, 0, 0), (.aload_n 0, 1, 0, 0), (.getfield 10, 3, 2, 0), (.iload_n 1, 1, 0, 0), (.putfield 68, 3, 0, 1), (.iload_n 2, 1, 0, 0), (.ireturn, 1, 0, 0)])]
def m_X2_back : MB := (yX2_back, cX2_back, 3, (some .int), T_X2_back)
theorem ok_X2_back : mOk m_X2_back := mOk.of (by decide +kernel)
theorem pl_X2_back : plainFor m_X2_back.1 = true := by decide +kernel
def T_X2_load : List (Nat × List MEn) := [(0, [(.iload_n 1, 1, 0, 0), (.iconst 0, 1, 0, 0), (.bipush 23, 2, 0, 0), (.invokestatic 30, 3, 0, 0), (.ifCond .eq 13, 3, 20, 0), (.iload_n 2, 1, 0, 0), (.iconst 0, 1, 0, 0), (.bipush 9, 2, 0, 0), (.invokestatic 30, 3, 0, 0), (.ifCond .ne 10, 3, 27, 0)]),
  (20, [(.aload_n 0, 1, 0, 0), (.bipush (-2), 2, 0, 0), (.invokevirtual 34, 3, 0, 0), (.ireturn, 1, 0, 0)]),
  (27, [(.aload_n 0, 1, 0, 0), (.invokevirtual 38, 3, 0, 0), (.aload_n 0, 1, 0, 0), (.getfield 10, 3, 2, 0), (.getfield 71, 3, 0, 11), (.iload_n 1, 1, 0, 0), (.iaload, 1, 0, 0), (.istore_n 3, 1, 0, 0), (.aload_n 0, 1, 0, 0), (.getfield 10, 3, 2, 0), (.getfield 71, 3, 0, 11), (.iload_n 1, 1, 0, 0), (.iload_n 2, 1, 0, 0), (.iastore, 1, 0, 0), (.iload_n 3, 1, 0, 0), (.ireturn, 1, 0, 0)])]
def m_X2_load : MB := (yX2_load, cX2_load, 4, (some .int), T_X2_load)
theorem ok_X2_load : mOk m_X2_load := mOk.of (by decide +kernel)
theorem pl_X2_load : plainFor m_X2_load.1 = true := by decide +kernel
def T_X2_seed : List (Nat × List MEn) := [(0, [(.iload_n 1, 1, 0, 0), (.iconst 0, 1, 0, 0), (.ldc 74, 2, 999999, 0), (.invokestatic 30, 3, 0, 0), (.ifCond .ne 10, 3, 17, 0), (.aload_n 0, 1, 0, 0), (.bipush (-2), 2, 0, 0), (.invokevirtual 34, 3, 0, 0), (.ireturn, 1, 0, 0)]),
  (17, [(.aload_n 0, 1, 0, 0), (.invokevirtual 38, 3, 0, 0), (.aload_n 0, 1, 0, 0), (.getfield 10, 3, 2, 0), (.iload_n 1, 1, 0, 0), (.putfield 75, 3, 0, 2), (.iconst 1, 1, 0, 0), (.ireturn, 1, 0, 0)])]
def m_X2_seed : MB := (yX2_seed, cX2_seed, 2, (some .int), T_X2_seed)
theorem ok_X2_seed : mOk m_X2_seed := mOk.of (by decide +kernel)
theorem pl_X2_seed : plainFor m_X2_seed.1 = true := by decide +kernel
def T_X2_of : List (Nat × List MEn) := [(0, [(.aload_n 0, 1, 0, 0), (.iload_n 1, 1, 0, 0), (.iload_n 2, 1, 0, 0), (.invokevirtual 49, 3, 0, 0), (.ifCond .eq 12, 3, 18, 0), (.iload_n 3, 1, 0, 0), (.iconst 0, 1, 0, 0), (.iconst 3, 1, 0, 0), (.invokestatic 30, 3, 0, 0), (.ifCond .ne 10, 3, 25, 0)]),
  (18, [(.aload_n 0, 1, 0, 0), (.bipush (-2), 2, 0, 0), (.invokevirtual 34, 3, 0, 0), (.ireturn, 1, 0, 0)]),
  (25, [(.iload_n 1, 1, 0, 0), (.iload_n 2, 1, 0, 0), (.invokestatic 60, 3, 0, 0), (.istore 4, 2, 0, 0), (.iload_n 3, 1, 0, 0), (.tableswitch 59 0 2 #[27, 38, 49], 27, 0, 0)]),
  (60, [(.aload_n 0, 1, 0, 0), (.getfield 10, 3, 2, 0), (.getfield 53, 3, 0, 5), (.iload 4, 2, 0, 0), (.iaload, 1, 0, 0), (.ireturn, 1, 0, 0)]),
  (71, [(.aload_n 0, 1, 0, 0), (.getfield 10, 3, 2, 0), (.getfield 57, 3, 0, 6), (.iload 4, 2, 0, 0), (.iaload, 1, 0, 0), (.ireturn, 1, 0, 0)]),
  (82, [(.aload_n 0, 1, 0, 0), (.getfield 10, 3, 2, 0), (.iload 4, 2, 0, 0), (.invokevirtual 78, 3, 0, 0), (.ireturn, 1, 0, 0)]),
  (92, [(.aload_n 0, 1, 0, 0), (.getfield 10, 3, 2, 0), (.iload 4, 2, 0, 0), (.invokevirtual 81, 3, 0, 0), (.ireturn, 1, 0, 0)])]
def m_X2_of : MB := (yX2_of, cX2_of, 5, (some .int), T_X2_of)
theorem ok_X2_of : mOk m_X2_of := mOk.of (by decide +kernel)
theorem pl_X2_of : plainFor m_X2_of.1 = true := by decide +kernel
def T_X2_sticky : List (Nat × List MEn) := [(0, [(.aload_n 0, 1, 0, 0), (.iload_n 1, 1, 0, 0), (.iload_n 2, 1, 0, 0), (.invokevirtual 49, 3, 0, 0), (.ifCond .eq 19, 3, 25, 0), (.aload_n 0, 1, 0, 0), (.getfield 10, 3, 2, 0), (.getfield 84, 3, 0, 8), (.iload_n 1, 1, 0, 0), (.iload_n 2, 1, 0, 0), (.invokestatic 87, 3, 0, 0), (.iaload, 1, 0, 0), (.goto 9, 3, 31, 0)]),
  (25, [(.aload_n 0, 1, 0, 0), (.bipush (-2), 2, 0, 0), (.invokevirtual 34, 3, 0, 0)]),
  (31, [(.ireturn, 1, 0, 0)])]
def m_X2_sticky : MB := (yX2_sticky, cX2_sticky, 3, (some .int), T_X2_sticky)
theorem ok_X2_sticky : mOk m_X2_sticky := mOk.of (by decide +kernel)
theorem pl_X2_sticky : plainFor m_X2_sticky.1 = true := by decide +kernel
def T_X2_call : List (Nat × List MEn) := [(0, [(.aload_n 0, 1, 0, 0), (.iload_n 1, 1, 0, 0), (.iload_n 2, 1, 0, 0), (.invokevirtual 49, 3, 0, 0), (.ifCond .eq 13, 3, 19, 0), (.iload_n 3, 1, 0, 0), (.iconst 1, 1, 0, 0), (.bipush 24, 2, 0, 0), (.invokestatic 30, 3, 0, 0), (.ifCond .ne 10, 3, 26, 0)]),
  (19, [(.aload_n 0, 1, 0, 0), (.bipush (-2), 2, 0, 0), (.invokevirtual 34, 3, 0, 0), (.ireturn, 1, 0, 0)]),
  (26, [(.aload_n 0, 1, 0, 0), (.getfield 10, 3, 2, 0), (.getfield 90, 3, 0, 4), (.bipush 80, 2, 0, 0), (.if_icmp .lt 10, 3, 45, 0), (.aload_n 0, 1, 0, 0), (.bipush (-4), 2, 0, 0), (.invokevirtual 34, 3, 0, 0), (.ireturn, 1, 0, 0)]),
  (45, [(.aload_n 0, 1, 0, 0), (.invokevirtual 38, 3, 0, 0), (.aload_n 0, 1, 0, 0), (.getfield 10, 3, 2, 0), (.iload_n 1, 1, 0, 0), (.iload_n 2, 1, 0, 0), (.iload_n 3, 1, 0, 0), (.invokevirtual 93, 3, 0, 0), (.ireturn, 1, 0, 0)])]
def m_X2_call : MB := (yX2_call, cX2_call, 4, (some .int), T_X2_call)
theorem ok_X2_call : mOk m_X2_call := mOk.of (by decide +kernel)
theorem pl_X2_call : plainFor m_X2_call.1 = true := by decide +kernel
def T_X2_hours : List (Nat × List MEn) := [(0, [(.iload_n 1, 1, 0, 0), (.iconst 1, 1, 0, 0), (.bipush 48, 2, 0, 0), (.invokestatic 30, 3, 0, 0), (.ifCond .ne 10, 3, 17, 0), (.aload_n 0, 1, 0, 0), (.bipush (-2), 2, 0, 0), (.invokevirtual 34, 3, 0, 0), (.ireturn, 1, 0, 0)]),
  (17, [(.aload_n 0, 1, 0, 0), (.invokevirtual 38, 3, 0, 0), (.aload_n 0, 1, 0, 0), (.getfield 10, 3, 2, 0), (.iload_n 1, 1, 0, 0), (.invokevirtual 97, 3, 0, 0), (.ireturn, 1, 0, 0)])]
def m_X2_hours : MB := (yX2_hours, cX2_hours, 2, (some .int), T_X2_hours)
theorem ok_X2_hours : mOk m_X2_hours := mOk.of (by decide +kernel)
theorem pl_X2_hours : plainFor m_X2_hours.1 = true := by decide +kernel
def T_X2_going : List (Nat × List MEn) := [(0, [(.iload_n 1, 1, 0, 0), (.ifCond .lt 12, 3, 13, 0), (.iload_n 2, 1, 0, 0), (.iconst 0, 1, 0, 0), (.iconst 3, 1, 0, 0), (.invokestatic 30, 3, 0, 0), (.ifCond .ne 10, 3, 20, 0)]),
  (13, [(.aload_n 0, 1, 0, 0), (.bipush (-2), 2, 0, 0), (.invokevirtual 34, 3, 0, 0), (.ireturn, 1, 0, 0)]),
  (20, [(.iload_n 1, 1, 0, 0), (.aload_n 0, 1, 0, 0), (.getfield 10, 3, 2, 0), (.getfield 90, 3, 0, 4), (.if_icmp .ge 19, 3, 47, 0), (.aload_n 0, 1, 0, 0), (.getfield 10, 3, 2, 0), (.getfield 100, 3, 0, 12), (.iload_n 1, 1, 0, 0), (.iconst 4, 1, 0, 0), (.imul, 1, 0, 0), (.iload_n 2, 1, 0, 0), (.iadd, 1, 0, 0), (.iaload, 1, 0, 0), (.goto 4, 3, 48, 0)]),
  (47, [(.iconst (-1), 1, 0, 0)]),
  (48, [(.ireturn, 1, 0, 0)])]
def m_X2_going : MB := (yX2_going, cX2_going, 3, (some .int), T_X2_going)
theorem ok_X2_going : mOk m_X2_going := mOk.of (by decide +kernel)
theorem pl_X2_going : plainFor m_X2_going.1 = true := by decide +kernel
def T_X2_ends : List (Nat × List MEn) := [(0, [(.iload_n 1, 1, 0, 0), (.ifCond .ge 10, 3, 11, 0), (.aload_n 0, 1, 0, 0), (.bipush (-2), 2, 0, 0), (.invokevirtual 34, 3, 0, 0), (.ireturn, 1, 0, 0)]),
  (11, [(.iload_n 1, 1, 0, 0), (.aload_n 0, 1, 0, 0), (.getfield 10, 3, 2, 0), (.getfield 90, 3, 0, 4), (.if_icmp .lt 10, 3, 29, 0), (.aload_n 0, 1, 0, 0), (.bipush (-3), 2, 0, 0), (.invokevirtual 34, 3, 0, 0), (.ireturn, 1, 0, 0)]),
  (29, [(.aload_n 0, 1, 0, 0), (.invokevirtual 38, 3, 0, 0), (.aload_n 0, 1, 0, 0), (.getfield 10, 3, 2, 0), (.iload_n 1, 1, 0, 0), (.invokevirtual 103, 3, 0, 0), (.aload_n 0, 1, 0, 0), (.getfield 10, 3, 2, 0), (.getfield 90, 3, 0, 4), (.ireturn, 1, 0, 0)])]
def m_X2_ends : MB := (yX2_ends, cX2_ends, 2, (some .int), T_X2_ends)
theorem ok_X2_ends : mOk m_X2_ends := mOk.of (by decide +kernel)
theorem pl_X2_ends : plainFor m_X2_ends.1 = true := by decide +kernel
def T_X2_all : List (Nat × List MEn) := [(0, [(.iload_n 1, 1, 0, 0), (.iconst 0, 1, 0, 0), (.iconst 4, 1, 0, 0), (.invokestatic 30, 3, 0, 0), (.ifCond .eq 15, 3, 21, 0), (.aload_n 0, 1, 0, 0), (.getfield 10, 3, 2, 0), (.getfield 106, 3, 0, 10), (.iload_n 1, 1, 0, 0), (.iaload, 1, 0, 0), (.goto 9, 3, 27, 0)]),
  (21, [(.aload_n 0, 1, 0, 0), (.bipush (-2), 2, 0, 0), (.invokevirtual 34, 3, 0, 0)]),
  (27, [(.ireturn, 1, 0, 0)])]
def m_X2_all : MB := (yX2_all, cX2_all, 2, (some .int), T_X2_all)
theorem ok_X2_all : mOk m_X2_all := mOk.of (by decide +kernel)
theorem pl_X2_all : plainFor m_X2_all.1 = true := by decide +kernel
def T_X2_pair : List (Nat × List MEn) := [(0, [(.aload_n 0, 1, 0, 0), (.iload_n 1, 1, 0, 0), (.iload_n 2, 1, 0, 0), (.invokevirtual 49, 3, 0, 0), (.ifCond .eq 12, 3, 18, 0), (.iload_n 3, 1, 0, 0), (.iconst 0, 1, 0, 0), (.iconst 4, 1, 0, 0), (.invokestatic 30, 3, 0, 0), (.ifCond .ne 10, 3, 25, 0)]),
  (18, [(.aload_n 0, 1, 0, 0), (.bipush (-2), 2, 0, 0), (.invokevirtual 34, 3, 0, 0), (.ireturn, 1, 0, 0)]),
  (25, [(.aload_n 0, 1, 0, 0), (.getfield 10, 3, 2, 0), (.getfield 109, 3, 0, 9), (.iload_n 3, 1, 0, 0), (.bipush 36, 2, 0, 0), (.imul, 1, 0, 0), (.iload_n 1, 1, 0, 0), (.iload_n 2, 1, 0, 0), (.invokestatic 87, 3, 0, 0), (.iadd, 1, 0, 0), (.iaload, 1, 0, 0), (.ireturn, 1, 0, 0)])]
def m_X2_pair : MB := (yX2_pair, cX2_pair, 4, (some .int), T_X2_pair)
theorem ok_X2_pair : mOk m_X2_pair := mOk.of (by decide +kernel)
theorem pl_X2_pair : plainFor m_X2_pair.1 = true := by decide +kernel
def T_X2_worst : List (Nat × List MEn) := [(0, [(.iload_n 1, 1, 0, 0), (.iconst 0, 1, 0, 0), (.iconst 3, 1, 0, 0), (.invokestatic 30, 3, 0, 0), (.ifCond .ne 10, 3, 16, 0), (.aload_n 0, 1, 0, 0), (.bipush (-2), 2, 0, 0), (.invokevirtual 34, 3, 0, 0), (.ireturn, 1, 0, 0)]),
  (16, [(.iload_n 1, 1, 0, 0), (.iconst 2, 1, 0, 0), (.if_icmp .ge 13, 3, 31, 0), (.aload_n 0, 1, 0, 0), (.getfield 10, 3, 2, 0), (.invokevirtual 112, 3, 0, 0), (.goto 10, 3, 38, 0)]),
  (31, [(.aload_n 0, 1, 0, 0), (.getfield 10, 3, 2, 0), (.invokevirtual 116, 3, 0, 0)]),
  (38, [(.istore_n 2, 1, 0, 0), (.iload_n 1, 1, 0, 0), (.lookupswitch 46 #[(1, 28), (3, 37)], 28, 0, 0)]),
  (68, [(.aload_n 0, 1, 0, 0), (.getfield 10, 3, 2, 0), (.iload_n 2, 1, 0, 0), (.invokevirtual 119, 3, 0, 0), (.ireturn, 1, 0, 0)]),
  (77, [(.aload_n 0, 1, 0, 0), (.getfield 10, 3, 2, 0), (.iload_n 2, 1, 0, 0), (.invokevirtual 78, 3, 0, 0), (.ireturn, 1, 0, 0)]),
  (86, [(.iload_n 2, 1, 0, 0), (.bipush 6, 2, 0, 0), (.idiv, 1, 0, 0), (.bipush 10, 2, 0, 0), (.imul, 1, 0, 0), (.iload_n 2, 1, 0, 0), (.bipush 6, 2, 0, 0), (.irem, 1, 0, 0), (.iadd, 1, 0, 0), (.ireturn, 1, 0, 0)])]
def m_X2_worst : MB := (yX2_worst, cX2_worst, 3, (some .int), T_X2_worst)
theorem ok_X2_worst : mOk m_X2_worst := mOk.of (by decide +kernel)
theorem pl_X2_worst : plainFor m_X2_worst.1 = true := by decide +kernel
def T_X2_burden : List (Nat × List MEn) := [(0, [(.aload_n 0, 1, 0, 0), (.getfield 10, 3, 2, 0), (.getfield 90, 3, 0, 4), (.ifCond .ne 7, 3, 14, 0), (.iconst 0, 1, 0, 0), (.goto 22, 3, 33, 0)]),
  (14, [(.aload_n 0, 1, 0, 0), (.getfield 10, 3, 2, 0), (.invokevirtual 122, 3, 0, 0), (.sipush 1000, 3, 0, 0), (.imul, 1, 0, 0), (.aload_n 0, 1, 0, 0), (.getfield 10, 3, 2, 0), (.getfield 90, 3, 0, 4), (.idiv, 1, 0, 0)]),
  (33, [(.ireturn, 1, 0, 0)])]
def m_X2_burden : MB := (yX2_burden, cX2_burden, 1, (some .int), T_X2_burden)
theorem ok_X2_burden : mOk m_X2_burden := mOk.of (by decide +kernel)
theorem pl_X2_burden : plainFor m_X2_burden.1 = true := by decide +kernel
def T_X2_would : List (Nat × List MEn) := [(0, [(.iload_n 1, 1, 0, 0), (.iconst 1, 1, 0, 0), (.bipush 48, 2, 0, 0), (.invokestatic 30, 3, 0, 0), (.ifCond .eq 13, 3, 20, 0), (.iload_n 2, 1, 0, 0), (.iconst 0, 1, 0, 0), (.bipush 30, 2, 0, 0), (.invokestatic 30, 3, 0, 0), (.ifCond .ne 10, 3, 27, 0)]),
  (20, [(.aload_n 0, 1, 0, 0), (.bipush (-2), 2, 0, 0), (.invokevirtual 34, 3, 0, 0), (.ireturn, 1, 0, 0)]),
  (27, [(.aload_n 0, 1, 0, 0), (.iload_n 2, 1, 0, 0), (.iload_n 1, 1, 0, 0), (.ldc 125, 2, 1000000, 0), (.invokevirtual 126, 3, 0, 0), (.ireturn, 1, 0, 0)])]
def m_X2_would : MB := (yX2_would, cX2_would, 3, (some .int), T_X2_would)
theorem ok_X2_would : mOk m_X2_would := mOk.of (by decide +kernel)
theorem pl_X2_would : plainFor m_X2_would.1 = true := by decide +kernel
def T_X2_best : List (Nat × List MEn) := [(0, [(.iload_n 1, 1, 0, 0), (.iconst 1, 1, 0, 0), (.bipush 48, 2, 0, 0), (.invokestatic 30, 3, 0, 0), (.ifCond .eq 12, 3, 19, 0), (.iload_n 2, 1, 0, 0), (.iconst 0, 1, 0, 0), (.iconst 1, 1, 0, 0), (.invokestatic 30, 3, 0, 0), (.ifCond .ne 10, 3, 26, 0)]),
  (19, [(.aload_n 0, 1, 0, 0), (.bipush (-2), 2, 0, 0), (.invokevirtual 34, 3, 0, 0), (.ireturn, 1, 0, 0)]),
  (26, [(.iconst 0, 1, 0, 0), (.istore_n 3, 1, 0, 0), (.ldc 125, 2, 1000000, 0), (.istore 4, 2, 0, 0), (.iconst 0, 1, 0, 0), (.istore 5, 2, 0, 0)]),
  (35, [(.iload 5, 2, 0, 0), (.bipush 30, 2, 0, 0), (.if_icmp .gt 39, 3, 78, 0), (.iload 4, 2, 0, 0), (.ifCond .le 34, 3, 78, 0), (.aload_n 0, 1, 0, 0), (.iload 5, 2, 0, 0), (.iload_n 1, 1, 0, 0), (.iload 4, 2, 0, 0), (.invokevirtual 126, 3, 0, 0), (.istore 6, 2, 0, 0), (.iload 6, 2, 0, 0), (.iload 4, 2, 0, 0), (.if_icmp .ge 10, 3, 72, 0), (.iload 6, 2, 0, 0), (.istore 4, 2, 0, 0), (.iload 5, 2, 0, 0), (.istore_n 3, 1, 0, 0)]),
  (72, [(.iinc 5 1, 3, 0, 0), (.goto (-40), 3, 35, 0)]),
  (78, [(.iload_n 2, 1, 0, 0), (.ifCond .ne 7, 3, 86, 0), (.iload_n 3, 1, 0, 0), (.goto 5, 3, 88, 0)]),
  (86, [(.iload 4, 2, 0, 0)]),
  (88, [(.ireturn, 1, 0, 0)])]
def m_X2_best : MB := (yX2_best, cX2_best, 7, (some .int), T_X2_best)
theorem ok_X2_best : mOk m_X2_best := mOk.of (by decide +kernel)
theorem pl_X2_best : plainFor m_X2_best.1 = true := by decide +kernel
def T_X2_choked : List (Nat × List MEn) := [(0, [(.iload_n 1, 1, 0, 0), (.iconst 0, 1, 0, 0), (.iconst 1, 1, 0, 0), (.invokestatic 30, 3, 0, 0), (.ifCond .ne 10, 3, 16, 0), (.aload_n 0, 1, 0, 0), (.bipush (-2), 2, 0, 0), (.invokevirtual 34, 3, 0, 0), (.ireturn, 1, 0, 0)]),
  (16, [(.iconst 0, 1, 0, 0), (.istore_n 2, 1, 0, 0), (.iconst 0, 1, 0, 0), (.istore_n 3, 1, 0, 0)]),
  (20, [(.iload_n 3, 1, 0, 0), (.aload_n 0, 1, 0, 0), (.getfield 10, 3, 2, 0), (.getfield 41, 3, 0, 0), (.if_icmp .ge 74, 3, 102, 0), (.iconst 0, 1, 0, 0), (.istore 4, 2, 0, 0)]),
  (34, [(.iload 4, 2, 0, 0), (.aload_n 0, 1, 0, 0), (.getfield 10, 3, 2, 0), (.getfield 41, 3, 0, 0), (.if_icmp .ge 53, 3, 96, 0), (.iload_n 3, 1, 0, 0), (.iload 4, 2, 0, 0), (.if_icmp .eq 41, 3, 90, 0), (.iload_n 1, 1, 0, 0), (.ifCond .ne 21, 3, 74, 0), (.aload_n 0, 1, 0, 0), (.getfield 10, 3, 2, 0), (.iload_n 3, 1, 0, 0), (.iload 4, 2, 0, 0), (.invokevirtual 129, 3, 0, 0), (.bipush (-5), 2, 0, 0), (.if_icmp .ne 22, 3, 90, 0), (.goto 16, 3, 87, 0)]),
  (74, [(.aload_n 0, 1, 0, 0), (.getfield 10, 3, 2, 0), (.iload_n 3, 1, 0, 0), (.iload 4, 2, 0, 0), (.invokevirtual 132, 3, 0, 0), (.ifCond .ne 6, 3, 90, 0)]),
  (87, [(.iinc 2 1, 3, 0, 0)]),
  (90, [(.iinc 4 1, 3, 0, 0), (.goto (-59), 3, 34, 0)]),
  (96, [(.iinc 3 1, 3, 0, 0), (.goto (-79), 3, 20, 0)]),
  (102, [(.iload_n 2, 1, 0, 0), (.ireturn, 1, 0, 0)])]
def m_X2_choked : MB := (yX2_choked, cX2_choked, 5, (some .int), T_X2_choked)
theorem ok_X2_choked : mOk m_X2_choked := mOk.of (by decide +kernel)
theorem pl_X2_choked : plainFor m_X2_choked.1 = true := by decide +kernel
def T_X2_type : List (Nat × List MEn) := [(0, [(.iload_n 1, 1, 0, 0), (.iconst 0, 1, 0, 0), (.bipush 127, 2, 0, 0), (.invokestatic 30, 3, 0, 0), (.ifCond .ne 10, 3, 17, 0), (.aload_n 0, 1, 0, 0), (.bipush (-2), 2, 0, 0), (.invokevirtual 34, 3, 0, 0), (.ireturn, 1, 0, 0)]),
  (17, [(.aload_n 0, 1, 0, 0), (.getfield 26, 3, 2, 3), (.iload_n 1, 1, 0, 0), (.invokevirtual 135, 3, 0, 0), (.ifCond .eq 13, 3, 38, 0), (.aload_n 0, 1, 0, 0), (.getfield 26, 3, 2, 3), (.getfield 139, 3, 1, 2), (.goto 9, 3, 44, 0)]),
  (38, [(.aload_n 0, 1, 0, 0), (.bipush (-4), 2, 0, 0), (.invokevirtual 34, 3, 0, 0)]),
  (44, [(.ireturn, 1, 0, 0)])]
def m_X2_type : MB := (yX2_type, cX2_type, 2, (some .int), T_X2_type)
theorem ok_X2_type : mOk m_X2_type := mOk.of (by decide +kernel)
theorem pl_X2_type : plainFor m_X2_type.1 = true := by decide +kernel
def T_X2_clear : List (Nat × List MEn) := [(0, [(.aload_n 0, 1, 0, 0), (.getfield 26, 3, 2, 3), (.getfield 139, 3, 1, 2), (.istore_n 1, 1, 0, 0), (.aload_n 0, 1, 0, 0), (.getfield 26, 3, 2, 3), (.iconst 0, 1, 0, 0), (.putfield 139, 3, 1, 2), (.iload_n 1, 1, 0, 0), (.ireturn, 1, 0, 0)])]
def m_X2_clear : MB := (yX2_clear, cX2_clear, 2, (some .int), T_X2_clear)
theorem ok_X2_clear : mOk m_X2_clear := mOk.of (by decide +kernel)
theorem pl_X2_clear : plainFor m_X2_clear.1 = true := by decide +kernel
def T_X2_does : List (Nat × List MEn) := [(0, [(.aload_n 0, 1, 0, 0), (.getfield 26, 3, 2, 3), (.aload_n 0, 1, 0, 0), (.getfield 10, 3, 2, 0), (.getfield 41, 3, 0, 0), (.invokevirtual 142, 3, 0, 0), (.istore_n 1, 1, 0, 0), (.iload_n 1, 1, 0, 0), (.iconst (-1), 1, 0, 0), (.if_icmp .eq 8, 3, 25, 0), (.bipush (-10), 2, 0, 0), (.iload_n 1, 1, 0, 0), (.isub, 1, 0, 0), (.ireturn, 1, 0, 0)]),
  (25, [(.aload_n 0, 1, 0, 0), (.invokevirtual 38, 3, 0, 0), (.iconst 0, 1, 0, 0), (.istore_n 2, 1, 0, 0), (.iconst 0, 1, 0, 0), (.istore_n 3, 1, 0, 0)]),
  (33, [(.iload_n 3, 1, 0, 0), (.aload_n 0, 1, 0, 0), (.getfield 26, 3, 2, 3), (.getfield 145, 3, 1, 3), (.if_icmp .ge 32, 3, 73, 0), (.aload_n 0, 1, 0, 0), (.getfield 10, 3, 2, 0), (.aload_n 0, 1, 0, 0), (.getfield 26, 3, 2, 3), (.getfield 148, 3, 1, 1), (.iload_n 3, 1, 0, 0), (.iconst 4, 1, 0, 0), (.imul, 1, 0, 0), (.invokevirtual 151, 3, 0, 0), (.ifCond .eq 6, 3, 67, 0), (.iinc 2 1, 3, 0, 0)]),
  (67, [(.iinc 3 1, 3, 0, 0), (.goto (-37), 3, 33, 0)]),
  (73, [(.iload_n 2, 1, 0, 0), (.ireturn, 1, 0, 0)])]
def m_X2_does : MB := (yX2_does, cX2_does, 4, (some .int), T_X2_does)
theorem ok_X2_does : mOk m_X2_does := mOk.of (by decide +kernel)
theorem pl_X2_does : plainFor m_X2_does.1 = true := by decide +kernel
def T_X2_undo : List (Nat × List MEn) := [(0, [(.aload_n 0, 1, 0, 0), (.getfield 155, 3, 2, 4), (.ifCond .ne 10, 3, 14, 0), (.aload_n 0, 1, 0, 0), (.bipush (-3), 2, 0, 0), (.invokevirtual 34, 3, 0, 0), (.ireturn, 1, 0, 0)]),
  (14, [(.aload_n 0, 1, 0, 0), (.dup, 1, 0, 0), (.getfield 155, 3, 2, 4), (.iconst 1, 1, 0, 0), (.isub, 1, 0, 0), (.putfield 155, 3, 2, 4), (.aload_n 0, 1, 0, 0), (.aload_n 0, 1, 0, 0), (.getfield 158, 3, 2, 5), (.iconst 5, 1, 0, 0), (.iadd, 1, 0, 0), (.iconst 1, 1, 0, 0), (.isub, 1, 0, 0), (.iconst 5, 1, 0, 0), (.irem, 1, 0, 0), (.putfield 158, 3, 2, 5), (.aload_n 0, 1, 0, 0), (.getfield 10, 3, 2, 0), (.aload_n 0, 1, 0, 0), (.getfield 19, 3, 2, 2), (.aload_n 0, 1, 0, 0), (.getfield 158, 3, 2, 5), (.aaload, 1, 0, 0), (.invokevirtual 161, 3, 0, 0), (.aload_n 0, 1, 0, 0), (.getfield 155, 3, 2, 4), (.ireturn, 1, 0, 0)])]
def m_X2_undo : MB := (yX2_undo, cX2_undo, 1, (some .int), T_X2_undo)
theorem ok_X2_undo : mOk m_X2_undo := mOk.of (by decide +kernel)
theorem pl_X2_undo : plainFor m_X2_undo.1 = true := by decide +kernel
def T_X2_told : List (Nat × List MEn) := [(0, [(.iload_n 1, 1, 0, 0), (.tableswitch 123 0 9 #[55, 60, 65, 70, 78, 86, 94, 102, 110, 118], 55, 0, 0)]),
  (56, [(.aload_n 0, 1, 0, 0), (.getfield 165, 3, 2, 6), (.ireturn, 1, 0, 0)]),
  (61, [(.aload_n 0, 1, 0, 0), (.getfield 168, 3, 2, 7), (.ireturn, 1, 0, 0)]),
  (66, [(.aload_n 0, 1, 0, 0), (.getfield 171, 3, 2, 8), (.ireturn, 1, 0, 0)]),
  (71, [(.aload_n 0, 1, 0, 0), (.getfield 26, 3, 2, 3), (.getfield 139, 3, 1, 2), (.ireturn, 1, 0, 0)]),
  (79, [(.aload_n 0, 1, 0, 0), (.getfield 10, 3, 2, 0), (.getfield 41, 3, 0, 0), (.ireturn, 1, 0, 0)]),
  (87, [(.aload_n 0, 1, 0, 0), (.getfield 10, 3, 2, 0), (.getfield 68, 3, 0, 1), (.ireturn, 1, 0, 0)]),
  (95, [(.aload_n 0, 1, 0, 0), (.getfield 10, 3, 2, 0), (.getfield 90, 3, 0, 4), (.ireturn, 1, 0, 0)]),
  (103, [(.aload_n 0, 1, 0, 0), (.getfield 10, 3, 2, 0), (.getfield 174, 3, 0, 3), (.ireturn, 1, 0, 0)]),
  (111, [(.aload_n 0, 1, 0, 0), (.getfield 10, 3, 2, 0), (.getfield 75, 3, 0, 2), (.ireturn, 1, 0, 0)]),
  (119, [(.aload_n 0, 1, 0, 0), (.getfield 155, 3, 2, 4), (.ireturn, 1, 0, 0)]),
  (124, [(.aload_n 0, 1, 0, 0), (.bipush (-2), 2, 0, 0), (.invokevirtual 34, 3, 0, 0), (.ireturn, 1, 0, 0)])]
def m_X2_told : MB := (yX2_told, cX2_told, 2, (some .int), T_X2_told)
theorem ok_X2_told : mOk m_X2_told := mOk.of (by decide +kernel)
theorem pl_X2_told : plainFor m_X2_told.1 = true := by decide +kernel
def T_X2_digest : List (Nat × List MEn) := [(0, [(.ldc2_w 177, 3, 2129, 0), (.lstore_n 1, 1, 0, 0), (.iconst 0, 1, 0, 0), (.istore_n 3, 1, 0, 0)]),
  (6, [(.iload_n 3, 1, 0, 0), (.bipush 9, 2, 0, 0), (.if_icmp .gt 22, 3, 31, 0), (.ldc2_w 179, 3, 31, 0), (.lload_n 1, 1, 0, 0), (.lmul, 1, 0, 0), (.aload_n 0, 1, 0, 0), (.iload_n 3, 1, 0, 0), (.invokevirtual 181, 3, 0, 0), (.i2l, 1, 0, 0), (.ladd, 1, 0, 0), (.lstore_n 1, 1, 0, 0), (.iinc 3 1, 3, 0, 0), (.goto (-22), 3, 6, 0)]),
  (31, [(.aload_n 0, 1, 0, 0), (.getfield 10, 3, 2, 0), (.lload_n 1, 1, 0, 0), (.invokevirtual 184, 3, 0, 0), (.lstore_n 1, 1, 0, 0), (.aload_n 0, 1, 0, 0), (.getfield 10, 3, 2, 0), (.lload_n 1, 1, 0, 0), (.invokevirtual 188, 3, 0, 0), (.lstore_n 1, 1, 0, 0), (.aload_n 0, 1, 0, 0), (.getfield 10, 3, 2, 0), (.lload_n 1, 1, 0, 0), (.invokevirtual 191, 3, 0, 0), (.lreturn, 1, 0, 0)])]
def m_X2_digest : MB := (yX2_digest, cX2_digest, 4, (some .long), T_X2_digest)
theorem ok_X2_digest : mOk m_X2_digest := mOk.of (by decide +kernel)
theorem pl_X2_digest : plainFor m_X2_digest.1 = true := by decide +kernel
def T_X2_within : List (Nat × List MEn) := [(0, [(.iload_n 0, 1, 0, 0), (.iload_n 1, 1, 0, 0), (.if_icmp .lt 12, 3, 14, 0), (.iload_n 0, 1, 0, 0), (.iload_n 2, 1, 0, 0), (.if_icmp .gt 7, 3, 14, 0), (.iconst 1, 1, 0, 0), (.goto 4, 3, 15, 0)]),
  (14, [(.iconst 0, 1, 0, 0)]),
  (15, [(.ireturn, 1, 0, 0)])]
def m_X2_within : MB := (yX2_within, cX2_within, 3, (some .boolean), T_X2_within)
theorem ok_X2_within : mOk m_X2_within := mOk.of (by decide +kernel)
theorem pl_X2_within : plainFor m_X2_within.1 = true := by decide +kernel
def T_X2_isPair : List (Nat × List MEn) := [(0, [(.iload_n 1, 1, 0, 0), (.iload_n 2, 1, 0, 0), (.if_icmp .eq 41, 3, 43, 0), (.iload_n 1, 1, 0, 0), (.iconst 0, 1, 0, 0), (.aload_n 0, 1, 0, 0), (.getfield 10, 3, 2, 0), (.getfield 41, 3, 0, 0), (.iconst 1, 1, 0, 0), (.isub, 1, 0, 0), (.invokestatic 30, 3, 0, 0), (.ifCond .eq 24, 3, 43, 0), (.iload_n 2, 1, 0, 0), (.iconst 0, 1, 0, 0), (.aload_n 0, 1, 0, 0), (.getfield 10, 3, 2, 0), (.getfield 41, 3, 0, 0), (.iconst 1, 1, 0, 0), (.isub, 1, 0, 0), (.invokestatic 30, 3, 0, 0), (.ifCond .eq 7, 3, 43, 0), (.iconst 1, 1, 0, 0), (.goto 4, 3, 44, 0)]),
  (43, [(.iconst 0, 1, 0, 0)]),
  (44, [(.ireturn, 1, 0, 0)])]
def m_X2_isPair : MB := (yX2_isPair, cX2_isPair, 3, (some .boolean), T_X2_isPair)
theorem ok_X2_isPair : mOk m_X2_isPair := mOk.of (by decide +kernel)
theorem pl_X2_isPair : plainFor m_X2_isPair.1 = true := by decide +kernel
def T_X2_refuse : List (Nat × List MEn) := [(0, [(.iload_n 1, 1, 0, 0), (.bipush (-2), 2, 0, 0), (.if_icmp .ne 16, 3, 19, 0), (.aload_n 0, 1, 0, 0), (.dup, 1, 0, 0), (.getfield 165, 3, 2, 6), (.iconst 1, 1, 0, 0), (.iadd, 1, 0, 0), (.putfield 165, 3, 2, 6), (.goto 32, 3, 48, 0)]),
  (19, [(.iload_n 1, 1, 0, 0), (.bipush (-3), 2, 0, 0), (.if_icmp .ne 16, 3, 38, 0), (.aload_n 0, 1, 0, 0), (.dup, 1, 0, 0), (.getfield 168, 3, 2, 7), (.iconst 1, 1, 0, 0), (.iadd, 1, 0, 0), (.putfield 168, 3, 2, 7), (.goto 13, 3, 48, 0)]),
  (38, [(.aload_n 0, 1, 0, 0), (.dup, 1, 0, 0), (.getfield 171, 3, 2, 8), (.iconst 1, 1, 0, 0), (.iadd, 1, 0, 0), (.putfield 171, 3, 2, 8)]),
  (48, [(.iload_n 1, 1, 0, 0), (.ireturn, 1, 0, 0)])]
def m_X2_refuse : MB := (yX2_refuse, cX2_refuse, 2, (some .int), T_X2_refuse)
theorem ok_X2_refuse : mOk m_X2_refuse := mOk.of (by decide +kernel)
theorem pl_X2_refuse : plainFor m_X2_refuse.1 = true := by decide +kernel
def T_X2_keepState : List (Nat × List MEn) := [(0, [(.aload_n 0, 1, 0, 0), (.getfield 19, 3, 2, 2), (.aload_n 0, 1, 0, 0), (.getfield 158, 3, 2, 5), (.aaload, 1, 0, 0), (.aload_n 0, 1, 0, 0), (.getfield 10, 3, 2, 0), (.invokevirtual 161, 3, 0, 0), (.aload_n 0, 1, 0, 0), (.aload_n 0, 1, 0, 0), (.getfield 158, 3, 2, 5), (.iconst 1, 1, 0, 0), (.iadd, 1, 0, 0), (.iconst 5, 1, 0, 0), (.irem, 1, 0, 0), (.putfield 158, 3, 2, 5), (.aload_n 0, 1, 0, 0), (.getfield 155, 3, 2, 4), (.iconst 5, 1, 0, 0), (.if_icmp .ge 13, 3, 46, 0), (.aload_n 0, 1, 0, 0), (.dup, 1, 0, 0), (.getfield 155, 3, 2, 4), (.iconst 1, 1, 0, 0), (.iadd, 1, 0, 0), (.putfield 155, 3, 2, 4)]),
  (46, [(.return_, 1, 0, 0)])]
def m_X2_keepState : MB := (yX2_keepState, cX2_keepState, 1, none, T_X2_keepState)
theorem ok_X2_keepState : mOk m_X2_keepState := mOk.of (by decide +kernel)
theorem pl_X2_keepState : plainFor m_X2_keepState.1 = true := by decide +kernel
def T_X2_refusedWith : List (Nat × List MEn) := [(0, [(.aload_n 0, 1, 0, 0), (.getfield 16, 3, 2, 1), (.aload_n 0, 1, 0, 0), (.getfield 10, 3, 2, 0), (.invokevirtual 161, 3, 0, 0), (.aload_n 0, 1, 0, 0), (.getfield 16, 3, 2, 1), (.getfield 57, 3, 0, 6), (.iload_n 1, 1, 0, 0), (.invokestatic 64, 3, 0, 0), (.iconst 0, 1, 0, 0), (.istore 4, 2, 0, 0), (.iconst 0, 1, 0, 0), (.istore 5, 2, 0, 0)]),
  (28, [(.iload 5, 2, 0, 0), (.iload_n 2, 1, 0, 0), (.if_icmp .ge 45, 3, 76, 0), (.iload 4, 2, 0, 0), (.iload_n 3, 1, 0, 0), (.if_icmp .ge 39, 3, 76, 0), (.aload_n 0, 1, 0, 0), (.getfield 16, 3, 2, 1), (.iconst 1, 1, 0, 0), (.invokevirtual 97, 3, 0, 0), (.pop, 1, 0, 0), (.aload_n 0, 1, 0, 0), (.getfield 16, 3, 2, 1), (.getfield 106, 3, 0, 10), (.iconst 4, 1, 0, 0), (.iaload, 1, 0, 0), (.aload_n 0, 1, 0, 0), (.getfield 10, 3, 2, 0), (.getfield 106, 3, 0, 10), (.iconst 4, 1, 0, 0), (.iaload, 1, 0, 0), (.isub, 1, 0, 0), (.istore 4, 2, 0, 0), (.iinc 5 1, 3, 0, 0), (.goto (-45), 3, 28, 0)]),
  (76, [(.iload 4, 2, 0, 0), (.ireturn, 1, 0, 0)])]
def m_X2_refusedWith : MB := (yX2_refusedWith, cX2_refusedWith, 6, (some .int), T_X2_refusedWith)
theorem ok_X2_refusedWith : mOk m_X2_refusedWith := mOk.of (by decide +kernel)
theorem pl_X2_refusedWith : plainFor m_X2_refusedWith.1 = true := by decide +kernel
def T_X3_begins : List (Nat × List MEn) := [(0, [(.iconst 0, 1, 0, 0), (.istore_n 2, 1, 0, 0)]),
  (2, [(.iload_n 2, 1, 0, 0), (.sipush 637, 3, 0, 0), (.if_icmp .ge 16, 3, 22, 0), (.aload_n 0, 1, 0, 0), (.getfield 7, 3, 3, 0), (.iload_n 2, 1, 0, 0), (.iconst 0, 1, 0, 0), (.iastore, 1, 0, 0), (.iinc 2 1, 3, 0, 0), (.goto (-17), 3, 2, 0)]),
  (22, [(.aload_n 0, 1, 0, 0), (.getfield 7, 3, 3, 0), (.iconst 0, 1, 0, 0), (.iload_n 1, 1, 0, 0), (.iastore, 1, 0, 0), (.aload_n 0, 1, 0, 0), (.getfield 7, 3, 3, 0), (.iconst 2, 1, 0, 0), (.iconst 1, 1, 0, 0), (.iastore, 1, 0, 0), (.iconst 0, 1, 0, 0), (.istore_n 2, 1, 0, 0)]),
  (38, [(.iload_n 2, 1, 0, 0), (.bipush 6, 2, 0, 0), (.if_icmp .ge 74, 3, 115, 0), (.iconst 0, 1, 0, 0), (.istore_n 3, 1, 0, 0)]),
  (46, [(.iload_n 3, 1, 0, 0), (.bipush 6, 2, 0, 0), (.if_icmp .ge 60, 3, 109, 0), (.aload_n 0, 1, 0, 0), (.getfield 7, 3, 3, 0), (.iconst 5, 1, 0, 0), (.bipush 6, 2, 0, 0), (.iload_n 2, 1, 0, 0), (.imul, 1, 0, 0), (.iadd, 1, 0, 0), (.iload_n 3, 1, 0, 0), (.iadd, 1, 0, 0), (.iconst 5, 1, 0, 0), (.iastore, 1, 0, 0), (.iconst 0, 1, 0, 0), (.istore 4, 2, 0, 0)]),
  (69, [(.iload 4, 2, 0, 0), (.iload_n 2, 1, 0, 0), (.if_icmp .eq 9, 3, 81, 0), (.iload 4, 2, 0, 0), (.iload_n 3, 1, 0, 0), (.if_icmp .ne 9, 3, 87, 0)]),
  (81, [(.iinc 4 1, 3, 0, 0), (.goto (-15), 3, 69, 0)]),
  (87, [(.aload_n 0, 1, 0, 0), (.getfield 7, 3, 3, 0), (.bipush 77, 2, 0, 0), (.bipush 6, 2, 0, 0), (.iload_n 2, 1, 0, 0), (.imul, 1, 0, 0), (.iadd, 1, 0, 0), (.iload_n 3, 1, 0, 0), (.iadd, 1, 0, 0), (.iload 4, 2, 0, 0), (.iastore, 1, 0, 0), (.iinc 3 1, 3, 0, 0), (.goto (-60), 3, 46, 0)]),
  (109, [(.iinc 2 1, 3, 0, 0), (.goto (-74), 3, 38, 0)]),
  (115, [(.return_, 1, 0, 0)])]
def m_X3_begins : MB := (yX3_begins, cX3_begins, 5, none, T_X3_begins)
theorem ok_X3_begins : mOk m_X3_begins := mOk.of (by decide +kernel)
theorem pl_X3_begins : plainFor m_X3_begins.1 = true := by decide +kernel
def T_X3_in : List (Nat × List MEn) := [(0, [(.iload_n 0, 1, 0, 0), (.iload_n 1, 1, 0, 0), (.if_icmp .lt 12, 3, 14, 0), (.iload_n 0, 1, 0, 0), (.iload_n 2, 1, 0, 0), (.if_icmp .gt 7, 3, 14, 0), (.iconst 1, 1, 0, 0), (.goto 4, 3, 15, 0)]),
  (14, [(.iconst 0, 1, 0, 0)]),
  (15, [(.ireturn, 1, 0, 0)])]
def m_X3_in : MB := (yX3_in, cX3_in, 3, (some .boolean), T_X3_in)
theorem ok_X3_in : mOk m_X3_in := mOk.of (by decide +kernel)
theorem pl_X3_in : plainFor m_X3_in.1 = true := by decide +kernel
def T_X3_bads : List (Nat × List MEn) := [(0, [(.aload_n 0, 1, 0, 0), (.dup, 1, 0, 0), (.getfield 29, 3, 3, 10), (.iconst 1, 1, 0, 0), (.iadd, 1, 0, 0), (.putfield 29, 3, 3, 10), (.bipush (-2), 2, 0, 0), (.ireturn, 1, 0, 0)])]
def m_X3_bads : MB := (yX3_bads, cX3_bads, 1, (some .int), T_X3_bads)
theorem ok_X3_bads : mOk m_X3_bads := mOk.of (by decide +kernel)
theorem pl_X3_bads : plainFor m_X3_bads.1 = true := by decide +kernel
def T_X3_nos : List (Nat × List MEn) := [(0, [(.aload_n 0, 1, 0, 0), (.dup, 1, 0, 0), (.getfield 33, 3, 3, 11), (.iconst 1, 1, 0, 0), (.iadd, 1, 0, 0), (.putfield 33, 3, 3, 11), (.bipush (-3), 2, 0, 0), (.ireturn, 1, 0, 0)])]
def m_X3_nos : MB := (yX3_nos, cX3_nos, 1, (some .int), T_X3_nos)
theorem ok_X3_nos : mOk m_X3_nos := mOk.of (by decide +kernel)
theorem pl_X3_nos : plainFor m_X3_nos.1 = true := by decide +kernel
def T_X3_isTown : List (Nat × List MEn) := [(0, [(.iload_n 1, 1, 0, 0), (.iconst 0, 1, 0, 0), (.aload_n 0, 1, 0, 0), (.getfield 7, 3, 3, 0), (.iconst 0, 1, 0, 0), (.iaload, 1, 0, 0), (.iconst 1, 1, 0, 0), (.isub, 1, 0, 0), (.invokestatic 36, 3, 0, 0), (.ireturn, 1, 0, 0)])]
def m_X3_isTown : MB := (yX3_isTown, cX3_isTown, 2, (some .boolean), T_X3_isTown)
theorem ok_X3_isTown : mOk m_X3_isTown := mOk.of (by decide +kernel)
theorem pl_X3_isTown : plainFor m_X3_isTown.1 = true := by decide +kernel
def T_X3_areTowns : List (Nat × List MEn) := [(0, [(.aload_n 0, 1, 0, 0), (.iload_n 1, 1, 0, 0), (.invokevirtual 40, 3, 0, 0), (.ifCond .eq 20, 3, 25, 0), (.aload_n 0, 1, 0, 0), (.iload_n 2, 1, 0, 0), (.invokevirtual 40, 3, 0, 0), (.ifCond .eq 12, 3, 25, 0), (.iload_n 1, 1, 0, 0), (.iload_n 2, 1, 0, 0), (.if_icmp .eq 7, 3, 25, 0), (.iconst 1, 1, 0, 0), (.goto 4, 3, 26, 0)]),
  (25, [(.iconst 0, 1, 0, 0)]),
  (26, [(.ireturn, 1, 0, 0)])]
def m_X3_areTowns : MB := (yX3_areTowns, cX3_areTowns, 3, (some .boolean), T_X3_areTowns)
theorem ok_X3_areTowns : mOk m_X3_areTowns := mOk.of (by decide +kernel)
theorem pl_X3_areTowns : plainFor m_X3_areTowns.1 = true := by decide +kernel
def T_X3_keeps : List (Nat × List MEn) := [(0, [(.aload_n 0, 1, 0, 0), (.getfield 44, 3, 3, 3), (.iconst 5, 1, 0, 0), (.if_icmp .ne 44, 3, 49, 0), (.iconst 0, 1, 0, 0), (.istore_n 1, 1, 0, 0)]),
  (10, [(.iload_n 1, 1, 0, 0), (.sipush 2548, 3, 0, 0), (.if_icmp .ge 25, 3, 39, 0), (.aload_n 0, 1, 0, 0), (.getfield 16, 3, 3, 2), (.iload_n 1, 1, 0, 0), (.aload_n 0, 1, 0, 0), (.getfield 16, 3, 3, 2), (.iload_n 1, 1, 0, 0), (.sipush 637, 3, 0, 0), (.iadd, 1, 0, 0), (.iaload, 1, 0, 0), (.iastore, 1, 0, 0), (.iinc 1 1, 3, 0, 0), (.goto (-26), 3, 10, 0)]),
  (39, [(.aload_n 0, 1, 0, 0), (.dup, 1, 0, 0), (.getfield 44, 3, 3, 3), (.iconst 1, 1, 0, 0), (.isub, 1, 0, 0), (.putfield 44, 3, 3, 3)]),
  (49, [(.iconst 0, 1, 0, 0), (.istore_n 1, 1, 0, 0)]),
  (51, [(.iload_n 1, 1, 0, 0), (.sipush 637, 3, 0, 0), (.if_icmp .ge 30, 3, 85, 0), (.aload_n 0, 1, 0, 0), (.getfield 16, 3, 3, 2), (.sipush 637, 3, 0, 0), (.aload_n 0, 1, 0, 0), (.getfield 44, 3, 3, 3), (.imul, 1, 0, 0), (.iload_n 1, 1, 0, 0), (.iadd, 1, 0, 0), (.aload_n 0, 1, 0, 0), (.getfield 7, 3, 3, 0), (.iload_n 1, 1, 0, 0), (.iaload, 1, 0, 0), (.iastore, 1, 0, 0), (.iinc 1 1, 3, 0, 0), (.goto (-31), 3, 51, 0)]),
  (85, [(.aload_n 0, 1, 0, 0), (.dup, 1, 0, 0), (.getfield 44, 3, 3, 3), (.iconst 1, 1, 0, 0), (.iadd, 1, 0, 0), (.putfield 44, 3, 3, 3), (.return_, 1, 0, 0)])]
def m_X3_keeps : MB := (yX3_keeps, cX3_keeps, 2, none, T_X3_keeps)
theorem ok_X3_keeps : mOk m_X3_keeps := mOk.of (by decide +kernel)
theorem pl_X3_keeps : plainFor m_X3_keeps.1 = true := by decide +kernel
def T_X3_pairOf : List (Nat × List MEn) := [(0, [(.iload_n 0, 1, 0, 0), (.iload_n 1, 1, 0, 0), (.if_icmp .ge 12, 3, 14, 0), (.bipush 6, 2, 0, 0), (.iload_n 0, 1, 0, 0), (.imul, 1, 0, 0), (.iload_n 1, 1, 0, 0), (.iadd, 1, 0, 0), (.goto 9, 3, 20, 0)]),
  (14, [(.bipush 6, 2, 0, 0), (.iload_n 1, 1, 0, 0), (.imul, 1, 0, 0), (.iload_n 0, 1, 0, 0), (.iadd, 1, 0, 0)]),
  (20, [(.ireturn, 1, 0, 0)])]
def m_X3_pairOf : MB := (yX3_pairOf, cX3_pairOf, 2, (some .int), T_X3_pairOf)
theorem ok_X3_pairOf : mOk m_X3_pairOf := mOk.of (by decide +kernel)
theorem pl_X3_pairOf : plainFor m_X3_pairOf.1 = true := by decide +kernel
def T_X3_towns : List (Nat × List MEn) := [(0, [(.iload_n 1, 1, 0, 0), (.iconst 3, 1, 0, 0), (.bipush 6, 2, 0, 0), (.invokestatic 36, 3, 0, 0), (.ifCond .ne 8, 3, 15, 0), (.aload_n 0, 1, 0, 0), (.invokevirtual 47, 3, 0, 0), (.ireturn, 1, 0, 0)]),
  (15, [(.aload_n 0, 1, 0, 0), (.invokevirtual 51, 3, 0, 0), (.aload_n 0, 1, 0, 0), (.getfield 7, 3, 3, 0), (.iconst 0, 1, 0, 0), (.iaload, 1, 0, 0), (.istore_n 2, 1, 0, 0), (.aload_n 0, 1, 0, 0), (.iload_n 1, 1, 0, 0), (.invokevirtual 25, 3, 0, 0), (.iload_n 2, 1, 0, 0), (.ireturn, 1, 0, 0)])]
def m_X3_towns : MB := (yX3_towns, cX3_towns, 3, (some .int), T_X3_towns)
theorem ok_X3_towns : mOk m_X3_towns := mOk.of (by decide +kernel)
theorem pl_X3_towns : plainFor m_X3_towns.1 = true := by decide +kernel
def T_X3_link : List (Nat × List MEn) := [(0, [(.aload_n 0, 1, 0, 0), (.iload_n 1, 1, 0, 0), (.iload_n 2, 1, 0, 0), (.invokevirtual 54, 3, 0, 0), (.ifCond .eq 23, 3, 29, 0), (.iload_n 3, 1, 0, 0), (.iconst 0, 1, 0, 0), (.iconst 1, 1, 0, 0), (.invokestatic 36, 3, 0, 0), (.ifCond .eq 14, 3, 29, 0), (.iload 4, 2, 0, 0), (.iconst 0, 1, 0, 0), (.bipush 30, 2, 0, 0), (.invokestatic 36, 3, 0, 0), (.ifCond .ne 8, 3, 34, 0)]),
  (29, [(.aload_n 0, 1, 0, 0), (.invokevirtual 47, 3, 0, 0), (.ireturn, 1, 0, 0)]),
  (34, [(.aload_n 0, 1, 0, 0), (.invokevirtual 51, 3, 0, 0), (.iload_n 3, 1, 0, 0), (.ifCond .ne 7, 3, 46, 0), (.iconst 5, 1, 0, 0), (.goto 5, 3, 48, 0)]),
  (46, [(.bipush 41, 2, 0, 0)]),
  (48, [(.iload_n 1, 1, 0, 0), (.iload_n 2, 1, 0, 0), (.invokestatic 58, 3, 0, 0), (.iadd, 1, 0, 0), (.istore 5, 2, 0, 0), (.aload_n 0, 1, 0, 0), (.getfield 7, 3, 3, 0), (.iload 5, 2, 0, 0), (.iaload, 1, 0, 0), (.istore 6, 2, 0, 0), (.aload_n 0, 1, 0, 0), (.getfield 7, 3, 3, 0), (.iload 5, 2, 0, 0), (.iload 4, 2, 0, 0), (.iastore, 1, 0, 0), (.iload 6, 2, 0, 0), (.ireturn, 1, 0, 0)])]
def m_X3_link : MB := (yX3_link, cX3_link, 7, (some .int), T_X3_link)
theorem ok_X3_link : mOk m_X3_link := mOk.of (by decide +kernel)
theorem pl_X3_link : plainFor m_X3_link.1 = true := by decide +kernel
def T_X3_links : List (Nat × List MEn) := [(0, [(.iload_n 1, 1, 0, 0), (.iconst 0, 1, 0, 0), (.iconst 1, 1, 0, 0), (.invokestatic 36, 3, 0, 0), (.ifCond .eq 13, 3, 19, 0), (.iload_n 2, 1, 0, 0), (.iconst 0, 1, 0, 0), (.bipush 30, 2, 0, 0), (.invokestatic 36, 3, 0, 0), (.ifCond .ne 8, 3, 24, 0)]),
  (19, [(.aload_n 0, 1, 0, 0), (.invokevirtual 47, 3, 0, 0), (.ireturn, 1, 0, 0)]),
  (24, [(.aload_n 0, 1, 0, 0), (.invokevirtual 51, 3, 0, 0), (.iconst 0, 1, 0, 0), (.istore_n 3, 1, 0, 0)]),
  (30, [(.iload_n 3, 1, 0, 0), (.bipush 36, 2, 0, 0), (.if_icmp .ge 27, 3, 60, 0), (.aload_n 0, 1, 0, 0), (.getfield 7, 3, 3, 0), (.iload_n 1, 1, 0, 0), (.ifCond .ne 7, 3, 48, 0), (.iconst 5, 1, 0, 0), (.goto 5, 3, 50, 0)]),
  (48, [(.bipush 41, 2, 0, 0)]),
  (50, [(.iload_n 3, 1, 0, 0), (.iadd, 1, 0, 0), (.iload_n 2, 1, 0, 0), (.iastore, 1, 0, 0), (.iinc 3 1, 3, 0, 0), (.goto (-27), 3, 30, 0)]),
  (60, [(.aload_n 0, 1, 0, 0), (.getfield 7, 3, 3, 0), (.iconst 0, 1, 0, 0), (.iaload, 1, 0, 0), (.aload_n 0, 1, 0, 0), (.getfield 7, 3, 3, 0), (.iconst 0, 1, 0, 0), (.iaload, 1, 0, 0), (.iconst 1, 1, 0, 0), (.isub, 1, 0, 0), (.imul, 1, 0, 0), (.iconst 2, 1, 0, 0), (.idiv, 1, 0, 0), (.ireturn, 1, 0, 0)])]
def m_X3_links : MB := (yX3_links, cX3_links, 4, (some .int), T_X3_links)
theorem ok_X3_links : mOk m_X3_links := mOk.of (by decide +kernel)
theorem pl_X3_links : plainFor m_X3_links.1 = true := by decide +kernel
def T_X3_back : List (Nat × List MEn) := [(0, [(.iload_n 1, 1, 0, 0), (.iconst 0, 1, 0, 0), (.iconst 1, 1, 0, 0), (.invokestatic 36, 3, 0, 0), (.ifCond .ne 8, 3, 14, 0), (.aload_n 0, 1, 0, 0), (.invokevirtual 47, 3, 0, 0), (.ireturn, 1, 0, 0)]),
  (14, [(.aload_n 0, 1, 0, 0), (.invokevirtual 51, 3, 0, 0), (.aload_n 0, 1, 0, 0), (.getfield 7, 3, 3, 0), (.iconst 1, 1, 0, 0), (.iaload, 1, 0, 0), (.istore_n 2, 1, 0, 0), (.aload_n 0, 1, 0, 0), (.getfield 7, 3, 3, 0), (.iconst 1, 1, 0, 0), (.iload_n 1, 1, 0, 0), (.iastore, 1, 0, 0), (.iload_n 2, 1, 0, 0), (.ireturn, 1, 0, 0)])]
def m_X3_back : MB := (yX3_back, cX3_back, 3, (some .int), T_X3_back)
theorem ok_X3_back : mOk m_X3_back := mOk.of (by decide +kernel)
theorem pl_X3_back : plainFor m_X3_back.1 = true := by decide +kernel
def T_X3_load : List (Nat × List MEn) := [(0, [(.iload_n 1, 1, 0, 0), (.iconst 0, 1, 0, 0), (.bipush 23, 2, 0, 0), (.invokestatic 36, 3, 0, 0), (.ifCond .eq 13, 3, 20, 0), (.iload_n 2, 1, 0, 0), (.iconst 0, 1, 0, 0), (.bipush 9, 2, 0, 0), (.invokestatic 36, 3, 0, 0), (.ifCond .ne 8, 3, 25, 0)]),
  (20, [(.aload_n 0, 1, 0, 0), (.invokevirtual 47, 3, 0, 0), (.ireturn, 1, 0, 0)]),
  (25, [(.aload_n 0, 1, 0, 0), (.invokevirtual 51, 3, 0, 0), (.aload_n 0, 1, 0, 0), (.getfield 7, 3, 3, 0), (.sipush 293, 3, 0, 0), (.iload_n 1, 1, 0, 0), (.iadd, 1, 0, 0), (.iaload, 1, 0, 0), (.istore_n 3, 1, 0, 0), (.aload_n 0, 1, 0, 0), (.getfield 7, 3, 3, 0), (.sipush 293, 3, 0, 0), (.iload_n 1, 1, 0, 0), (.iadd, 1, 0, 0), (.iload_n 2, 1, 0, 0), (.iastore, 1, 0, 0), (.iload_n 3, 1, 0, 0), (.ireturn, 1, 0, 0)])]
def m_X3_load : MB := (yX3_load, cX3_load, 4, (some .int), T_X3_load)
theorem ok_X3_load : mOk m_X3_load := mOk.of (by decide +kernel)
theorem pl_X3_load : plainFor m_X3_load.1 = true := by decide +kernel
def T_X3_seed : List (Nat × List MEn) := [(0, [(.iload_n 1, 1, 0, 0), (.iconst 0, 1, 0, 0), (.ldc 62, 2, 999999, 0), (.invokestatic 36, 3, 0, 0), (.ifCond .ne 8, 3, 15, 0), (.aload_n 0, 1, 0, 0), (.invokevirtual 47, 3, 0, 0), (.ireturn, 1, 0, 0)]),
  (15, [(.aload_n 0, 1, 0, 0), (.invokevirtual 51, 3, 0, 0), (.aload_n 0, 1, 0, 0), (.getfield 7, 3, 3, 0), (.iconst 2, 1, 0, 0), (.iload_n 1, 1, 0, 0), (.iastore, 1, 0, 0), (.iconst 1, 1, 0, 0), (.ireturn, 1, 0, 0)])]
def m_X3_seed : MB := (yX3_seed, cX3_seed, 2, (some .int), T_X3_seed)
theorem ok_X3_seed : mOk m_X3_seed := mOk.of (by decide +kernel)
theorem pl_X3_seed : plainFor m_X3_seed.1 = true := by decide +kernel
def T_X3_holding : List (Nat × List MEn) := [(0, [(.iconst 0, 1, 0, 0), (.istore 4, 2, 0, 0), (.iconst 0, 1, 0, 0), (.istore 5, 2, 0, 0)]),
  (6, [(.iload 5, 2, 0, 0), (.aload_n 0, 1, 0, 0), (.getfield 7, 3, 3, 0), (.iconst 4, 1, 0, 0), (.iaload, 1, 0, 0), (.if_icmp .ge 150, 3, 164, 0), (.sipush 317, 3, 0, 0), (.iconst 4, 1, 0, 0), (.iload 5, 2, 0, 0), (.imul, 1, 0, 0), (.iadd, 1, 0, 0), (.istore 6, 2, 0, 0), (.aload_n 0, 1, 0, 0), (.getfield 7, 3, 3, 0), (.iload 6, 2, 0, 0), (.iaload, 1, 0, 0), (.istore 7, 2, 0, 0), (.aload_n 0, 1, 0, 0), (.getfield 7, 3, 3, 0), (.iload 6, 2, 0, 0), (.iconst 1, 1, 0, 0), (.iadd, 1, 0, 0), (.iaload, 1, 0, 0), (.istore 8, 2, 0, 0), (.aload_n 0, 1, 0, 0), (.getfield 7, 3, 3, 0), (.iload 6, 2, 0, 0), (.iconst 2, 1, 0, 0), (.iadd, 1, 0, 0), (.iaload, 1, 0, 0), (.istore 9, 2, 0, 0), (.iload 9, 2, 0, 0), (.iconst (-1), 1, 0, 0), (.if_icmp .ne 22, 3, 83, 0), (.iload 7, 2, 0, 0), (.iload 8, 2, 0, 0), (.invokestatic 58, 3, 0, 0), (.iload_n 1, 1, 0, 0), (.iload_n 2, 1, 0, 0), (.invokestatic 58, 3, 0, 0), (.if_icmp .ne 7, 3, 83, 0), (.iconst 1, 1, 0, 0), (.goto 4, 3, 84, 0)]),
  (83, [(.iconst 0, 1, 0, 0)]),
  (84, [(.istore 10, 2, 0, 0), (.iload 9, 2, 0, 0), (.iconst (-1), 1, 0, 0), (.if_icmp .eq 37, 3, 126, 0), (.iload 7, 2, 0, 0), (.iload 9, 2, 0, 0), (.invokestatic 58, 3, 0, 0), (.iload_n 1, 1, 0, 0), (.iload_n 2, 1, 0, 0), (.invokestatic 58, 3, 0, 0), (.if_icmp .eq 18, 3, 122, 0), (.iload 9, 2, 0, 0), (.iload 8, 2, 0, 0), (.invokestatic 58, 3, 0, 0), (.iload_n 1, 1, 0, 0), (.iload_n 2, 1, 0, 0), (.invokestatic 58, 3, 0, 0), (.if_icmp .ne 7, 3, 126, 0)]),
  (122, [(.iconst 1, 1, 0, 0), (.goto 4, 3, 127, 0)]),
  (126, [(.iconst 0, 1, 0, 0)]),
  (127, [(.istore 11, 2, 0, 0), (.iload 4, 2, 0, 0), (.iload_n 3, 1, 0, 0), (.ifCond .eq 8, 3, 140, 0), (.iload 10, 2, 0, 0), (.ifCond .ne 13, 3, 150, 0)]),
  (140, [(.iload_n 3, 1, 0, 0), (.iconst 1, 1, 0, 0), (.if_icmp .eq 12, 3, 154, 0), (.iload 11, 2, 0, 0), (.ifCond .eq 7, 3, 154, 0)]),
  (150, [(.iconst 1, 1, 0, 0), (.goto 4, 3, 155, 0)]),
  (154, [(.iconst 0, 1, 0, 0)]),
  (155, [(.iadd, 1, 0, 0), (.istore 4, 2, 0, 0), (.iinc 5 1, 3, 0, 0), (.goto (-155), 3, 6, 0)]),
  (164, [(.iload 4, 2, 0, 0), (.ireturn, 1, 0, 0)])]
def m_X3_holding : MB := (yX3_holding, cX3_holding, 12, (some .int), T_X3_holding)
theorem ok_X3_holding : mOk m_X3_holding := mOk.of (by decide +kernel)
theorem pl_X3_holding : plainFor m_X3_holding.1 = true := by decide +kernel
def T_X3_free : List (Nat × List MEn) := [(0, [(.aload_n 0, 1, 0, 0), (.getfield 7, 3, 3, 0), (.iconst 5, 1, 0, 0), (.iload_n 1, 1, 0, 0), (.iload_n 2, 1, 0, 0), (.invokestatic 58, 3, 0, 0), (.iadd, 1, 0, 0), (.iaload, 1, 0, 0), (.aload_n 0, 1, 0, 0), (.iload_n 1, 1, 0, 0), (.iload_n 2, 1, 0, 0), (.iconst 2, 1, 0, 0), (.invokevirtual 63, 3, 0, 0), (.isub, 1, 0, 0), (.istore_n 3, 1, 0, 0), (.iload_n 3, 1, 0, 0), (.ifCond .le 7, 3, 29, 0), (.iload_n 3, 1, 0, 0), (.goto 4, 3, 30, 0)]),
  (29, [(.iconst 0, 1, 0, 0)]),
  (30, [(.ireturn, 1, 0, 0)])]
def m_X3_free : MB := (yX3_free, cX3_free, 4, (some .int), T_X3_free)
theorem ok_X3_free : mOk m_X3_free := mOk.of (by decide +kernel)
theorem pl_X3_free : plainFor m_X3_free.1 = true := by decide +kernel
def T_X3_of : List (Nat × List MEn) := [(0, [(.aload_n 0, 1, 0, 0), (.iload_n 1, 1, 0, 0), (.iload_n 2, 1, 0, 0), (.invokevirtual 54, 3, 0, 0), (.ifCond .eq 12, 3, 18, 0), (.iload_n 3, 1, 0, 0), (.iconst 0, 1, 0, 0), (.iconst 3, 1, 0, 0), (.invokestatic 36, 3, 0, 0), (.ifCond .ne 8, 3, 23, 0)]),
  (18, [(.aload_n 0, 1, 0, 0), (.invokevirtual 47, 3, 0, 0), (.ireturn, 1, 0, 0)]),
  (23, [(.iload_n 3, 1, 0, 0), (.ifCond .ne 18, 3, 42, 0), (.aload_n 0, 1, 0, 0), (.getfield 7, 3, 3, 0), (.iconst 5, 1, 0, 0), (.iload_n 1, 1, 0, 0), (.iload_n 2, 1, 0, 0), (.invokestatic 58, 3, 0, 0), (.iadd, 1, 0, 0), (.iaload, 1, 0, 0), (.goto 45, 3, 84, 0)]),
  (42, [(.iload_n 3, 1, 0, 0), (.iconst 1, 1, 0, 0), (.if_icmp .ne 19, 3, 63, 0), (.aload_n 0, 1, 0, 0), (.getfield 7, 3, 3, 0), (.bipush 41, 2, 0, 0), (.iload_n 1, 1, 0, 0), (.iload_n 2, 1, 0, 0), (.invokestatic 58, 3, 0, 0), (.iadd, 1, 0, 0), (.iaload, 1, 0, 0), (.goto 24, 3, 84, 0)]),
  (63, [(.iload_n 3, 1, 0, 0), (.iconst 2, 1, 0, 0), (.if_icmp .ne 12, 3, 77, 0), (.aload_n 0, 1, 0, 0), (.iload_n 1, 1, 0, 0), (.iload_n 2, 1, 0, 0), (.invokevirtual 67, 3, 0, 0), (.goto 10, 3, 84, 0)]),
  (77, [(.aload_n 0, 1, 0, 0), (.iload_n 1, 1, 0, 0), (.iload_n 2, 1, 0, 0), (.iconst 0, 1, 0, 0), (.invokevirtual 63, 3, 0, 0)]),
  (84, [(.ireturn, 1, 0, 0)])]
def m_X3_of : MB := (yX3_of, cX3_of, 4, (some .int), T_X3_of)
theorem ok_X3_of : mOk m_X3_of := mOk.of (by decide +kernel)
theorem pl_X3_of : plainFor m_X3_of.1 = true := by decide +kernel
def T_X3_sticky : List (Nat × List MEn) := [(0, [(.aload_n 0, 1, 0, 0), (.iload_n 1, 1, 0, 0), (.iload_n 2, 1, 0, 0), (.invokevirtual 54, 3, 0, 0), (.ifCond .eq 20, 3, 26, 0), (.aload_n 0, 1, 0, 0), (.getfield 7, 3, 3, 0), (.bipush 77, 2, 0, 0), (.bipush 6, 2, 0, 0), (.iload_n 1, 1, 0, 0), (.imul, 1, 0, 0), (.iadd, 1, 0, 0), (.iload_n 2, 1, 0, 0), (.iadd, 1, 0, 0), (.iaload, 1, 0, 0), (.goto 7, 3, 30, 0)]),
  (26, [(.aload_n 0, 1, 0, 0), (.invokevirtual 47, 3, 0, 0)]),
  (30, [(.ireturn, 1, 0, 0)])]
def m_X3_sticky : MB := (yX3_sticky, cX3_sticky, 3, (some .int), T_X3_sticky)
theorem ok_X3_sticky : mOk m_X3_sticky := mOk.of (by decide +kernel)
theorem pl_X3_sticky : plainFor m_X3_sticky.1 = true := by decide +kernel
def T_X3_draws : List (Nat × List MEn) := [(0, [(.aload_n 0, 1, 0, 0), (.getfield 7, 3, 3, 0), (.iconst 2, 1, 0, 0), (.aload_n 0, 1, 0, 0), (.getfield 7, 3, 3, 0), (.iconst 2, 1, 0, 0), (.iaload, 1, 0, 0), (.i2l, 1, 0, 0), (.ldc2_w 70, 3, 1103515245, 0), (.lmul, 1, 0, 0), (.ldc2_w 72, 3, 12345, 0), (.ladd, 1, 0, 0), (.ldc2_w 74, 3, 2147483648, 0), (.lrem, 1, 0, 0), (.l2i, 1, 0, 0), (.iastore, 1, 0, 0), (.return_, 1, 0, 0)])]
def m_X3_draws : MB := (yX3_draws, cX3_draws, 1, none, T_X3_draws)
theorem ok_X3_draws : mOk m_X3_draws := mOk.of (by decide +kernel)
theorem pl_X3_draws : plainFor m_X3_draws.1 = true := by decide +kernel
def T_X3_drawsSticky : List (Nat × List MEn) := [(0, [(.aload_n 0, 1, 0, 0), (.invokevirtual 76, 3, 0, 0), (.aload_n 0, 1, 0, 0), (.getfield 7, 3, 3, 0), (.iconst 2, 1, 0, 0), (.iaload, 1, 0, 0), (.ldc 79, 2, 65536, 0), (.idiv, 1, 0, 0), (.aload_n 0, 1, 0, 0), (.getfield 7, 3, 3, 0), (.iconst 0, 1, 0, 0), (.iaload, 1, 0, 0), (.iconst 2, 1, 0, 0), (.isub, 1, 0, 0), (.irem, 1, 0, 0), (.istore_n 3, 1, 0, 0), (.iconst 0, 1, 0, 0), (.istore 4, 2, 0, 0)]),
  (26, [(.iload 4, 2, 0, 0), (.iload_n 1, 1, 0, 0), (.if_icmp .eq 13, 3, 42, 0), (.iload 4, 2, 0, 0), (.iload_n 2, 1, 0, 0), (.if_icmp .eq 7, 3, 42, 0), (.iload_n 3, 1, 0, 0), (.ifCond .le 29, 3, 68, 0)]),
  (42, [(.iload_n 3, 1, 0, 0), (.iload 4, 2, 0, 0), (.iload_n 1, 1, 0, 0), (.if_icmp .eq 9, 3, 55, 0), (.iload 4, 2, 0, 0), (.iload_n 2, 1, 0, 0), (.if_icmp .ne 7, 3, 59, 0)]),
  (55, [(.iconst 0, 1, 0, 0), (.goto 4, 3, 60, 0)]),
  (59, [(.iconst 1, 1, 0, 0)]),
  (60, [(.isub, 1, 0, 0), (.istore_n 3, 1, 0, 0), (.iinc 4 1, 3, 0, 0), (.goto (-39), 3, 26, 0)]),
  (68, [(.aload_n 0, 1, 0, 0), (.getfield 7, 3, 3, 0), (.bipush 77, 2, 0, 0), (.bipush 6, 2, 0, 0), (.iload_n 1, 1, 0, 0), (.imul, 1, 0, 0), (.iadd, 1, 0, 0), (.iload_n 2, 1, 0, 0), (.iadd, 1, 0, 0), (.iload 4, 2, 0, 0), (.iastore, 1, 0, 0), (.return_, 1, 0, 0)])]
def m_X3_drawsSticky : MB := (yX3_drawsSticky, cX3_drawsSticky, 5, none, T_X3_drawsSticky)
theorem ok_X3_drawsSticky : mOk m_X3_drawsSticky := mOk.of (by decide +kernel)
theorem pl_X3_drawsSticky : plainFor m_X3_drawsSticky.1 = true := by decide +kernel
def T_X3_hasMore : List (Nat × List MEn) := [(0, [(.aload_n 0, 1, 0, 0), (.iload_n 1, 1, 0, 0), (.iload_n 2, 1, 0, 0), (.invokevirtual 67, 3, 0, 0), (.aload_n 0, 1, 0, 0), (.getfield 7, 3, 3, 0), (.bipush 41, 2, 0, 0), (.iload_n 1, 1, 0, 0), (.iload_n 2, 1, 0, 0), (.invokestatic 58, 3, 0, 0), (.iadd, 1, 0, 0), (.iaload, 1, 0, 0), (.if_icmp .le 7, 3, 26, 0), (.iconst 1, 1, 0, 0), (.goto 4, 3, 27, 0)]),
  (26, [(.iconst 0, 1, 0, 0)]),
  (27, [(.ireturn, 1, 0, 0)])]
def m_X3_hasMore : MB := (yX3_hasMore, cX3_hasMore, 3, (some .boolean), T_X3_hasMore)
theorem ok_X3_hasMore : mOk m_X3_hasMore := mOk.of (by decide +kernel)
theorem pl_X3_hasMore : plainFor m_X3_hasMore.1 = true := by decide +kernel
def T_X3_counts : List (Nat × List MEn) := [(0, [(.aload_n 0, 1, 0, 0), (.getfield 7, 3, 3, 0), (.bipush 113, 2, 0, 0), (.iconst 5, 1, 0, 0), (.bipush 6, 2, 0, 0), (.iload_n 1, 1, 0, 0), (.imul, 1, 0, 0), (.iload_n 2, 1, 0, 0), (.iadd, 1, 0, 0), (.imul, 1, 0, 0), (.iadd, 1, 0, 0), (.iload_n 3, 1, 0, 0), (.iadd, 1, 0, 0), (.dup2, 1, 0, 0), (.iaload, 1, 0, 0), (.iconst 1, 1, 0, 0), (.iadd, 1, 0, 0), (.iastore, 1, 0, 0), (.return_, 1, 0, 0)])]
def m_X3_counts : MB := (yX3_counts, cX3_counts, 4, none, T_X3_counts)
theorem ok_X3_counts : mOk m_X3_counts := mOk.of (by decide +kernel)
theorem pl_X3_counts : plainFor m_X3_counts.1 = true := by decide +kernel
def T_X3_goes : List (Nat × List MEn) := [(0, [(.sipush 317, 3, 0, 0), (.iconst 4, 1, 0, 0), (.aload_n 0, 1, 0, 0), (.getfield 7, 3, 3, 0), (.iconst 4, 1, 0, 0), (.iaload, 1, 0, 0), (.imul, 1, 0, 0), (.iadd, 1, 0, 0), (.istore 5, 2, 0, 0), (.aload_n 0, 1, 0, 0), (.getfield 7, 3, 3, 0), (.iload 5, 2, 0, 0), (.iload_n 1, 1, 0, 0), (.iastore, 1, 0, 0), (.aload_n 0, 1, 0, 0), (.getfield 7, 3, 3, 0), (.iload 5, 2, 0, 0), (.iconst 1, 1, 0, 0), (.iadd, 1, 0, 0), (.iload_n 2, 1, 0, 0), (.iastore, 1, 0, 0), (.aload_n 0, 1, 0, 0), (.getfield 7, 3, 3, 0), (.iload 5, 2, 0, 0), (.iconst 2, 1, 0, 0), (.iadd, 1, 0, 0), (.iload_n 3, 1, 0, 0), (.iastore, 1, 0, 0), (.aload_n 0, 1, 0, 0), (.getfield 7, 3, 3, 0), (.iload 5, 2, 0, 0), (.iconst 3, 1, 0, 0), (.iadd, 1, 0, 0), (.iload 4, 2, 0, 0), (.iastore, 1, 0, 0), (.aload_n 0, 1, 0, 0), (.getfield 7, 3, 3, 0), (.iconst 4, 1, 0, 0), (.dup2, 1, 0, 0), (.iaload, 1, 0, 0), (.iconst 1, 1, 0, 0), (.iadd, 1, 0, 0), (.iastore, 1, 0, 0), (.aload_n 0, 1, 0, 0), (.iload_n 1, 1, 0, 0), (.iload_n 2, 1, 0, 0), (.iload_n 3, 1, 0, 0), (.iconst (-1), 1, 0, 0), (.if_icmp .ne 7, 3, 75, 0), (.iconst 1, 1, 0, 0), (.goto 4, 3, 76, 0)]),
  (75, [(.iconst 2, 1, 0, 0)]),
  (76, [(.invokevirtual 80, 3, 0, 0), (.return_, 1, 0, 0)])]
def m_X3_goes : MB := (yX3_goes, cX3_goes, 6, none, T_X3_goes)
theorem ok_X3_goes : mOk m_X3_goes := mOk.of (by decide +kernel)
theorem pl_X3_goes : plainFor m_X3_goes.1 = true := by decide +kernel
def T_X3_asks : List (Nat × List MEn) := [(0, [(.aload_n 0, 1, 0, 0), (.iload_n 1, 1, 0, 0), (.iload_n 2, 1, 0, 0), (.iconst 0, 1, 0, 0), (.invokevirtual 80, 3, 0, 0), (.aload_n 0, 1, 0, 0), (.getfield 7, 3, 3, 0), (.iconst 4, 1, 0, 0), (.iaload, 1, 0, 0), (.bipush 80, 2, 0, 0), (.if_icmp .ne 13, 3, 28, 0), (.aload_n 0, 1, 0, 0), (.iload_n 1, 1, 0, 0), (.iload_n 2, 1, 0, 0), (.iconst 4, 1, 0, 0), (.invokevirtual 80, 3, 0, 0), (.bipush (-5), 2, 0, 0), (.ireturn, 1, 0, 0)]),
  (28, [(.aload_n 0, 1, 0, 0), (.iload_n 1, 1, 0, 0), (.iload_n 2, 1, 0, 0), (.invokevirtual 67, 3, 0, 0), (.ifCond .le 13, 3, 47, 0), (.aload_n 0, 1, 0, 0), (.iload_n 1, 1, 0, 0), (.iload_n 2, 1, 0, 0), (.iconst (-1), 1, 0, 0), (.iload_n 3, 1, 0, 0), (.invokevirtual 84, 3, 0, 0), (.iconst (-1), 1, 0, 0), (.ireturn, 1, 0, 0)]),
  (47, [(.iconst 0, 1, 0, 0), (.istore 4, 2, 0, 0)]),
  (50, [(.iload 4, 2, 0, 0), (.iconst 2, 1, 0, 0), (.if_icmp .ge 104, 3, 157, 0), (.aload_n 0, 1, 0, 0), (.getfield 7, 3, 3, 0), (.bipush 77, 2, 0, 0), (.bipush 6, 2, 0, 0), (.iload_n 1, 1, 0, 0), (.imul, 1, 0, 0), (.iadd, 1, 0, 0), (.iload_n 2, 1, 0, 0), (.iadd, 1, 0, 0), (.iaload, 1, 0, 0), (.istore 5, 2, 0, 0), (.aload_n 0, 1, 0, 0), (.iload_n 1, 1, 0, 0), (.iload 5, 2, 0, 0), (.invokevirtual 88, 3, 0, 0), (.istore 6, 2, 0, 0), (.aload_n 0, 1, 0, 0), (.iload 5, 2, 0, 0), (.iload_n 2, 1, 0, 0), (.invokevirtual 88, 3, 0, 0), (.istore 7, 2, 0, 0), (.iload 6, 2, 0, 0), (.ifCond .eq 20, 3, 112, 0), (.iload 7, 2, 0, 0), (.ifCond .eq 15, 3, 112, 0), (.aload_n 0, 1, 0, 0), (.iload_n 1, 1, 0, 0), (.iload_n 2, 1, 0, 0), (.iload 5, 2, 0, 0), (.iload_n 3, 1, 0, 0), (.invokevirtual 84, 3, 0, 0), (.iload 5, 2, 0, 0), (.ireturn, 1, 0, 0)]),
  (112, [(.iload 4, 2, 0, 0), (.iconst 1, 1, 0, 0), (.if_icmp .eq 17, 3, 132, 0), (.iload 6, 2, 0, 0), (.ifCond .eq 12, 3, 132, 0), (.aload_n 0, 1, 0, 0), (.getfield 7, 3, 3, 0), (.iconst 1, 1, 0, 0), (.iaload, 1, 0, 0), (.ifCond .ne 9, 3, 138, 0)]),
  (132, [(.iconst 2, 1, 0, 0), (.istore 4, 2, 0, 0), (.goto 16, 3, 151, 0)]),
  (138, [(.aload_n 0, 1, 0, 0), (.iload_n 1, 1, 0, 0), (.iload_n 2, 1, 0, 0), (.iconst 3, 1, 0, 0), (.invokevirtual 80, 3, 0, 0), (.aload_n 0, 1, 0, 0), (.iload_n 1, 1, 0, 0), (.iload_n 2, 1, 0, 0), (.invokevirtual 91, 3, 0, 0)]),
  (151, [(.iinc 4 1, 3, 0, 0), (.goto (-104), 3, 50, 0)]),
  (157, [(.aload_n 0, 1, 0, 0), (.iload_n 1, 1, 0, 0), (.iload_n 2, 1, 0, 0), (.iconst 4, 1, 0, 0), (.invokevirtual 80, 3, 0, 0), (.aload_n 0, 1, 0, 0), (.iload_n 1, 1, 0, 0), (.iload_n 2, 1, 0, 0), (.invokevirtual 91, 3, 0, 0), (.bipush (-5), 2, 0, 0), (.ireturn, 1, 0, 0)])]
def m_X3_asks : MB := (yX3_asks, cX3_asks, 8, (some .int), T_X3_asks)
theorem ok_X3_asks : mOk m_X3_asks := mOk.of (by decide +kernel)
theorem pl_X3_asks : plainFor m_X3_asks.1 = true := by decide +kernel
def T_X3_call : List (Nat × List MEn) := [(0, [(.aload_n 0, 1, 0, 0), (.iload_n 1, 1, 0, 0), (.iload_n 2, 1, 0, 0), (.invokevirtual 54, 3, 0, 0), (.ifCond .eq 13, 3, 19, 0), (.iload_n 3, 1, 0, 0), (.iconst 1, 1, 0, 0), (.bipush 24, 2, 0, 0), (.invokestatic 36, 3, 0, 0), (.ifCond .ne 8, 3, 24, 0)]),
  (19, [(.aload_n 0, 1, 0, 0), (.invokevirtual 47, 3, 0, 0), (.ireturn, 1, 0, 0)]),
  (24, [(.aload_n 0, 1, 0, 0), (.getfield 7, 3, 3, 0), (.iconst 4, 1, 0, 0), (.iaload, 1, 0, 0), (.bipush 80, 2, 0, 0), (.if_icmp .ne 16, 3, 48, 0), (.aload_n 0, 1, 0, 0), (.dup, 1, 0, 0), (.getfield 95, 3, 3, 12), (.iconst 1, 1, 0, 0), (.iadd, 1, 0, 0), (.putfield 95, 3, 3, 12), (.bipush (-4), 2, 0, 0), (.ireturn, 1, 0, 0)]),
  (48, [(.aload_n 0, 1, 0, 0), (.invokevirtual 51, 3, 0, 0), (.aload_n 0, 1, 0, 0), (.iload_n 1, 1, 0, 0), (.iload_n 2, 1, 0, 0), (.iload_n 3, 1, 0, 0), (.invokevirtual 98, 3, 0, 0), (.ireturn, 1, 0, 0)])]
def m_X3_call : MB := (yX3_call, cX3_call, 4, (some .int), T_X3_call)
theorem ok_X3_call : mOk m_X3_call := mOk.of (by decide +kernel)
theorem pl_X3_call : plainFor m_X3_call.1 = true := by decide +kernel
def T_X3_letsGo : List (Nat × List MEn) := [(0, [(.sipush 317, 3, 0, 0), (.iconst 4, 1, 0, 0), (.iload_n 1, 1, 0, 0), (.imul, 1, 0, 0), (.iadd, 1, 0, 0), (.istore_n 2, 1, 0, 0)]),
  (8, [(.iload_n 2, 1, 0, 0), (.iconst 4, 1, 0, 0), (.iadd, 1, 0, 0), (.sipush 637, 3, 0, 0), (.if_icmp .ge 23, 3, 37, 0), (.aload_n 0, 1, 0, 0), (.getfield 7, 3, 3, 0), (.iload_n 2, 1, 0, 0), (.aload_n 0, 1, 0, 0), (.getfield 7, 3, 3, 0), (.iload_n 2, 1, 0, 0), (.iconst 4, 1, 0, 0), (.iadd, 1, 0, 0), (.iaload, 1, 0, 0), (.iastore, 1, 0, 0), (.iinc 2 1, 3, 0, 0), (.goto (-26), 3, 8, 0)]),
  (37, [(.aload_n 0, 1, 0, 0), (.getfield 7, 3, 3, 0), (.iconst 4, 1, 0, 0), (.dup2, 1, 0, 0), (.iaload, 1, 0, 0), (.iconst 1, 1, 0, 0), (.isub, 1, 0, 0), (.iastore, 1, 0, 0), (.return_, 1, 0, 0)])]
def m_X3_letsGo : MB := (yX3_letsGo, cX3_letsGo, 3, none, T_X3_letsGo)
theorem ok_X3_letsGo : mOk m_X3_letsGo := mOk.of (by decide +kernel)
theorem pl_X3_letsGo : plainFor m_X3_letsGo.1 = true := by decide +kernel
def T_X3_passes : List (Nat × List MEn) := [(0, [(.iconst 0, 1, 0, 0), (.istore_n 2, 1, 0, 0), (.iconst 0, 1, 0, 0), (.istore_n 3, 1, 0, 0)]),
  (4, [(.iload_n 3, 1, 0, 0), (.iload_n 1, 1, 0, 0), (.if_icmp .ge 210, 3, 216, 0), (.iconst 0, 1, 0, 0), (.istore 4, 2, 0, 0)]),
  (12, [(.iload 4, 2, 0, 0), (.aload_n 0, 1, 0, 0), (.getfield 7, 3, 3, 0), (.iconst 4, 1, 0, 0), (.iaload, 1, 0, 0), (.if_icmp .ge 58, 3, 78, 0), (.aload_n 0, 1, 0, 0), (.getfield 7, 3, 3, 0), (.sipush 317, 3, 0, 0), (.iconst 4, 1, 0, 0), (.iload 4, 2, 0, 0), (.imul, 1, 0, 0), (.iadd, 1, 0, 0), (.iconst 3, 1, 0, 0), (.iadd, 1, 0, 0), (.dup2, 1, 0, 0), (.iaload, 1, 0, 0), (.iconst 1, 1, 0, 0), (.isub, 1, 0, 0), (.iastore, 1, 0, 0), (.aload_n 0, 1, 0, 0), (.getfield 7, 3, 3, 0), (.sipush 317, 3, 0, 0), (.iconst 4, 1, 0, 0), (.iload 4, 2, 0, 0), (.imul, 1, 0, 0), (.iadd, 1, 0, 0), (.iconst 3, 1, 0, 0), (.iadd, 1, 0, 0), (.iaload, 1, 0, 0), (.ifCond .ne 15, 3, 72, 0), (.aload_n 0, 1, 0, 0), (.iload 4, 2, 0, 0), (.invokevirtual 101, 3, 0, 0), (.iinc 2 1, 3, 0, 0), (.goto (-57), 3, 12, 0)]),
  (72, [(.iinc 4 1, 3, 0, 0), (.goto (-63), 3, 12, 0)]),
  (78, [(.aload_n 0, 1, 0, 0), (.getfield 7, 3, 3, 0), (.iconst 3, 1, 0, 0), (.dup2, 1, 0, 0), (.iaload, 1, 0, 0), (.iconst 1, 1, 0, 0), (.iadd, 1, 0, 0), (.iastore, 1, 0, 0), (.aload_n 0, 1, 0, 0), (.getfield 7, 3, 3, 0), (.sipush 293, 3, 0, 0), (.aload_n 0, 1, 0, 0), (.getfield 7, 3, 3, 0), (.iconst 3, 1, 0, 0), (.iaload, 1, 0, 0), (.bipush 24, 2, 0, 0), (.irem, 1, 0, 0), (.iadd, 1, 0, 0), (.iaload, 1, 0, 0), (.istore 5, 2, 0, 0), (.iconst 0, 1, 0, 0), (.istore 6, 2, 0, 0)]),
  (111, [(.iload 6, 2, 0, 0), (.iload 5, 2, 0, 0), (.if_icmp .ge 95, 3, 210, 0), (.aload_n 0, 1, 0, 0), (.invokevirtual 76, 3, 0, 0), (.aload_n 0, 1, 0, 0), (.getfield 7, 3, 3, 0), (.iconst 2, 1, 0, 0), (.iaload, 1, 0, 0), (.ldc 79, 2, 65536, 0), (.idiv, 1, 0, 0), (.aload_n 0, 1, 0, 0), (.getfield 7, 3, 3, 0), (.iconst 0, 1, 0, 0), (.iaload, 1, 0, 0), (.irem, 1, 0, 0), (.istore 7, 2, 0, 0), (.aload_n 0, 1, 0, 0), (.getfield 7, 3, 3, 0), (.iconst 2, 1, 0, 0), (.iaload, 1, 0, 0), (.sipush 1024, 3, 0, 0), (.idiv, 1, 0, 0), (.aload_n 0, 1, 0, 0), (.getfield 7, 3, 3, 0), (.iconst 0, 1, 0, 0), (.iaload, 1, 0, 0), (.irem, 1, 0, 0), (.istore 8, 2, 0, 0), (.aload_n 0, 1, 0, 0), (.iload 7, 2, 0, 0), (.iload 7, 2, 0, 0), (.iload 8, 2, 0, 0), (.if_icmp .ne 17, 3, 183, 0), (.iload 8, 2, 0, 0), (.iconst 1, 1, 0, 0), (.iadd, 1, 0, 0), (.aload_n 0, 1, 0, 0), (.getfield 7, 3, 3, 0), (.iconst 0, 1, 0, 0), (.iaload, 1, 0, 0), (.irem, 1, 0, 0), (.goto 5, 3, 185, 0)]),
  (183, [(.iload 8, 2, 0, 0)]),
  (185, [(.iconst 1, 1, 0, 0), (.aload_n 0, 1, 0, 0), (.getfield 7, 3, 3, 0), (.iconst 2, 1, 0, 0), (.iaload, 1, 0, 0), (.sipush 4096, 3, 0, 0), (.idiv, 1, 0, 0), (.bipush 6, 2, 0, 0), (.irem, 1, 0, 0), (.iadd, 1, 0, 0), (.invokevirtual 98, 3, 0, 0), (.pop, 1, 0, 0), (.iinc 6 1, 3, 0, 0), (.goto (-96), 3, 111, 0)]),
  (210, [(.iinc 3 1, 3, 0, 0), (.goto (-209), 3, 4, 0)]),
  (216, [(.iload_n 2, 1, 0, 0), (.ireturn, 1, 0, 0)])]
def m_X3_passes : MB := (yX3_passes, cX3_passes, 9, (some .int), T_X3_passes)
theorem ok_X3_passes : mOk m_X3_passes := mOk.of (by decide +kernel)
theorem pl_X3_passes : plainFor m_X3_passes.1 = true := by decide +kernel
def T_X3_hours : List (Nat × List MEn) := [(0, [(.iload_n 1, 1, 0, 0), (.iconst 1, 1, 0, 0), (.bipush 48, 2, 0, 0), (.invokestatic 36, 3, 0, 0), (.ifCond .ne 8, 3, 15, 0), (.aload_n 0, 1, 0, 0), (.invokevirtual 47, 3, 0, 0), (.ireturn, 1, 0, 0)]),
  (15, [(.aload_n 0, 1, 0, 0), (.invokevirtual 51, 3, 0, 0), (.aload_n 0, 1, 0, 0), (.iload_n 1, 1, 0, 0), (.invokevirtual 104, 3, 0, 0), (.ireturn, 1, 0, 0)])]
def m_X3_hours : MB := (yX3_hours, cX3_hours, 2, (some .int), T_X3_hours)
theorem ok_X3_hours : mOk m_X3_hours := mOk.of (by decide +kernel)
theorem pl_X3_hours : plainFor m_X3_hours.1 = true := by decide +kernel
def T_X3_going : List (Nat × List MEn) := [(0, [(.iload_n 1, 1, 0, 0), (.ifCond .lt 12, 3, 13, 0), (.iload_n 2, 1, 0, 0), (.iconst 0, 1, 0, 0), (.iconst 3, 1, 0, 0), (.invokestatic 36, 3, 0, 0), (.ifCond .ne 8, 3, 18, 0)]),
  (13, [(.aload_n 0, 1, 0, 0), (.invokevirtual 47, 3, 0, 0), (.ireturn, 1, 0, 0)]),
  (18, [(.iload_n 1, 1, 0, 0), (.aload_n 0, 1, 0, 0), (.getfield 7, 3, 3, 0), (.iconst 4, 1, 0, 0), (.iaload, 1, 0, 0), (.if_icmp .ge 20, 3, 45, 0), (.aload_n 0, 1, 0, 0), (.getfield 7, 3, 3, 0), (.sipush 317, 3, 0, 0), (.iconst 4, 1, 0, 0), (.iload_n 1, 1, 0, 0), (.imul, 1, 0, 0), (.iadd, 1, 0, 0), (.iload_n 2, 1, 0, 0), (.iadd, 1, 0, 0), (.iaload, 1, 0, 0), (.goto 4, 3, 46, 0)]),
  (45, [(.iconst (-1), 1, 0, 0)]),
  (46, [(.ireturn, 1, 0, 0)])]
def m_X3_going : MB := (yX3_going, cX3_going, 3, (some .int), T_X3_going)
theorem ok_X3_going : mOk m_X3_going := mOk.of (by decide +kernel)
theorem pl_X3_going : plainFor m_X3_going.1 = true := by decide +kernel
def T_X3_ends : List (Nat × List MEn) := [(0, [(.iload_n 1, 1, 0, 0), (.ifCond .ge 8, 3, 9, 0), (.aload_n 0, 1, 0, 0), (.invokevirtual 47, 3, 0, 0), (.ireturn, 1, 0, 0)]),
  (9, [(.iload_n 1, 1, 0, 0), (.aload_n 0, 1, 0, 0), (.getfield 7, 3, 3, 0), (.iconst 4, 1, 0, 0), (.iaload, 1, 0, 0), (.if_icmp .lt 8, 3, 24, 0), (.aload_n 0, 1, 0, 0), (.invokevirtual 108, 3, 0, 0), (.ireturn, 1, 0, 0)]),
  (24, [(.aload_n 0, 1, 0, 0), (.invokevirtual 51, 3, 0, 0), (.aload_n 0, 1, 0, 0), (.iload_n 1, 1, 0, 0), (.invokevirtual 101, 3, 0, 0), (.aload_n 0, 1, 0, 0), (.getfield 7, 3, 3, 0), (.iconst 4, 1, 0, 0), (.iaload, 1, 0, 0), (.ireturn, 1, 0, 0)])]
def m_X3_ends : MB := (yX3_ends, cX3_ends, 2, (some .int), T_X3_ends)
theorem ok_X3_ends : mOk m_X3_ends := mOk.of (by decide +kernel)
theorem pl_X3_ends : plainFor m_X3_ends.1 = true := by decide +kernel
def T_X3_sumOf : List (Nat × List MEn) := [(0, [(.iconst 0, 1, 0, 0), (.istore_n 2, 1, 0, 0), (.iconst 0, 1, 0, 0), (.istore_n 3, 1, 0, 0)]),
  (4, [(.iload_n 3, 1, 0, 0), (.bipush 36, 2, 0, 0), (.if_icmp .ge 25, 3, 32, 0), (.iload_n 2, 1, 0, 0), (.aload_n 0, 1, 0, 0), (.getfield 7, 3, 3, 0), (.bipush 113, 2, 0, 0), (.iconst 5, 1, 0, 0), (.iload_n 3, 1, 0, 0), (.imul, 1, 0, 0), (.iadd, 1, 0, 0), (.iload_n 1, 1, 0, 0), (.iadd, 1, 0, 0), (.iaload, 1, 0, 0), (.iadd, 1, 0, 0), (.istore_n 2, 1, 0, 0), (.iinc 3 1, 3, 0, 0), (.goto (-25), 3, 4, 0)]),
  (32, [(.iload_n 2, 1, 0, 0), (.ireturn, 1, 0, 0)])]
def m_X3_sumOf : MB := (yX3_sumOf, cX3_sumOf, 4, (some .int), T_X3_sumOf)
theorem ok_X3_sumOf : mOk m_X3_sumOf := mOk.of (by decide +kernel)
theorem pl_X3_sumOf : plainFor m_X3_sumOf.1 = true := by decide +kernel
def T_X3_all : List (Nat × List MEn) := [(0, [(.iload_n 1, 1, 0, 0), (.iconst 0, 1, 0, 0), (.iconst 4, 1, 0, 0), (.invokestatic 36, 3, 0, 0), (.ifCond .eq 11, 3, 17, 0), (.aload_n 0, 1, 0, 0), (.iload_n 1, 1, 0, 0), (.invokevirtual 111, 3, 0, 0), (.goto 7, 3, 21, 0)]),
  (17, [(.aload_n 0, 1, 0, 0), (.invokevirtual 47, 3, 0, 0)]),
  (21, [(.ireturn, 1, 0, 0)])]
def m_X3_all : MB := (yX3_all, cX3_all, 2, (some .int), T_X3_all)
theorem ok_X3_all : mOk m_X3_all := mOk.of (by decide +kernel)
theorem pl_X3_all : plainFor m_X3_all.1 = true := by decide +kernel
def T_X3_pair : List (Nat × List MEn) := [(0, [(.aload_n 0, 1, 0, 0), (.iload_n 1, 1, 0, 0), (.iload_n 2, 1, 0, 0), (.invokevirtual 54, 3, 0, 0), (.ifCond .eq 33, 3, 39, 0), (.iload_n 3, 1, 0, 0), (.iconst 0, 1, 0, 0), (.iconst 4, 1, 0, 0), (.invokestatic 36, 3, 0, 0), (.ifCond .eq 24, 3, 39, 0), (.aload_n 0, 1, 0, 0), (.getfield 7, 3, 3, 0), (.bipush 113, 2, 0, 0), (.iconst 5, 1, 0, 0), (.bipush 6, 2, 0, 0), (.iload_n 1, 1, 0, 0), (.imul, 1, 0, 0), (.iload_n 2, 1, 0, 0), (.iadd, 1, 0, 0), (.imul, 1, 0, 0), (.iadd, 1, 0, 0), (.iload_n 3, 1, 0, 0), (.iadd, 1, 0, 0), (.iaload, 1, 0, 0), (.goto 7, 3, 43, 0)]),
  (39, [(.aload_n 0, 1, 0, 0), (.invokevirtual 47, 3, 0, 0)]),
  (43, [(.ireturn, 1, 0, 0)])]
def m_X3_pair : MB := (yX3_pair, cX3_pair, 4, (some .int), T_X3_pair)
theorem ok_X3_pair : mOk m_X3_pair := mOk.of (by decide +kernel)
theorem pl_X3_pair : plainFor m_X3_pair.1 = true := by decide +kernel
def T_X3_worst : List (Nat × List MEn) := [(0, [(.iload_n 1, 1, 0, 0), (.iconst 0, 1, 0, 0), (.iconst 3, 1, 0, 0), (.invokestatic 36, 3, 0, 0), (.ifCond .ne 8, 3, 14, 0), (.aload_n 0, 1, 0, 0), (.invokevirtual 47, 3, 0, 0), (.ireturn, 1, 0, 0)]),
  (14, [(.iconst (-1), 1, 0, 0), (.istore_n 2, 1, 0, 0), (.iconst 0, 1, 0, 0), (.istore_n 3, 1, 0, 0), (.iconst 0, 1, 0, 0), (.istore 4, 2, 0, 0)]),
  (21, [(.iload 4, 2, 0, 0), (.aload_n 0, 1, 0, 0), (.getfield 7, 3, 3, 0), (.iconst 0, 1, 0, 0), (.iaload, 1, 0, 0), (.if_icmp .ge 121, 3, 150, 0), (.iload_n 1, 1, 0, 0), (.iconst 2, 1, 0, 0), (.if_icmp .ge 7, 3, 41, 0), (.iconst 0, 1, 0, 0), (.goto 7, 3, 45, 0)]),
  (41, [(.iload 4, 2, 0, 0), (.iconst 1, 1, 0, 0), (.iadd, 1, 0, 0)]),
  (45, [(.istore 5, 2, 0, 0)]),
  (47, [(.iload 5, 2, 0, 0), (.aload_n 0, 1, 0, 0), (.getfield 7, 3, 3, 0), (.iconst 0, 1, 0, 0), (.iaload, 1, 0, 0), (.if_icmp .ge 89, 3, 144, 0), (.iload 4, 2, 0, 0), (.iload 5, 2, 0, 0), (.if_icmp .ne 7, 3, 69, 0), (.iconst 0, 1, 0, 0), (.goto 40, 3, 106, 0)]),
  (69, [(.iload_n 1, 1, 0, 0), (.iconst 2, 1, 0, 0), (.if_icmp .ge 26, 3, 97, 0), (.aload_n 0, 1, 0, 0), (.getfield 7, 3, 3, 0), (.bipush 113, 2, 0, 0), (.iconst 5, 1, 0, 0), (.bipush 6, 2, 0, 0), (.iload 4, 2, 0, 0), (.imul, 1, 0, 0), (.iload 5, 2, 0, 0), (.iadd, 1, 0, 0), (.imul, 1, 0, 0), (.iadd, 1, 0, 0), (.iconst 4, 1, 0, 0), (.iadd, 1, 0, 0), (.iaload, 1, 0, 0), (.goto 12, 3, 106, 0)]),
  (97, [(.aload_n 0, 1, 0, 0), (.iload 4, 2, 0, 0), (.iload 5, 2, 0, 0), (.invokevirtual 67, 3, 0, 0), (.ineg, 1, 0, 0)]),
  (106, [(.istore 6, 2, 0, 0), (.iload 4, 2, 0, 0), (.iload 5, 2, 0, 0), (.if_icmp .eq 26, 3, 138, 0), (.iload_n 2, 1, 0, 0), (.iconst (-1), 1, 0, 0), (.if_icmp .eq 9, 3, 126, 0), (.iload 6, 2, 0, 0), (.iload_n 3, 1, 0, 0), (.if_icmp .le 15, 3, 138, 0)]),
  (126, [(.bipush 10, 2, 0, 0), (.iload 4, 2, 0, 0), (.imul, 1, 0, 0), (.iload 5, 2, 0, 0), (.iadd, 1, 0, 0), (.istore_n 2, 1, 0, 0), (.iload 6, 2, 0, 0), (.istore_n 3, 1, 0, 0)]),
  (138, [(.iinc 5 1, 3, 0, 0), (.goto (-94), 3, 47, 0)]),
  (144, [(.iinc 4 1, 3, 0, 0), (.goto (-126), 3, 21, 0)]),
  (150, [(.iload_n 1, 1, 0, 0), (.iconst 2, 1, 0, 0), (.irem, 1, 0, 0), (.ifCond .ne 7, 3, 160, 0), (.iload_n 2, 1, 0, 0), (.goto 14, 3, 171, 0)]),
  (160, [(.iload_n 1, 1, 0, 0), (.iconst 1, 1, 0, 0), (.if_icmp .ne 7, 3, 169, 0), (.iload_n 3, 1, 0, 0), (.goto 5, 3, 171, 0)]),
  (169, [(.iload_n 3, 1, 0, 0), (.ineg, 1, 0, 0)]),
  (171, [(.ireturn, 1, 0, 0)])]
def m_X3_worst : MB := (yX3_worst, cX3_worst, 7, (some .int), T_X3_worst)
theorem ok_X3_worst : mOk m_X3_worst := mOk.of (by decide +kernel)
theorem pl_X3_worst : plainFor m_X3_worst.1 = true := by decide +kernel
def T_X3_burden : List (Nat × List MEn) := [(0, [(.iconst 0, 1, 0, 0), (.istore_n 1, 1, 0, 0), (.iconst 0, 1, 0, 0), (.istore_n 2, 1, 0, 0)]),
  (4, [(.iload_n 2, 1, 0, 0), (.aload_n 0, 1, 0, 0), (.getfield 7, 3, 3, 0), (.iconst 4, 1, 0, 0), (.iaload, 1, 0, 0), (.if_icmp .ge 35, 3, 46, 0), (.iload_n 1, 1, 0, 0), (.aload_n 0, 1, 0, 0), (.getfield 7, 3, 3, 0), (.sipush 317, 3, 0, 0), (.iconst 4, 1, 0, 0), (.iload_n 2, 1, 0, 0), (.imul, 1, 0, 0), (.iadd, 1, 0, 0), (.iconst 2, 1, 0, 0), (.iadd, 1, 0, 0), (.iaload, 1, 0, 0), (.iconst (-1), 1, 0, 0), (.if_icmp .ne 7, 3, 37, 0), (.iconst 1, 1, 0, 0), (.goto 4, 3, 38, 0)]),
  (37, [(.iconst 2, 1, 0, 0)]),
  (38, [(.iadd, 1, 0, 0), (.istore_n 1, 1, 0, 0), (.iinc 2 1, 3, 0, 0), (.goto (-39), 3, 4, 0)]),
  (46, [(.aload_n 0, 1, 0, 0), (.getfield 7, 3, 3, 0), (.iconst 4, 1, 0, 0), (.iaload, 1, 0, 0), (.ifCond .ne 7, 3, 59, 0), (.iconst 0, 1, 0, 0), (.goto 15, 3, 71, 0)]),
  (59, [(.sipush 1000, 3, 0, 0), (.iload_n 1, 1, 0, 0), (.imul, 1, 0, 0), (.aload_n 0, 1, 0, 0), (.getfield 7, 3, 3, 0), (.iconst 4, 1, 0, 0), (.iaload, 1, 0, 0), (.idiv, 1, 0, 0)]),
  (71, [(.ireturn, 1, 0, 0)])]
def m_X3_burden : MB := (yX3_burden, cX3_burden, 3, (some .int), T_X3_burden)
theorem ok_X3_burden : mOk m_X3_burden := mOk.of (by decide +kernel)
theorem pl_X3_burden : plainFor m_X3_burden.1 = true := by decide +kernel
def T_X3_lostIn : List (Nat × List MEn) := [(0, [(.iconst 0, 1, 0, 0), (.istore_n 3, 1, 0, 0)]),
  (2, [(.iload_n 3, 1, 0, 0), (.sipush 637, 3, 0, 0), (.if_icmp .ge 21, 3, 27, 0), (.aload_n 0, 1, 0, 0), (.getfield 13, 3, 3, 1), (.iload_n 3, 1, 0, 0), (.aload_n 0, 1, 0, 0), (.getfield 7, 3, 3, 0), (.iload_n 3, 1, 0, 0), (.iaload, 1, 0, 0), (.iastore, 1, 0, 0), (.iinc 3 1, 3, 0, 0), (.goto (-22), 3, 2, 0)]),
  (27, [(.iconst 0, 1, 0, 0), (.istore_n 3, 1, 0, 0)]),
  (29, [(.iload_n 3, 1, 0, 0), (.bipush 36, 2, 0, 0), (.if_icmp .ge 19, 3, 51, 0), (.aload_n 0, 1, 0, 0), (.getfield 7, 3, 3, 0), (.bipush 41, 2, 0, 0), (.iload_n 3, 1, 0, 0), (.iadd, 1, 0, 0), (.iload_n 2, 1, 0, 0), (.iastore, 1, 0, 0), (.iinc 3 1, 3, 0, 0), (.goto (-19), 3, 29, 0)]),
  (51, [(.aload_n 0, 1, 0, 0), (.iconst 4, 1, 0, 0), (.invokevirtual 111, 3, 0, 0), (.istore_n 3, 1, 0, 0), (.aload_n 0, 1, 0, 0), (.iload_n 1, 1, 0, 0), (.invokevirtual 104, 3, 0, 0), (.pop, 1, 0, 0), (.aload_n 0, 1, 0, 0), (.iconst 4, 1, 0, 0), (.invokevirtual 111, 3, 0, 0), (.iload_n 3, 1, 0, 0), (.isub, 1, 0, 0), (.istore 4, 2, 0, 0), (.iconst 0, 1, 0, 0), (.istore 5, 2, 0, 0)]),
  (75, [(.iload 5, 2, 0, 0), (.sipush 637, 3, 0, 0), (.if_icmp .ge 23, 3, 103, 0), (.aload_n 0, 1, 0, 0), (.getfield 7, 3, 3, 0), (.iload 5, 2, 0, 0), (.aload_n 0, 1, 0, 0), (.getfield 13, 3, 3, 1), (.iload 5, 2, 0, 0), (.iaload, 1, 0, 0), (.iastore, 1, 0, 0), (.iinc 5 1, 3, 0, 0), (.goto (-25), 3, 75, 0)]),
  (103, [(.iload 4, 2, 0, 0), (.ireturn, 1, 0, 0)])]
def m_X3_lostIn : MB := (yX3_lostIn, cX3_lostIn, 6, (some .int), T_X3_lostIn)
theorem ok_X3_lostIn : mOk m_X3_lostIn := mOk.of (by decide +kernel)
theorem pl_X3_lostIn : plainFor m_X3_lostIn.1 = true := by decide +kernel
def T_X3_would : List (Nat × List MEn) := [(0, [(.iload_n 1, 1, 0, 0), (.iconst 1, 1, 0, 0), (.bipush 48, 2, 0, 0), (.invokestatic 36, 3, 0, 0), (.ifCond .eq 22, 3, 29, 0), (.iload_n 2, 1, 0, 0), (.iconst 0, 1, 0, 0), (.bipush 30, 2, 0, 0), (.invokestatic 36, 3, 0, 0), (.ifCond .eq 12, 3, 29, 0), (.aload_n 0, 1, 0, 0), (.iload_n 1, 1, 0, 0), (.iload_n 2, 1, 0, 0), (.invokevirtual 114, 3, 0, 0), (.goto 7, 3, 33, 0)]),
  (29, [(.aload_n 0, 1, 0, 0), (.invokevirtual 47, 3, 0, 0)]),
  (33, [(.ireturn, 1, 0, 0)])]
def m_X3_would : MB := (yX3_would, cX3_would, 3, (some .int), T_X3_would)
theorem ok_X3_would : mOk m_X3_would := mOk.of (by decide +kernel)
theorem pl_X3_would : plainFor m_X3_would.1 = true := by decide +kernel
def T_X3_best : List (Nat × List MEn) := [(0, [(.iload_n 1, 1, 0, 0), (.iconst 1, 1, 0, 0), (.bipush 48, 2, 0, 0), (.invokestatic 36, 3, 0, 0), (.ifCond .eq 12, 3, 19, 0), (.iload_n 2, 1, 0, 0), (.iconst 0, 1, 0, 0), (.iconst 1, 1, 0, 0), (.invokestatic 36, 3, 0, 0), (.ifCond .ne 8, 3, 24, 0)]),
  (19, [(.aload_n 0, 1, 0, 0), (.invokevirtual 47, 3, 0, 0), (.ireturn, 1, 0, 0)]),
  (24, [(.iconst 0, 1, 0, 0), (.istore_n 3, 1, 0, 0), (.aload_n 0, 1, 0, 0), (.iload_n 1, 1, 0, 0), (.iconst 0, 1, 0, 0), (.invokevirtual 114, 3, 0, 0), (.istore 4, 2, 0, 0), (.iconst 1, 1, 0, 0), (.istore 5, 2, 0, 0)]),
  (37, [(.iload 5, 2, 0, 0), (.bipush 31, 2, 0, 0), (.if_icmp .ge 48, 3, 89, 0), (.aload_n 0, 1, 0, 0), (.iload_n 1, 1, 0, 0), (.iload 5, 2, 0, 0), (.invokevirtual 114, 3, 0, 0), (.istore 6, 2, 0, 0), (.iload 6, 2, 0, 0), (.iload 4, 2, 0, 0), (.if_icmp .ge 8, 3, 65, 0), (.iload 5, 2, 0, 0), (.goto 4, 3, 66, 0)]),
  (65, [(.iload_n 3, 1, 0, 0)]),
  (66, [(.istore_n 3, 1, 0, 0), (.iload 6, 2, 0, 0), (.iload 4, 2, 0, 0), (.if_icmp .ge 8, 3, 79, 0), (.iload 6, 2, 0, 0), (.goto 5, 3, 81, 0)]),
  (79, [(.iload 4, 2, 0, 0)]),
  (81, [(.istore 4, 2, 0, 0), (.iinc 5 1, 3, 0, 0), (.goto (-49), 3, 37, 0)]),
  (89, [(.iload_n 2, 1, 0, 0), (.ifCond .ne 7, 3, 97, 0), (.iload_n 3, 1, 0, 0), (.goto 5, 3, 99, 0)]),
  (97, [(.iload 4, 2, 0, 0)]),
  (99, [(.ireturn, 1, 0, 0)])]
def m_X3_best : MB := (yX3_best, cX3_best, 7, (some .int), T_X3_best)
theorem ok_X3_best : mOk m_X3_best := mOk.of (by decide +kernel)
theorem pl_X3_best : plainFor m_X3_best.1 = true := by decide +kernel
def T_X3_mayGo : List (Nat × List MEn) := [(0, [(.aload_n 0, 1, 0, 0), (.iload_n 1, 1, 0, 0), (.iload_n 2, 1, 0, 0), (.invokevirtual 67, 3, 0, 0), (.ifCond .gt 21, 3, 27, 0), (.aload_n 0, 1, 0, 0), (.iload_n 1, 1, 0, 0), (.iload_n 3, 1, 0, 0), (.invokevirtual 88, 3, 0, 0), (.ifCond .eq 16, 3, 31, 0), (.aload_n 0, 1, 0, 0), (.iload_n 3, 1, 0, 0), (.iload_n 2, 1, 0, 0), (.invokevirtual 88, 3, 0, 0), (.ifCond .eq 7, 3, 31, 0)]),
  (27, [(.iconst 1, 1, 0, 0), (.goto 4, 3, 32, 0)]),
  (31, [(.iconst 0, 1, 0, 0)]),
  (32, [(.ireturn, 1, 0, 0)])]
def m_X3_mayGo : MB := (yX3_mayGo, cX3_mayGo, 4, (some .boolean), T_X3_mayGo)
theorem ok_X3_mayGo : mOk m_X3_mayGo := mOk.of (by decide +kernel)
theorem pl_X3_mayGo : plainFor m_X3_mayGo.1 = true := by decide +kernel
def T_X3_choked : List (Nat × List MEn) := [(0, [(.iload_n 1, 1, 0, 0), (.iconst 0, 1, 0, 0), (.iconst 1, 1, 0, 0), (.invokestatic 36, 3, 0, 0), (.ifCond .ne 8, 3, 14, 0), (.aload_n 0, 1, 0, 0), (.invokevirtual 47, 3, 0, 0), (.ireturn, 1, 0, 0)]),
  (14, [(.iconst 0, 1, 0, 0), (.istore_n 2, 1, 0, 0), (.iconst 0, 1, 0, 0), (.istore_n 3, 1, 0, 0)]),
  (18, [(.iload_n 3, 1, 0, 0), (.aload_n 0, 1, 0, 0), (.getfield 7, 3, 3, 0), (.iconst 0, 1, 0, 0), (.iaload, 1, 0, 0), (.if_icmp .ge 149, 3, 174, 0), (.iconst 0, 1, 0, 0), (.istore 4, 2, 0, 0)]),
  (31, [(.iload 4, 2, 0, 0), (.aload_n 0, 1, 0, 0), (.getfield 7, 3, 3, 0), (.iconst 0, 1, 0, 0), (.iaload, 1, 0, 0), (.if_icmp .ge 129, 3, 168, 0), (.iload_n 3, 1, 0, 0), (.iload 4, 2, 0, 0), (.if_icmp .ne 7, 3, 52, 0), (.iconst 1, 1, 0, 0), (.goto 4, 3, 53, 0)]),
  (52, [(.iconst 0, 1, 0, 0)]),
  (53, [(.istore 5, 2, 0, 0), (.iconst 0, 1, 0, 0), (.istore 6, 2, 0, 0)]),
  (58, [(.iload 6, 2, 0, 0), (.aload_n 0, 1, 0, 0), (.getfield 7, 3, 3, 0), (.iconst 0, 1, 0, 0), (.iaload, 1, 0, 0), (.if_icmp .ge 83, 3, 149, 0), (.iload 5, 2, 0, 0), (.ifCond .ne 78, 3, 149, 0), (.iload 6, 2, 0, 0), (.iload_n 3, 1, 0, 0), (.if_icmp .eq 39, 3, 116, 0), (.iload 6, 2, 0, 0), (.iload 4, 2, 0, 0), (.if_icmp .eq 32, 3, 116, 0), (.iload_n 1, 1, 0, 0), (.iconst 1, 1, 0, 0), (.if_icmp .eq 23, 3, 112, 0), (.aload_n 0, 1, 0, 0), (.getfield 7, 3, 3, 0), (.bipush 77, 2, 0, 0), (.bipush 6, 2, 0, 0), (.iload_n 3, 1, 0, 0), (.imul, 1, 0, 0), (.iadd, 1, 0, 0), (.iload 4, 2, 0, 0), (.iadd, 1, 0, 0), (.iaload, 1, 0, 0), (.iload 6, 2, 0, 0), (.if_icmp .ne 7, 3, 116, 0)]),
  (112, [(.iconst 1, 1, 0, 0), (.goto 4, 3, 117, 0)]),
  (116, [(.iconst 0, 1, 0, 0)]),
  (117, [(.istore 7, 2, 0, 0), (.iload 7, 2, 0, 0), (.ifCond .eq 19, 3, 140, 0), (.aload_n 0, 1, 0, 0), (.iload_n 3, 1, 0, 0), (.iload 4, 2, 0, 0), (.iload 6, 2, 0, 0), (.invokevirtual 117, 3, 0, 0), (.ifCond .eq 7, 3, 140, 0), (.iconst 1, 1, 0, 0), (.goto 4, 3, 141, 0)]),
  (140, [(.iconst 0, 1, 0, 0)]),
  (141, [(.istore 5, 2, 0, 0), (.iinc 6 1, 3, 0, 0), (.goto (-88), 3, 58, 0)]),
  (149, [(.iload_n 2, 1, 0, 0), (.iload 5, 2, 0, 0), (.ifCond .eq 7, 3, 159, 0), (.iconst 0, 1, 0, 0), (.goto 4, 3, 160, 0)]),
  (159, [(.iconst 1, 1, 0, 0)]),
  (160, [(.iadd, 1, 0, 0), (.istore_n 2, 1, 0, 0), (.iinc 4 1, 3, 0, 0), (.goto (-134), 3, 31, 0)]),
  (168, [(.iinc 3 1, 3, 0, 0), (.goto (-153), 3, 18, 0)]),
  (174, [(.iload_n 2, 1, 0, 0), (.ireturn, 1, 0, 0)])]
def m_X3_choked : MB := (yX3_choked, cX3_choked, 8, (some .int), T_X3_choked)
theorem ok_X3_choked : mOk m_X3_choked := mOk.of (by decide +kernel)
theorem pl_X3_choked : plainFor m_X3_choked.1 = true := by decide +kernel
def T_X3_type : List (Nat × List MEn) := [(0, [(.iload_n 1, 1, 0, 0), (.iconst 0, 1, 0, 0), (.bipush 127, 2, 0, 0), (.invokestatic 36, 3, 0, 0), (.ifCond .ne 8, 3, 15, 0), (.aload_n 0, 1, 0, 0), (.invokevirtual 47, 3, 0, 0), (.ireturn, 1, 0, 0)]),
  (15, [(.aload_n 0, 1, 0, 0), (.getfield 120, 3, 3, 5), (.bipush 120, 2, 0, 0), (.if_icmp .ne 16, 3, 37, 0), (.aload_n 0, 1, 0, 0), (.dup, 1, 0, 0), (.getfield 95, 3, 3, 12), (.iconst 1, 1, 0, 0), (.iadd, 1, 0, 0), (.putfield 95, 3, 3, 12), (.bipush (-4), 2, 0, 0), (.ireturn, 1, 0, 0)]),
  (37, [(.aload_n 0, 1, 0, 0), (.getfield 19, 3, 3, 4), (.aload_n 0, 1, 0, 0), (.getfield 120, 3, 3, 5), (.iload_n 1, 1, 0, 0), (.iastore, 1, 0, 0), (.aload_n 0, 1, 0, 0), (.dup, 1, 0, 0), (.getfield 120, 3, 3, 5), (.iconst 1, 1, 0, 0), (.iadd, 1, 0, 0), (.putfield 120, 3, 3, 5), (.aload_n 0, 1, 0, 0), (.getfield 120, 3, 3, 5), (.ireturn, 1, 0, 0)])]
def m_X3_type : MB := (yX3_type, cX3_type, 2, (some .int), T_X3_type)
theorem ok_X3_type : mOk m_X3_type := mOk.of (by decide +kernel)
theorem pl_X3_type : plainFor m_X3_type.1 = true := by decide +kernel
def T_X3_clear : List (Nat × List MEn) := [(0, [(.aload_n 0, 1, 0, 0), (.getfield 120, 3, 3, 5), (.istore_n 1, 1, 0, 0), (.aload_n 0, 1, 0, 0), (.iconst 0, 1, 0, 0), (.putfield 120, 3, 3, 5), (.iload_n 1, 1, 0, 0), (.ireturn, 1, 0, 0)])]
def m_X3_clear : MB := (yX3_clear, cX3_clear, 2, (some .int), T_X3_clear)
theorem ok_X3_clear : mOk m_X3_clear := mOk.of (by decide +kernel)
theorem pl_X3_clear : plainFor m_X3_clear.1 = true := by decide +kernel
def T_X3_sign : List (Nat × List MEn) := [(0, [(.aload_n 0, 1, 0, 0), (.getfield 123, 3, 3, 6), (.aload_n 0, 1, 0, 0), (.getfield 120, 3, 3, 5), (.if_icmp .ge 30, 3, 38, 0), (.aload_n 0, 1, 0, 0), (.getfield 19, 3, 3, 4), (.aload_n 0, 1, 0, 0), (.getfield 123, 3, 3, 6), (.iaload, 1, 0, 0), (.bipush 32, 2, 0, 0), (.if_icmp .ne 16, 3, 38, 0), (.aload_n 0, 1, 0, 0), (.dup, 1, 0, 0), (.getfield 123, 3, 3, 6), (.iconst 1, 1, 0, 0), (.iadd, 1, 0, 0), (.putfield 123, 3, 3, 6), (.goto (-35), 3, 0, 0)]),
  (38, [(.aload_n 0, 1, 0, 0), (.getfield 123, 3, 3, 6), (.aload_n 0, 1, 0, 0), (.getfield 120, 3, 3, 5), (.if_icmp .ge 15, 3, 61, 0), (.aload_n 0, 1, 0, 0), (.getfield 19, 3, 3, 4), (.aload_n 0, 1, 0, 0), (.getfield 123, 3, 3, 6), (.iaload, 1, 0, 0), (.goto 4, 3, 62, 0)]),
  (61, [(.iconst (-1), 1, 0, 0)]),
  (62, [(.ireturn, 1, 0, 0)])]
def m_X3_sign : MB := (yX3_sign, cX3_sign, 1, (some .int), T_X3_sign)
theorem ok_X3_sign : mOk m_X3_sign := mOk.of (by decide +kernel)
theorem pl_X3_sign : plainFor m_X3_sign.1 = true := by decide +kernel
def T_X3_fails : List (Nat × List MEn) := [(0, [(.aload_n 0, 1, 0, 0), (.aload_n 0, 1, 0, 0), (.getfield 126, 3, 3, 7), (.iconst (-1), 1, 0, 0), (.if_icmp .ne 7, 3, 13, 0), (.iload_n 1, 1, 0, 0), (.goto 7, 3, 17, 0)]),
  (13, [(.aload_n 0, 1, 0, 0), (.getfield 126, 3, 3, 7)]),
  (17, [(.putfield 126, 3, 3, 7), (.return_, 1, 0, 0)])]
def m_X3_fails : MB := (yX3_fails, cX3_fails, 2, none, T_X3_fails)
theorem ok_X3_fails : mOk m_X3_fails := mOk.of (by decide +kernel)
theorem pl_X3_fails : plainFor m_X3_fails.1 = true := by decide +kernel
def T_X3_isFigure : List (Nat × List MEn) := [(0, [(.iload_n 0, 1, 0, 0), (.bipush 48, 2, 0, 0), (.bipush 57, 2, 0, 0), (.invokestatic 36, 3, 0, 0), (.ireturn, 1, 0, 0)])]
def m_X3_isFigure : MB := (yX3_isFigure, cX3_isFigure, 1, (some .boolean), T_X3_isFigure)
theorem ok_X3_isFigure : mOk m_X3_isFigure := mOk.of (by decide +kernel)
theorem pl_X3_isFigure : plainFor m_X3_isFigure.1 = true := by decide +kernel
def T_X3_figure : List (Nat × List MEn) := [(0, [(.aload_n 0, 1, 0, 0), (.invokevirtual 129, 3, 0, 0), (.istore_n 3, 1, 0, 0), (.aload_n 0, 1, 0, 0), (.getfield 126, 3, 3, 7), (.iconst (-1), 1, 0, 0), (.if_icmp .ne 26, 3, 36, 0), (.iload_n 3, 1, 0, 0), (.invokestatic 132, 3, 0, 0), (.ifCond .eq 19, 3, 36, 0), (.iload_n 3, 1, 0, 0), (.bipush 48, 2, 0, 0), (.isub, 1, 0, 0), (.iload_n 1, 1, 0, 0), (.if_icmp .gt 11, 3, 36, 0), (.iload_n 3, 1, 0, 0), (.bipush 48, 2, 0, 0), (.isub, 1, 0, 0), (.iload_n 2, 1, 0, 0), (.if_icmp .ne 13, 3, 46, 0)]),
  (36, [(.aload_n 0, 1, 0, 0), (.aload_n 0, 1, 0, 0), (.getfield 123, 3, 3, 6), (.invokevirtual 135, 3, 0, 0), (.iconst 0, 1, 0, 0), (.ireturn, 1, 0, 0)]),
  (46, [(.aload_n 0, 1, 0, 0), (.dup, 1, 0, 0), (.getfield 123, 3, 3, 6), (.iconst 1, 1, 0, 0), (.iadd, 1, 0, 0), (.putfield 123, 3, 3, 6), (.iload_n 3, 1, 0, 0), (.bipush 48, 2, 0, 0), (.isub, 1, 0, 0), (.ireturn, 1, 0, 0)])]
def m_X3_figure : MB := (yX3_figure, cX3_figure, 4, (some .int), T_X3_figure)
theorem ok_X3_figure : mOk m_X3_figure := mOk.of (by decide +kernel)
theorem pl_X3_figure : plainFor m_X3_figure.1 = true := by decide +kernel
def T_X3_number : List (Nat × List MEn) := [(0, [(.aload_n 0, 1, 0, 0), (.invokevirtual 129, 3, 0, 0), (.pop, 1, 0, 0), (.aload_n 0, 1, 0, 0), (.getfield 123, 3, 3, 6), (.istore_n 3, 1, 0, 0), (.iconst 0, 1, 0, 0), (.istore 4, 2, 0, 0)]),
  (13, [(.aload_n 0, 1, 0, 0), (.getfield 123, 3, 3, 6), (.aload_n 0, 1, 0, 0), (.getfield 120, 3, 3, 5), (.if_icmp .ge 67, 3, 88, 0), (.aload_n 0, 1, 0, 0), (.getfield 19, 3, 3, 4), (.aload_n 0, 1, 0, 0), (.getfield 123, 3, 3, 6), (.iaload, 1, 0, 0), (.invokestatic 132, 3, 0, 0), (.ifCond .eq 52, 3, 88, 0), (.aload_n 0, 1, 0, 0), (.getfield 123, 3, 3, 6), (.iload_n 3, 1, 0, 0), (.isub, 1, 0, 0), (.iconst 2, 1, 0, 0), (.if_icmp .ge 24, 3, 70, 0), (.bipush 10, 2, 0, 0), (.iload 4, 2, 0, 0), (.imul, 1, 0, 0), (.aload_n 0, 1, 0, 0), (.getfield 19, 3, 3, 4), (.aload_n 0, 1, 0, 0), (.getfield 123, 3, 3, 6), (.iaload, 1, 0, 0), (.iadd, 1, 0, 0), (.bipush 48, 2, 0, 0), (.isub, 1, 0, 0), (.goto 6, 3, 73, 0)]),
  (70, [(.sipush 1000, 3, 0, 0)]),
  (73, [(.istore 4, 2, 0, 0), (.aload_n 0, 1, 0, 0), (.dup, 1, 0, 0), (.getfield 123, 3, 3, 6), (.iconst 1, 1, 0, 0), (.iadd, 1, 0, 0), (.putfield 123, 3, 3, 6), (.goto (-72), 3, 13, 0)]),
  (88, [(.aload_n 0, 1, 0, 0), (.getfield 123, 3, 3, 6), (.iload_n 3, 1, 0, 0), (.if_icmp .eq 13, 3, 106, 0), (.iload 4, 2, 0, 0), (.iload_n 1, 1, 0, 0), (.iload_n 2, 1, 0, 0), (.invokestatic 36, 3, 0, 0), (.ifCond .ne 8, 3, 111, 0)]),
  (106, [(.aload_n 0, 1, 0, 0), (.iload_n 3, 1, 0, 0), (.invokevirtual 135, 3, 0, 0)]),
  (111, [(.iload 4, 2, 0, 0), (.ireturn, 1, 0, 0)])]
def m_X3_number : MB := (yX3_number, cX3_number, 5, (some .int), T_X3_number)
theorem ok_X3_number : mOk m_X3_number := mOk.of (by decide +kernel)
theorem pl_X3_number : plainFor m_X3_number.1 = true := by decide +kernel
def T_X3_order : List (Nat × List MEn) := [(0, [(.iconst 4, 1, 0, 0), (.aload_n 0, 1, 0, 0), (.getfield 138, 3, 3, 9), (.imul, 1, 0, 0), (.istore_n 1, 1, 0, 0), (.aload_n 0, 1, 0, 0), (.invokevirtual 129, 3, 0, 0), (.istore_n 2, 1, 0, 0), (.aload_n 0, 1, 0, 0), (.getfield 7, 3, 3, 0), (.iconst 0, 1, 0, 0), (.iaload, 1, 0, 0), (.iconst 1, 1, 0, 0), (.isub, 1, 0, 0), (.istore_n 3, 1, 0, 0), (.aload_n 0, 1, 0, 0), (.getfield 22, 3, 3, 8), (.iload_n 1, 1, 0, 0), (.iload_n 2, 1, 0, 0), (.invokestatic 132, 3, 0, 0), (.ifCond .eq 8, 3, 38, 0), (.bipush 99, 2, 0, 0), (.goto 4, 3, 39, 0)]),
  (38, [(.iload_n 2, 1, 0, 0)]),
  (39, [(.iastore, 1, 0, 0), (.iload_n 2, 1, 0, 0), (.invokestatic 132, 3, 0, 0), (.ifCond .eq 68, 3, 112, 0), (.aload_n 0, 1, 0, 0), (.getfield 22, 3, 3, 8), (.iload_n 1, 1, 0, 0), (.iconst 1, 1, 0, 0), (.iadd, 1, 0, 0), (.aload_n 0, 1, 0, 0), (.iload_n 3, 1, 0, 0), (.iconst (-1), 1, 0, 0), (.invokevirtual 141, 3, 0, 0), (.iastore, 1, 0, 0), (.aload_n 0, 1, 0, 0), (.getfield 22, 3, 3, 8), (.iload_n 1, 1, 0, 0), (.iconst 2, 1, 0, 0), (.iadd, 1, 0, 0), (.aload_n 0, 1, 0, 0), (.iload_n 3, 1, 0, 0), (.aload_n 0, 1, 0, 0), (.getfield 22, 3, 3, 8), (.iload_n 1, 1, 0, 0), (.iconst 1, 1, 0, 0), (.iadd, 1, 0, 0), (.iaload, 1, 0, 0), (.invokevirtual 141, 3, 0, 0), (.iastore, 1, 0, 0), (.aload_n 0, 1, 0, 0), (.getfield 22, 3, 3, 8), (.iload_n 1, 1, 0, 0), (.iconst 3, 1, 0, 0), (.iadd, 1, 0, 0), (.aload_n 0, 1, 0, 0), (.getfield 126, 3, 3, 7), (.iconst (-1), 1, 0, 0), (.if_icmp .ne 13, 3, 107, 0), (.aload_n 0, 1, 0, 0), (.iconst 1, 1, 0, 0), (.bipush 24, 2, 0, 0), (.invokevirtual 144, 3, 0, 0), (.goto 4, 3, 108, 0)]),
  (107, [(.iconst 0, 1, 0, 0)]),
  (108, [(.iastore, 1, 0, 0), (.goto 226, 3, 335, 0)]),
  (112, [(.iload_n 2, 1, 0, 0), (.bipush 43, 2, 0, 0), (.if_icmp .ne 31, 3, 146, 0), (.aload_n 0, 1, 0, 0), (.dup, 1, 0, 0), (.getfield 123, 3, 3, 6), (.iconst 1, 1, 0, 0), (.iadd, 1, 0, 0), (.putfield 123, 3, 3, 6), (.aload_n 0, 1, 0, 0), (.getfield 22, 3, 3, 8), (.iload_n 1, 1, 0, 0), (.iconst 1, 1, 0, 0), (.iadd, 1, 0, 0), (.aload_n 0, 1, 0, 0), (.iconst 0, 1, 0, 0), (.bipush 99, 2, 0, 0), (.invokevirtual 144, 3, 0, 0), (.iastore, 1, 0, 0), (.goto 192, 3, 335, 0)]),
  (146, [(.iload_n 2, 1, 0, 0), (.bipush 119, 2, 0, 0), (.if_icmp .eq 9, 3, 158, 0), (.iload_n 2, 1, 0, 0), (.bipush 114, 2, 0, 0), (.if_icmp .ne 78, 3, 233, 0)]),
  (158, [(.aload_n 0, 1, 0, 0), (.dup, 1, 0, 0), (.getfield 123, 3, 3, 6), (.iconst 1, 1, 0, 0), (.iadd, 1, 0, 0), (.putfield 123, 3, 3, 6), (.aload_n 0, 1, 0, 0), (.getfield 22, 3, 3, 8), (.iload_n 1, 1, 0, 0), (.iconst 1, 1, 0, 0), (.iadd, 1, 0, 0), (.aload_n 0, 1, 0, 0), (.iload_n 3, 1, 0, 0), (.iconst (-1), 1, 0, 0), (.invokevirtual 141, 3, 0, 0), (.iastore, 1, 0, 0), (.aload_n 0, 1, 0, 0), (.getfield 22, 3, 3, 8), (.iload_n 1, 1, 0, 0), (.iconst 2, 1, 0, 0), (.iadd, 1, 0, 0), (.aload_n 0, 1, 0, 0), (.iload_n 3, 1, 0, 0), (.aload_n 0, 1, 0, 0), (.getfield 22, 3, 3, 8), (.iload_n 1, 1, 0, 0), (.iconst 1, 1, 0, 0), (.iadd, 1, 0, 0), (.iaload, 1, 0, 0), (.invokevirtual 141, 3, 0, 0), (.iastore, 1, 0, 0), (.aload_n 0, 1, 0, 0), (.getfield 22, 3, 3, 8), (.iload_n 1, 1, 0, 0), (.iconst 3, 1, 0, 0), (.iadd, 1, 0, 0), (.aload_n 0, 1, 0, 0), (.getfield 126, 3, 3, 7), (.iconst (-1), 1, 0, 0), (.if_icmp .ne 13, 3, 228, 0), (.aload_n 0, 1, 0, 0), (.iconst 0, 1, 0, 0), (.bipush 30, 2, 0, 0), (.invokevirtual 144, 3, 0, 0), (.goto 4, 3, 229, 0)]),
  (228, [(.iconst 0, 1, 0, 0)]),
  (229, [(.iastore, 1, 0, 0), (.goto 105, 3, 335, 0)]),
  (233, [(.iload_n 2, 1, 0, 0), (.bipush 112, 2, 0, 0), (.if_icmp .ne 58, 3, 294, 0), (.aload_n 0, 1, 0, 0), (.dup, 1, 0, 0), (.getfield 123, 3, 3, 6), (.iconst 1, 1, 0, 0), (.iadd, 1, 0, 0), (.putfield 123, 3, 3, 6), (.aload_n 0, 1, 0, 0), (.getfield 22, 3, 3, 8), (.iload_n 1, 1, 0, 0), (.iconst 1, 1, 0, 0), (.iadd, 1, 0, 0), (.aload_n 0, 1, 0, 0), (.iconst 0, 1, 0, 0), (.bipush 23, 2, 0, 0), (.invokevirtual 144, 3, 0, 0), (.iastore, 1, 0, 0), (.aload_n 0, 1, 0, 0), (.getfield 22, 3, 3, 8), (.iload_n 1, 1, 0, 0), (.iconst 2, 1, 0, 0), (.iadd, 1, 0, 0), (.aload_n 0, 1, 0, 0), (.getfield 126, 3, 3, 7), (.iconst (-1), 1, 0, 0), (.if_icmp .ne 13, 3, 289, 0), (.aload_n 0, 1, 0, 0), (.iconst 0, 1, 0, 0), (.bipush 9, 2, 0, 0), (.invokevirtual 144, 3, 0, 0), (.goto 4, 3, 290, 0)]),
  (289, [(.iconst 0, 1, 0, 0)]),
  (290, [(.iastore, 1, 0, 0), (.goto 44, 3, 335, 0)]),
  (294, [(.iload_n 2, 1, 0, 0), (.bipush 120, 2, 0, 0), (.if_icmp .ne 30, 3, 327, 0), (.aload_n 0, 1, 0, 0), (.dup, 1, 0, 0), (.getfield 123, 3, 3, 6), (.iconst 1, 1, 0, 0), (.iadd, 1, 0, 0), (.putfield 123, 3, 3, 6), (.aload_n 0, 1, 0, 0), (.getfield 22, 3, 3, 8), (.iload_n 1, 1, 0, 0), (.iconst 1, 1, 0, 0), (.iadd, 1, 0, 0), (.aload_n 0, 1, 0, 0), (.iconst 1, 1, 0, 0), (.iconst (-1), 1, 0, 0), (.invokevirtual 141, 3, 0, 0), (.iastore, 1, 0, 0), (.goto 11, 3, 335, 0)]),
  (327, [(.aload_n 0, 1, 0, 0), (.aload_n 0, 1, 0, 0), (.getfield 123, 3, 3, 6), (.invokevirtual 135, 3, 0, 0)]),
  (335, [(.aload_n 0, 1, 0, 0), (.getfield 126, 3, 3, 7), (.iconst (-1), 1, 0, 0), (.if_icmp .ne 20, 3, 360, 0), (.aload_n 0, 1, 0, 0), (.invokevirtual 129, 3, 0, 0), (.bipush 59, 2, 0, 0), (.if_icmp .eq 11, 3, 360, 0), (.aload_n 0, 1, 0, 0), (.aload_n 0, 1, 0, 0), (.getfield 123, 3, 3, 6), (.invokevirtual 135, 3, 0, 0)]),
  (360, [(.aload_n 0, 1, 0, 0), (.dup, 1, 0, 0), (.getfield 123, 3, 3, 6), (.iconst 1, 1, 0, 0), (.iadd, 1, 0, 0), (.putfield 123, 3, 3, 6), (.aload_n 0, 1, 0, 0), (.dup, 1, 0, 0), (.getfield 138, 3, 3, 9), (.iconst 1, 1, 0, 0), (.iadd, 1, 0, 0), (.putfield 138, 3, 3, 9), (.return_, 1, 0, 0)])]
def m_X3_order : MB := (yX3_order, cX3_order, 4, none, T_X3_order)
theorem ok_X3_order : mOk m_X3_order := mOk.of (by decide +kernel)
theorem pl_X3_order : plainFor m_X3_order.1 = true := by decide +kernel
def T_X3_does : List (Nat × List MEn) := [(0, [(.aload_n 0, 1, 0, 0), (.iconst 0, 1, 0, 0), (.putfield 123, 3, 3, 6), (.aload_n 0, 1, 0, 0), (.iconst (-1), 1, 0, 0), (.putfield 126, 3, 3, 7), (.aload_n 0, 1, 0, 0), (.iconst 0, 1, 0, 0), (.putfield 138, 3, 3, 9)]),
  (15, [(.aload_n 0, 1, 0, 0), (.invokevirtual 147, 3, 0, 0), (.aload_n 0, 1, 0, 0), (.getfield 126, 3, 3, 7), (.iconst (-1), 1, 0, 0), (.if_icmp .ne 11, 3, 35, 0), (.aload_n 0, 1, 0, 0), (.invokevirtual 129, 3, 0, 0), (.iconst (-1), 1, 0, 0), (.if_icmp .ne (-17), 3, 15, 0)]),
  (35, [(.aload_n 0, 1, 0, 0), (.getfield 126, 3, 3, 7), (.iconst (-1), 1, 0, 0), (.if_icmp .eq 11, 3, 51, 0), (.bipush (-10), 2, 0, 0), (.aload_n 0, 1, 0, 0), (.getfield 126, 3, 3, 7), (.isub, 1, 0, 0), (.ireturn, 1, 0, 0)]),
  (51, [(.aload_n 0, 1, 0, 0), (.invokevirtual 51, 3, 0, 0), (.iconst 0, 1, 0, 0), (.istore_n 1, 1, 0, 0), (.iconst 0, 1, 0, 0), (.istore_n 2, 1, 0, 0)]),
  (59, [(.iload_n 2, 1, 0, 0), (.iconst 4, 1, 0, 0), (.aload_n 0, 1, 0, 0), (.getfield 138, 3, 3, 9), (.imul, 1, 0, 0), (.if_icmp .ge 168, 3, 234, 0), (.aload_n 0, 1, 0, 0), (.getfield 22, 3, 3, 8), (.iload_n 2, 1, 0, 0), (.iaload, 1, 0, 0), (.istore_n 3, 1, 0, 0), (.aload_n 0, 1, 0, 0), (.getfield 22, 3, 3, 8), (.iload_n 2, 1, 0, 0), (.iconst 1, 1, 0, 0), (.iadd, 1, 0, 0), (.iaload, 1, 0, 0), (.istore 4, 2, 0, 0), (.aload_n 0, 1, 0, 0), (.getfield 22, 3, 3, 8), (.iload_n 2, 1, 0, 0), (.iconst 2, 1, 0, 0), (.iadd, 1, 0, 0), (.iaload, 1, 0, 0), (.istore 5, 2, 0, 0), (.iload_n 3, 1, 0, 0), (.bipush 99, 2, 0, 0), (.if_icmp .ne 35, 3, 134, 0), (.iload_n 1, 1, 0, 0), (.aload_n 0, 1, 0, 0), (.iload 4, 2, 0, 0), (.iload 5, 2, 0, 0), (.aload_n 0, 1, 0, 0), (.getfield 22, 3, 3, 8), (.iload_n 2, 1, 0, 0), (.iconst 3, 1, 0, 0), (.iadd, 1, 0, 0), (.iaload, 1, 0, 0), (.invokevirtual 98, 3, 0, 0), (.bipush (-5), 2, 0, 0), (.if_icmp .ne 7, 3, 128, 0), (.iconst 0, 1, 0, 0), (.goto 4, 3, 129, 0)]),
  (128, [(.iconst 1, 1, 0, 0)]),
  (129, [(.iadd, 1, 0, 0), (.istore_n 1, 1, 0, 0), (.goto 97, 3, 228, 0)]),
  (134, [(.iload_n 3, 1, 0, 0), (.bipush 43, 2, 0, 0), (.if_icmp .ne 13, 3, 150, 0), (.aload_n 0, 1, 0, 0), (.iload 4, 2, 0, 0), (.invokevirtual 104, 3, 0, 0), (.pop, 1, 0, 0), (.goto 81, 3, 228, 0)]),
  (150, [(.iload_n 3, 1, 0, 0), (.bipush 119, 2, 0, 0), (.if_icmp .eq 9, 3, 162, 0), (.iload_n 3, 1, 0, 0), (.bipush 114, 2, 0, 0), (.if_icmp .ne 39, 3, 198, 0)]),
  (162, [(.aload_n 0, 1, 0, 0), (.getfield 7, 3, 3, 0), (.iload_n 3, 1, 0, 0), (.bipush 119, 2, 0, 0), (.if_icmp .ne 7, 3, 176, 0), (.iconst 5, 1, 0, 0), (.goto 5, 3, 178, 0)]),
  (176, [(.bipush 41, 2, 0, 0)]),
  (178, [(.iload 4, 2, 0, 0), (.iload 5, 2, 0, 0), (.invokestatic 58, 3, 0, 0), (.iadd, 1, 0, 0), (.aload_n 0, 1, 0, 0), (.getfield 22, 3, 3, 8), (.iload_n 2, 1, 0, 0), (.iconst 3, 1, 0, 0), (.iadd, 1, 0, 0), (.iaload, 1, 0, 0), (.iastore, 1, 0, 0), (.goto 33, 3, 228, 0)]),
  (198, [(.iload_n 3, 1, 0, 0), (.bipush 112, 2, 0, 0), (.if_icmp .ne 19, 3, 220, 0), (.aload_n 0, 1, 0, 0), (.getfield 7, 3, 3, 0), (.sipush 293, 3, 0, 0), (.iload 4, 2, 0, 0), (.iadd, 1, 0, 0), (.iload 5, 2, 0, 0), (.iastore, 1, 0, 0), (.goto 11, 3, 228, 0)]),
  (220, [(.aload_n 0, 1, 0, 0), (.getfield 7, 3, 3, 0), (.iconst 1, 1, 0, 0), (.iload 4, 2, 0, 0), (.iastore, 1, 0, 0)]),
  (228, [(.iinc 2 4, 3, 0, 0), (.goto (-172), 3, 59, 0)]),
  (234, [(.iload_n 1, 1, 0, 0), (.ireturn, 1, 0, 0)])]
def m_X3_does : MB := (yX3_does, cX3_does, 6, (some .int), T_X3_does)
theorem ok_X3_does : mOk m_X3_does := mOk.of (by decide +kernel)
theorem pl_X3_does : plainFor m_X3_does.1 = true := by decide +kernel
def T_X3_undo : List (Nat × List MEn) := [(0, [(.aload_n 0, 1, 0, 0), (.getfield 44, 3, 3, 3), (.ifCond .ne 8, 3, 12, 0), (.aload_n 0, 1, 0, 0), (.invokevirtual 108, 3, 0, 0), (.ireturn, 1, 0, 0)]),
  (12, [(.aload_n 0, 1, 0, 0), (.dup, 1, 0, 0), (.getfield 44, 3, 3, 3), (.iconst 1, 1, 0, 0), (.isub, 1, 0, 0), (.putfield 44, 3, 3, 3), (.iconst 0, 1, 0, 0), (.istore_n 1, 1, 0, 0)]),
  (24, [(.iload_n 1, 1, 0, 0), (.sipush 637, 3, 0, 0), (.if_icmp .ge 30, 3, 58, 0), (.aload_n 0, 1, 0, 0), (.getfield 7, 3, 3, 0), (.iload_n 1, 1, 0, 0), (.aload_n 0, 1, 0, 0), (.getfield 16, 3, 3, 2), (.sipush 637, 3, 0, 0), (.aload_n 0, 1, 0, 0), (.getfield 44, 3, 3, 3), (.imul, 1, 0, 0), (.iload_n 1, 1, 0, 0), (.iadd, 1, 0, 0), (.iaload, 1, 0, 0), (.iastore, 1, 0, 0), (.iinc 1 1, 3, 0, 0), (.goto (-31), 3, 24, 0)]),
  (58, [(.aload_n 0, 1, 0, 0), (.getfield 44, 3, 3, 3), (.ireturn, 1, 0, 0)])]
def m_X3_undo : MB := (yX3_undo, cX3_undo, 2, (some .int), T_X3_undo)
theorem ok_X3_undo : mOk m_X3_undo := mOk.of (by decide +kernel)
theorem pl_X3_undo : plainFor m_X3_undo.1 = true := by decide +kernel
def T_X3_told : List (Nat × List MEn) := [(0, [(.iload_n 1, 1, 0, 0), (.tableswitch 115 0 9 #[55, 60, 65, 70, 75, 82, 89, 96, 103, 110], 55, 0, 0)]),
  (56, [(.aload_n 0, 1, 0, 0), (.getfield 29, 3, 3, 10), (.ireturn, 1, 0, 0)]),
  (61, [(.aload_n 0, 1, 0, 0), (.getfield 33, 3, 3, 11), (.ireturn, 1, 0, 0)]),
  (66, [(.aload_n 0, 1, 0, 0), (.getfield 95, 3, 3, 12), (.ireturn, 1, 0, 0)]),
  (71, [(.aload_n 0, 1, 0, 0), (.getfield 120, 3, 3, 5), (.ireturn, 1, 0, 0)]),
  (76, [(.aload_n 0, 1, 0, 0), (.getfield 7, 3, 3, 0), (.iconst 0, 1, 0, 0), (.iaload, 1, 0, 0), (.ireturn, 1, 0, 0)]),
  (83, [(.aload_n 0, 1, 0, 0), (.getfield 7, 3, 3, 0), (.iconst 1, 1, 0, 0), (.iaload, 1, 0, 0), (.ireturn, 1, 0, 0)]),
  (90, [(.aload_n 0, 1, 0, 0), (.getfield 7, 3, 3, 0), (.iconst 4, 1, 0, 0), (.iaload, 1, 0, 0), (.ireturn, 1, 0, 0)]),
  (97, [(.aload_n 0, 1, 0, 0), (.getfield 7, 3, 3, 0), (.iconst 3, 1, 0, 0), (.iaload, 1, 0, 0), (.ireturn, 1, 0, 0)]),
  (104, [(.aload_n 0, 1, 0, 0), (.getfield 7, 3, 3, 0), (.iconst 2, 1, 0, 0), (.iaload, 1, 0, 0), (.ireturn, 1, 0, 0)]),
  (111, [(.aload_n 0, 1, 0, 0), (.getfield 44, 3, 3, 3), (.ireturn, 1, 0, 0)]),
  (116, [(.aload_n 0, 1, 0, 0), (.invokevirtual 47, 3, 0, 0), (.ireturn, 1, 0, 0)])]
def m_X3_told : MB := (yX3_told, cX3_told, 2, (some .int), T_X3_told)
theorem ok_X3_told : mOk m_X3_told := mOk.of (by decide +kernel)
theorem pl_X3_told : plainFor m_X3_told.1 = true := by decide +kernel
def T_X3_digest : List (Nat × List MEn) := [(0, [(.ldc2_w 150, 3, 2129, 0), (.lstore_n 1, 1, 0, 0), (.iconst 0, 1, 0, 0), (.istore_n 3, 1, 0, 0)]),
  (6, [(.iload_n 3, 1, 0, 0), (.bipush 10, 2, 0, 0), (.if_icmp .ge 22, 3, 31, 0), (.ldc2_w 152, 3, 31, 0), (.lload_n 1, 1, 0, 0), (.lmul, 1, 0, 0), (.aload_n 0, 1, 0, 0), (.iload_n 3, 1, 0, 0), (.invokevirtual 154, 3, 0, 0), (.i2l, 1, 0, 0), (.ladd, 1, 0, 0), (.lstore_n 1, 1, 0, 0), (.iinc 3 1, 3, 0, 0), (.goto (-22), 3, 6, 0)]),
  (31, [(.iconst 0, 1, 0, 0), (.istore_n 3, 1, 0, 0)]),
  (33, [(.iload_n 3, 1, 0, 0), (.aload_n 0, 1, 0, 0), (.getfield 7, 3, 3, 0), (.iconst 0, 1, 0, 0), (.iaload, 1, 0, 0), (.if_icmp .ge 91, 3, 131, 0), (.iload_n 3, 1, 0, 0), (.iconst 1, 1, 0, 0), (.iadd, 1, 0, 0), (.istore 4, 2, 0, 0)]),
  (48, [(.iload 4, 2, 0, 0), (.aload_n 0, 1, 0, 0), (.getfield 7, 3, 3, 0), (.iconst 0, 1, 0, 0), (.iaload, 1, 0, 0), (.if_icmp .ge 69, 3, 125, 0), (.ldc2_w 152, 3, 31, 0), (.lload_n 1, 1, 0, 0), (.lmul, 1, 0, 0), (.aload_n 0, 1, 0, 0), (.getfield 7, 3, 3, 0), (.iconst 5, 1, 0, 0), (.bipush 6, 2, 0, 0), (.iload_n 3, 1, 0, 0), (.imul, 1, 0, 0), (.iadd, 1, 0, 0), (.iload 4, 2, 0, 0), (.iadd, 1, 0, 0), (.iaload, 1, 0, 0), (.i2l, 1, 0, 0), (.ladd, 1, 0, 0), (.lstore_n 1, 1, 0, 0), (.ldc2_w 152, 3, 31, 0), (.lload_n 1, 1, 0, 0), (.lmul, 1, 0, 0), (.aload_n 0, 1, 0, 0), (.getfield 7, 3, 3, 0), (.bipush 41, 2, 0, 0), (.bipush 6, 2, 0, 0), (.iload_n 3, 1, 0, 0), (.imul, 1, 0, 0), (.iadd, 1, 0, 0), (.iload 4, 2, 0, 0), (.iadd, 1, 0, 0), (.iaload, 1, 0, 0), (.i2l, 1, 0, 0), (.ladd, 1, 0, 0), (.lstore_n 1, 1, 0, 0), (.ldc2_w 152, 3, 31, 0), (.lload_n 1, 1, 0, 0), (.lmul, 1, 0, 0), (.aload_n 0, 1, 0, 0), (.iload_n 3, 1, 0, 0), (.iload 4, 2, 0, 0), (.invokevirtual 67, 3, 0, 0), (.i2l, 1, 0, 0), (.ladd, 1, 0, 0), (.lstore_n 1, 1, 0, 0), (.iinc 4 1, 3, 0, 0), (.goto (-74), 3, 48, 0)]),
  (125, [(.iinc 3 1, 3, 0, 0), (.goto (-95), 3, 33, 0)]),
  (131, [(.iconst 0, 1, 0, 0), (.istore_n 3, 1, 0, 0)]),
  (133, [(.iload_n 3, 1, 0, 0), (.aload_n 0, 1, 0, 0), (.getfield 7, 3, 3, 0), (.iconst 0, 1, 0, 0), (.iaload, 1, 0, 0), (.if_icmp .ge 85, 3, 225, 0), (.iconst 0, 1, 0, 0), (.istore 4, 2, 0, 0)]),
  (146, [(.iload 4, 2, 0, 0), (.aload_n 0, 1, 0, 0), (.getfield 7, 3, 3, 0), (.iconst 0, 1, 0, 0), (.iaload, 1, 0, 0), (.if_icmp .ge 65, 3, 219, 0), (.iload_n 3, 1, 0, 0), (.iload 4, 2, 0, 0), (.if_icmp .eq 53, 3, 213, 0), (.ldc2_w 152, 3, 31, 0), (.lload_n 1, 1, 0, 0), (.lmul, 1, 0, 0), (.aload_n 0, 1, 0, 0), (.getfield 7, 3, 3, 0), (.bipush 77, 2, 0, 0), (.bipush 6, 2, 0, 0), (.iload_n 3, 1, 0, 0), (.imul, 1, 0, 0), (.iadd, 1, 0, 0), (.iload 4, 2, 0, 0), (.iadd, 1, 0, 0), (.iaload, 1, 0, 0), (.i2l, 1, 0, 0), (.ladd, 1, 0, 0), (.lstore_n 1, 1, 0, 0), (.ldc2_w 152, 3, 31, 0), (.lload_n 1, 1, 0, 0), (.lmul, 1, 0, 0), (.aload_n 0, 1, 0, 0), (.getfield 7, 3, 3, 0), (.bipush 113, 2, 0, 0), (.iconst 5, 1, 0, 0), (.bipush 6, 2, 0, 0), (.iload_n 3, 1, 0, 0), (.imul, 1, 0, 0), (.iload 4, 2, 0, 0), (.iadd, 1, 0, 0), (.imul, 1, 0, 0), (.iadd, 1, 0, 0), (.iconst 4, 1, 0, 0), (.iadd, 1, 0, 0), (.iaload, 1, 0, 0), (.i2l, 1, 0, 0), (.ladd, 1, 0, 0), (.lstore_n 1, 1, 0, 0)]),
  (213, [(.iinc 4 1, 3, 0, 0), (.goto (-70), 3, 146, 0)]),
  (219, [(.iinc 3 1, 3, 0, 0), (.goto (-89), 3, 133, 0)]),
  (225, [(.iconst 0, 1, 0, 0), (.istore_n 3, 1, 0, 0)]),
  (227, [(.iload_n 3, 1, 0, 0), (.bipush 24, 2, 0, 0), (.if_icmp .ge 27, 3, 257, 0), (.ldc2_w 152, 3, 31, 0), (.lload_n 1, 1, 0, 0), (.lmul, 1, 0, 0), (.aload_n 0, 1, 0, 0), (.getfield 7, 3, 3, 0), (.sipush 293, 3, 0, 0), (.iload_n 3, 1, 0, 0), (.iadd, 1, 0, 0), (.iaload, 1, 0, 0), (.i2l, 1, 0, 0), (.ladd, 1, 0, 0), (.lstore_n 1, 1, 0, 0), (.iinc 3 1, 3, 0, 0), (.goto (-27), 3, 227, 0)]),
  (257, [(.iconst 0, 1, 0, 0), (.istore_n 3, 1, 0, 0)]),
  (259, [(.iload_n 3, 1, 0, 0), (.iconst 4, 1, 0, 0), (.aload_n 0, 1, 0, 0), (.getfield 7, 3, 3, 0), (.iconst 4, 1, 0, 0), (.iaload, 1, 0, 0), (.imul, 1, 0, 0), (.if_icmp .ge 27, 3, 295, 0), (.ldc2_w 152, 3, 31, 0), (.lload_n 1, 1, 0, 0), (.lmul, 1, 0, 0), (.aload_n 0, 1, 0, 0), (.getfield 7, 3, 3, 0), (.sipush 317, 3, 0, 0), (.iload_n 3, 1, 0, 0), (.iadd, 1, 0, 0), (.iaload, 1, 0, 0), (.i2l, 1, 0, 0), (.ladd, 1, 0, 0), (.lstore_n 1, 1, 0, 0), (.iinc 3 1, 3, 0, 0), (.goto (-33), 3, 259, 0)]),
  (295, [(.lload_n 1, 1, 0, 0), (.lreturn, 1, 0, 0)])]
def m_X3_digest : MB := (yX3_digest, cX3_digest, 5, (some .long), T_X3_digest)
theorem ok_X3_digest : mOk m_X3_digest := mOk.of (by decide +kernel)
theorem pl_X3_digest : plainFor m_X3_digest.1 = true := by decide +kernel
def T_J9_floorMod_7cf53 : List (Nat × List MEn) := [(0, [(.iload_n 0, 1, 0, 0), (.iload_n 1, 1, 0, 0), (.irem, 1, 0, 0), (.istore_n 2, 1, 0, 0), (.iload_n 0, 1, 0, 0), (.iload_n 1, 1, 0, 0), (.ixor, 1, 0, 0), (.ifCond .ge 11, 3, 18, 0), (.iload_n 2, 1, 0, 0), (.ifCond .eq 7, 3, 18, 0), (.iload_n 2, 1, 0, 0), (.iload_n 1, 1, 0, 0), (.iadd, 1, 0, 0), (.ireturn, 1, 0, 0)]),
  (18, [(.iload_n 2, 1, 0, 0), (.ireturn, 1, 0, 0)])]
def m_J9_floorMod_7cf53 : MB := (yJ9_floorMod_7cf53, cJ9_floorMod_7cf53, 3, (some .int), T_J9_floorMod_7cf53)
theorem ok_J9_floorMod_7cf53 : mOk m_J9_floorMod_7cf53 := mOk.of (by decide +kernel)
theorem pl_J9_floorMod_7cf53 : plainFor m_J9_floorMod_7cf53.1 = true := by decide +kernel
def T_J9_max_7cf53 : List (Nat × List MEn) := [(0, [(.iload_n 0, 1, 0, 0), (.iload_n 1, 1, 0, 0), (.if_icmp .lt 7, 3, 9, 0), (.iload_n 0, 1, 0, 0), (.goto 4, 3, 10, 0)]),
  (9, [(.iload_n 1, 1, 0, 0)]),
  (10, [(.ireturn, 1, 0, 0)])]
def m_J9_max_7cf53 : MB := (yJ9_max_7cf53, cJ9_max_7cf53, 2, (some .int), T_J9_max_7cf53)
theorem ok_J9_max_7cf53 : mOk m_J9_max_7cf53 := mOk.of (by decide +kernel)
theorem pl_J9_max_7cf53 : plainFor m_J9_max_7cf53.1 = true := by decide +kernel
def T_J9_min_7cf53 : List (Nat × List MEn) := [(0, [(.iload_n 0, 1, 0, 0), (.iload_n 1, 1, 0, 0), (.if_icmp .gt 7, 3, 9, 0), (.iload_n 0, 1, 0, 0), (.goto 4, 3, 10, 0)]),
  (9, [(.iload_n 1, 1, 0, 0)]),
  (10, [(.ireturn, 1, 0, 0)])]
def m_J9_min_7cf53 : MB := (yJ9_min_7cf53, cJ9_min_7cf53, 2, (some .int), T_J9_min_7cf53)
theorem ok_J9_min_7cf53 : mOk m_J9_min_7cf53 := mOk.of (by decide +kernel)
theorem pl_J9_min_7cf53 : plainFor m_J9_min_7cf53.1 = true := by decide +kernel
def T_L_law : List (Nat × List MEn) := [(16, [(.iconst 0, 1, 0, 0), (.istore_n 3, 1, 0, 0)]),
  (18, [(.iload_n 3, 1, 0, 0), (.aload_n 0, 1, 0, 0), (.arraylength, 1, 0, 0), (.iconst 5, 1, 0, 0), (.isub, 1, 0, 0), (.if_icmp .gt 807, 3, 830, 0), (.aload_n 0, 1, 0, 0), (.iload_n 3, 1, 0, 0), (.iaload, 1, 0, 0), (.bipush 31, 2, 0, 0), (.iand, 1, 0, 0), (.tableswitch 792 0 24 #[116, 139, 192, 225, 248, 281, 304, 347, 380, 423, 446, 479, 502, 525, 568, 591, 604, 637, 670, 693, 716, 729, 742, 755, 778], 116, 0, 0)]),
  (148, [(.aload_n 1, 1, 0, 0), (.aload_n 0, 1, 0, 0), (.iload_n 3, 1, 0, 0), (.iconst 1, 1, 0, 0), (.iadd, 1, 0, 0), (.iaload, 1, 0, 0), (.invokevirtual 13, 3, 0, 0), (.aload_n 2, 1, 0, 0), (.aload_n 0, 1, 0, 0), (.iload_n 3, 1, 0, 0), (.iconst 1, 1, 0, 0), (.iadd, 1, 0, 0), (.iaload, 1, 0, 0), (.invokevirtual 17, 3, 0, 0), (.if_icmp .eq 658, 3, 824, 0), (.iconst 0, 1, 0, 0), (.ireturn, 1, 0, 0)]),
  (171, [(.aload_n 1, 1, 0, 0), (.aload_n 0, 1, 0, 0), (.iload_n 3, 1, 0, 0), (.iconst 1, 1, 0, 0), (.iadd, 1, 0, 0), (.iaload, 1, 0, 0), (.aload_n 0, 1, 0, 0), (.iload_n 3, 1, 0, 0), (.iconst 2, 1, 0, 0), (.iadd, 1, 0, 0), (.iaload, 1, 0, 0), (.aload_n 0, 1, 0, 0), (.iload_n 3, 1, 0, 0), (.iconst 3, 1, 0, 0), (.iadd, 1, 0, 0), (.iaload, 1, 0, 0), (.aload_n 0, 1, 0, 0), (.iload_n 3, 1, 0, 0), (.iconst 4, 1, 0, 0), (.iadd, 1, 0, 0), (.iaload, 1, 0, 0), (.invokevirtual 18, 3, 0, 0), (.aload_n 2, 1, 0, 0), (.aload_n 0, 1, 0, 0), (.iload_n 3, 1, 0, 0), (.iconst 1, 1, 0, 0), (.iadd, 1, 0, 0), (.iaload, 1, 0, 0), (.aload_n 0, 1, 0, 0), (.iload_n 3, 1, 0, 0), (.iconst 2, 1, 0, 0), (.iadd, 1, 0, 0), (.iaload, 1, 0, 0), (.aload_n 0, 1, 0, 0), (.iload_n 3, 1, 0, 0), (.iconst 3, 1, 0, 0), (.iadd, 1, 0, 0), (.iaload, 1, 0, 0), (.aload_n 0, 1, 0, 0), (.iload_n 3, 1, 0, 0), (.iconst 4, 1, 0, 0), (.iadd, 1, 0, 0), (.iaload, 1, 0, 0), (.invokevirtual 22, 3, 0, 0), (.if_icmp .eq 605, 3, 824, 0), (.iconst 0, 1, 0, 0), (.ireturn, 1, 0, 0)]),
  (224, [(.aload_n 1, 1, 0, 0), (.aload_n 0, 1, 0, 0), (.iload_n 3, 1, 0, 0), (.iconst 1, 1, 0, 0), (.iadd, 1, 0, 0), (.iaload, 1, 0, 0), (.aload_n 0, 1, 0, 0), (.iload_n 3, 1, 0, 0), (.iconst 2, 1, 0, 0), (.iadd, 1, 0, 0), (.iaload, 1, 0, 0), (.invokevirtual 23, 3, 0, 0), (.aload_n 2, 1, 0, 0), (.aload_n 0, 1, 0, 0), (.iload_n 3, 1, 0, 0), (.iconst 1, 1, 0, 0), (.iadd, 1, 0, 0), (.iaload, 1, 0, 0), (.aload_n 0, 1, 0, 0), (.iload_n 3, 1, 0, 0), (.iconst 2, 1, 0, 0), (.iadd, 1, 0, 0), (.iaload, 1, 0, 0), (.invokevirtual 27, 3, 0, 0), (.if_icmp .eq 572, 3, 824, 0), (.iconst 0, 1, 0, 0), (.ireturn, 1, 0, 0)]),
  (257, [(.aload_n 1, 1, 0, 0), (.aload_n 0, 1, 0, 0), (.iload_n 3, 1, 0, 0), (.iconst 1, 1, 0, 0), (.iadd, 1, 0, 0), (.iaload, 1, 0, 0), (.invokevirtual 28, 3, 0, 0), (.aload_n 2, 1, 0, 0), (.aload_n 0, 1, 0, 0), (.iload_n 3, 1, 0, 0), (.iconst 1, 1, 0, 0), (.iadd, 1, 0, 0), (.iaload, 1, 0, 0), (.invokevirtual 31, 3, 0, 0), (.if_icmp .eq 549, 3, 824, 0), (.iconst 0, 1, 0, 0), (.ireturn, 1, 0, 0)]),
  (280, [(.aload_n 1, 1, 0, 0), (.aload_n 0, 1, 0, 0), (.iload_n 3, 1, 0, 0), (.iconst 1, 1, 0, 0), (.iadd, 1, 0, 0), (.iaload, 1, 0, 0), (.aload_n 0, 1, 0, 0), (.iload_n 3, 1, 0, 0), (.iconst 2, 1, 0, 0), (.iadd, 1, 0, 0), (.iaload, 1, 0, 0), (.invokevirtual 32, 3, 0, 0), (.aload_n 2, 1, 0, 0), (.aload_n 0, 1, 0, 0), (.iload_n 3, 1, 0, 0), (.iconst 1, 1, 0, 0), (.iadd, 1, 0, 0), (.iaload, 1, 0, 0), (.aload_n 0, 1, 0, 0), (.iload_n 3, 1, 0, 0), (.iconst 2, 1, 0, 0), (.iadd, 1, 0, 0), (.iaload, 1, 0, 0), (.invokevirtual 35, 3, 0, 0), (.if_icmp .eq 516, 3, 824, 0), (.iconst 0, 1, 0, 0), (.ireturn, 1, 0, 0)]),
  (313, [(.aload_n 1, 1, 0, 0), (.aload_n 0, 1, 0, 0), (.iload_n 3, 1, 0, 0), (.iconst 1, 1, 0, 0), (.iadd, 1, 0, 0), (.iaload, 1, 0, 0), (.invokevirtual 36, 3, 0, 0), (.aload_n 2, 1, 0, 0), (.aload_n 0, 1, 0, 0), (.iload_n 3, 1, 0, 0), (.iconst 1, 1, 0, 0), (.iadd, 1, 0, 0), (.iaload, 1, 0, 0), (.invokevirtual 39, 3, 0, 0), (.if_icmp .eq 493, 3, 824, 0), (.iconst 0, 1, 0, 0), (.ireturn, 1, 0, 0)]),
  (336, [(.aload_n 1, 1, 0, 0), (.aload_n 0, 1, 0, 0), (.iload_n 3, 1, 0, 0), (.iconst 1, 1, 0, 0), (.iadd, 1, 0, 0), (.iaload, 1, 0, 0), (.aload_n 0, 1, 0, 0), (.iload_n 3, 1, 0, 0), (.iconst 2, 1, 0, 0), (.iadd, 1, 0, 0), (.iaload, 1, 0, 0), (.aload_n 0, 1, 0, 0), (.iload_n 3, 1, 0, 0), (.iconst 3, 1, 0, 0), (.iadd, 1, 0, 0), (.iaload, 1, 0, 0), (.invokevirtual 40, 3, 0, 0), (.aload_n 2, 1, 0, 0), (.aload_n 0, 1, 0, 0), (.iload_n 3, 1, 0, 0), (.iconst 1, 1, 0, 0), (.iadd, 1, 0, 0), (.iaload, 1, 0, 0), (.aload_n 0, 1, 0, 0), (.iload_n 3, 1, 0, 0), (.iconst 2, 1, 0, 0), (.iadd, 1, 0, 0), (.iaload, 1, 0, 0), (.aload_n 0, 1, 0, 0), (.iload_n 3, 1, 0, 0), (.iconst 3, 1, 0, 0), (.iadd, 1, 0, 0), (.iaload, 1, 0, 0), (.invokevirtual 44, 3, 0, 0), (.if_icmp .eq 450, 3, 824, 0), (.iconst 0, 1, 0, 0), (.ireturn, 1, 0, 0)]),
  (379, [(.aload_n 1, 1, 0, 0), (.aload_n 0, 1, 0, 0), (.iload_n 3, 1, 0, 0), (.iconst 1, 1, 0, 0), (.iadd, 1, 0, 0), (.iaload, 1, 0, 0), (.aload_n 0, 1, 0, 0), (.iload_n 3, 1, 0, 0), (.iconst 2, 1, 0, 0), (.iadd, 1, 0, 0), (.iaload, 1, 0, 0), (.invokevirtual 45, 3, 0, 0), (.aload_n 2, 1, 0, 0), (.aload_n 0, 1, 0, 0), (.iload_n 3, 1, 0, 0), (.iconst 1, 1, 0, 0), (.iadd, 1, 0, 0), (.iaload, 1, 0, 0), (.aload_n 0, 1, 0, 0), (.iload_n 3, 1, 0, 0), (.iconst 2, 1, 0, 0), (.iadd, 1, 0, 0), (.iaload, 1, 0, 0), (.invokevirtual 48, 3, 0, 0), (.if_icmp .eq 417, 3, 824, 0), (.iconst 0, 1, 0, 0), (.ireturn, 1, 0, 0)]),
  (412, [(.aload_n 1, 1, 0, 0), (.aload_n 0, 1, 0, 0), (.iload_n 3, 1, 0, 0), (.iconst 1, 1, 0, 0), (.iadd, 1, 0, 0), (.iaload, 1, 0, 0), (.aload_n 0, 1, 0, 0), (.iload_n 3, 1, 0, 0), (.iconst 2, 1, 0, 0), (.iadd, 1, 0, 0), (.iaload, 1, 0, 0), (.aload_n 0, 1, 0, 0), (.iload_n 3, 1, 0, 0), (.iconst 3, 1, 0, 0), (.iadd, 1, 0, 0), (.iaload, 1, 0, 0), (.invokevirtual 49, 3, 0, 0), (.aload_n 2, 1, 0, 0), (.aload_n 0, 1, 0, 0), (.iload_n 3, 1, 0, 0), (.iconst 1, 1, 0, 0), (.iadd, 1, 0, 0), (.iaload, 1, 0, 0), (.aload_n 0, 1, 0, 0), (.iload_n 3, 1, 0, 0), (.iconst 2, 1, 0, 0), (.iadd, 1, 0, 0), (.iaload, 1, 0, 0), (.aload_n 0, 1, 0, 0), (.iload_n 3, 1, 0, 0), (.iconst 3, 1, 0, 0), (.iadd, 1, 0, 0), (.iaload, 1, 0, 0), (.invokevirtual 52, 3, 0, 0), (.if_icmp .eq 374, 3, 824, 0), (.iconst 0, 1, 0, 0), (.ireturn, 1, 0, 0)]),
  (455, [(.aload_n 1, 1, 0, 0), (.aload_n 0, 1, 0, 0), (.iload_n 3, 1, 0, 0), (.iconst 1, 1, 0, 0), (.iadd, 1, 0, 0), (.iaload, 1, 0, 0), (.invokevirtual 53, 3, 0, 0), (.aload_n 2, 1, 0, 0), (.aload_n 0, 1, 0, 0), (.iload_n 3, 1, 0, 0), (.iconst 1, 1, 0, 0), (.iadd, 1, 0, 0), (.iaload, 1, 0, 0), (.invokevirtual 56, 3, 0, 0), (.if_icmp .eq 351, 3, 824, 0), (.iconst 0, 1, 0, 0), (.ireturn, 1, 0, 0)]),
  (478, [(.aload_n 1, 1, 0, 0), (.aload_n 0, 1, 0, 0), (.iload_n 3, 1, 0, 0), (.iconst 1, 1, 0, 0), (.iadd, 1, 0, 0), (.iaload, 1, 0, 0), (.aload_n 0, 1, 0, 0), (.iload_n 3, 1, 0, 0), (.iconst 2, 1, 0, 0), (.iadd, 1, 0, 0), (.iaload, 1, 0, 0), (.invokevirtual 57, 3, 0, 0), (.aload_n 2, 1, 0, 0), (.aload_n 0, 1, 0, 0), (.iload_n 3, 1, 0, 0), (.iconst 1, 1, 0, 0), (.iadd, 1, 0, 0), (.iaload, 1, 0, 0), (.aload_n 0, 1, 0, 0), (.iload_n 3, 1, 0, 0), (.iconst 2, 1, 0, 0), (.iadd, 1, 0, 0), (.iaload, 1, 0, 0), (.invokevirtual 60, 3, 0, 0), (.if_icmp .eq 318, 3, 824, 0), (.iconst 0, 1, 0, 0), (.ireturn, 1, 0, 0)]),
  (511, [(.aload_n 1, 1, 0, 0), (.aload_n 0, 1, 0, 0), (.iload_n 3, 1, 0, 0), (.iconst 1, 1, 0, 0), (.iadd, 1, 0, 0), (.iaload, 1, 0, 0), (.invokevirtual 61, 3, 0, 0), (.aload_n 2, 1, 0, 0), (.aload_n 0, 1, 0, 0), (.iload_n 3, 1, 0, 0), (.iconst 1, 1, 0, 0), (.iadd, 1, 0, 0), (.iaload, 1, 0, 0), (.invokevirtual 64, 3, 0, 0), (.if_icmp .eq 295, 3, 824, 0), (.iconst 0, 1, 0, 0), (.ireturn, 1, 0, 0)]),
  (534, [(.aload_n 1, 1, 0, 0), (.aload_n 0, 1, 0, 0), (.iload_n 3, 1, 0, 0), (.iconst 1, 1, 0, 0), (.iadd, 1, 0, 0), (.iaload, 1, 0, 0), (.invokevirtual 65, 3, 0, 0), (.aload_n 2, 1, 0, 0), (.aload_n 0, 1, 0, 0), (.iload_n 3, 1, 0, 0), (.iconst 1, 1, 0, 0), (.iadd, 1, 0, 0), (.iaload, 1, 0, 0), (.invokevirtual 68, 3, 0, 0), (.if_icmp .eq 272, 3, 824, 0), (.iconst 0, 1, 0, 0), (.ireturn, 1, 0, 0)]),
  (557, [(.aload_n 1, 1, 0, 0), (.aload_n 0, 1, 0, 0), (.iload_n 3, 1, 0, 0), (.iconst 1, 1, 0, 0), (.iadd, 1, 0, 0), (.iaload, 1, 0, 0), (.aload_n 0, 1, 0, 0), (.iload_n 3, 1, 0, 0), (.iconst 2, 1, 0, 0), (.iadd, 1, 0, 0), (.iaload, 1, 0, 0), (.aload_n 0, 1, 0, 0), (.iload_n 3, 1, 0, 0), (.iconst 3, 1, 0, 0), (.iadd, 1, 0, 0), (.iaload, 1, 0, 0), (.invokevirtual 69, 3, 0, 0), (.aload_n 2, 1, 0, 0), (.aload_n 0, 1, 0, 0), (.iload_n 3, 1, 0, 0), (.iconst 1, 1, 0, 0), (.iadd, 1, 0, 0), (.iaload, 1, 0, 0), (.aload_n 0, 1, 0, 0), (.iload_n 3, 1, 0, 0), (.iconst 2, 1, 0, 0), (.iadd, 1, 0, 0), (.iaload, 1, 0, 0), (.aload_n 0, 1, 0, 0), (.iload_n 3, 1, 0, 0), (.iconst 3, 1, 0, 0), (.iadd, 1, 0, 0), (.iaload, 1, 0, 0), (.invokevirtual 72, 3, 0, 0), (.if_icmp .eq 229, 3, 824, 0), (.iconst 0, 1, 0, 0), (.ireturn, 1, 0, 0)]),
  (600, [(.aload_n 1, 1, 0, 0), (.aload_n 0, 1, 0, 0), (.iload_n 3, 1, 0, 0), (.iconst 1, 1, 0, 0), (.iadd, 1, 0, 0), (.iaload, 1, 0, 0), (.invokevirtual 73, 3, 0, 0), (.aload_n 2, 1, 0, 0), (.aload_n 0, 1, 0, 0), (.iload_n 3, 1, 0, 0), (.iconst 1, 1, 0, 0), (.iadd, 1, 0, 0), (.iaload, 1, 0, 0), (.invokevirtual 76, 3, 0, 0), (.if_icmp .eq 206, 3, 824, 0), (.iconst 0, 1, 0, 0), (.ireturn, 1, 0, 0)]),
  (623, [(.aload_n 1, 1, 0, 0), (.invokevirtual 77, 3, 0, 0), (.aload_n 2, 1, 0, 0), (.invokevirtual 81, 3, 0, 0), (.if_icmp .eq 193, 3, 824, 0), (.iconst 0, 1, 0, 0), (.ireturn, 1, 0, 0)]),
  (636, [(.aload_n 1, 1, 0, 0), (.aload_n 0, 1, 0, 0), (.iload_n 3, 1, 0, 0), (.iconst 1, 1, 0, 0), (.iadd, 1, 0, 0), (.iaload, 1, 0, 0), (.aload_n 0, 1, 0, 0), (.iload_n 3, 1, 0, 0), (.iconst 2, 1, 0, 0), (.iadd, 1, 0, 0), (.iaload, 1, 0, 0), (.invokevirtual 82, 3, 0, 0), (.aload_n 2, 1, 0, 0), (.aload_n 0, 1, 0, 0), (.iload_n 3, 1, 0, 0), (.iconst 1, 1, 0, 0), (.iadd, 1, 0, 0), (.iaload, 1, 0, 0), (.aload_n 0, 1, 0, 0), (.iload_n 3, 1, 0, 0), (.iconst 2, 1, 0, 0), (.iadd, 1, 0, 0), (.iaload, 1, 0, 0), (.invokevirtual 85, 3, 0, 0), (.if_icmp .eq 160, 3, 824, 0), (.iconst 0, 1, 0, 0), (.ireturn, 1, 0, 0)]),
  (669, [(.aload_n 1, 1, 0, 0), (.aload_n 0, 1, 0, 0), (.iload_n 3, 1, 0, 0), (.iconst 1, 1, 0, 0), (.iadd, 1, 0, 0), (.iaload, 1, 0, 0), (.aload_n 0, 1, 0, 0), (.iload_n 3, 1, 0, 0), (.iconst 2, 1, 0, 0), (.iadd, 1, 0, 0), (.iaload, 1, 0, 0), (.invokevirtual 86, 3, 0, 0), (.aload_n 2, 1, 0, 0), (.aload_n 0, 1, 0, 0), (.iload_n 3, 1, 0, 0), (.iconst 1, 1, 0, 0), (.iadd, 1, 0, 0), (.iaload, 1, 0, 0), (.aload_n 0, 1, 0, 0), (.iload_n 3, 1, 0, 0), (.iconst 2, 1, 0, 0), (.iadd, 1, 0, 0), (.iaload, 1, 0, 0), (.invokevirtual 89, 3, 0, 0), (.if_icmp .eq 127, 3, 824, 0), (.iconst 0, 1, 0, 0), (.ireturn, 1, 0, 0)]),
  (702, [(.aload_n 1, 1, 0, 0), (.aload_n 0, 1, 0, 0), (.iload_n 3, 1, 0, 0), (.iconst 1, 1, 0, 0), (.iadd, 1, 0, 0), (.iaload, 1, 0, 0), (.invokevirtual 90, 3, 0, 0), (.aload_n 2, 1, 0, 0), (.aload_n 0, 1, 0, 0), (.iload_n 3, 1, 0, 0), (.iconst 1, 1, 0, 0), (.iadd, 1, 0, 0), (.iaload, 1, 0, 0), (.invokevirtual 93, 3, 0, 0), (.if_icmp .eq 104, 3, 824, 0), (.iconst 0, 1, 0, 0), (.ireturn, 1, 0, 0)]),
  (725, [(.aload_n 1, 1, 0, 0), (.aload_n 0, 1, 0, 0), (.iload_n 3, 1, 0, 0), (.iconst 1, 1, 0, 0), (.iadd, 1, 0, 0), (.iaload, 1, 0, 0), (.invokevirtual 94, 3, 0, 0), (.aload_n 2, 1, 0, 0), (.aload_n 0, 1, 0, 0), (.iload_n 3, 1, 0, 0), (.iconst 1, 1, 0, 0), (.iadd, 1, 0, 0), (.iaload, 1, 0, 0), (.invokevirtual 97, 3, 0, 0), (.if_icmp .eq 81, 3, 824, 0), (.iconst 0, 1, 0, 0), (.ireturn, 1, 0, 0)]),
  (748, [(.aload_n 1, 1, 0, 0), (.invokevirtual 98, 3, 0, 0), (.aload_n 2, 1, 0, 0), (.invokevirtual 101, 3, 0, 0), (.if_icmp .eq 68, 3, 824, 0), (.iconst 0, 1, 0, 0), (.ireturn, 1, 0, 0)]),
  (761, [(.aload_n 1, 1, 0, 0), (.invokevirtual 102, 3, 0, 0), (.aload_n 2, 1, 0, 0), (.invokevirtual 105, 3, 0, 0), (.if_icmp .eq 55, 3, 824, 0), (.iconst 0, 1, 0, 0), (.ireturn, 1, 0, 0)]),
  (774, [(.aload_n 1, 1, 0, 0), (.invokevirtual 106, 3, 0, 0), (.aload_n 2, 1, 0, 0), (.invokevirtual 109, 3, 0, 0), (.if_icmp .eq 42, 3, 824, 0), (.iconst 0, 1, 0, 0), (.ireturn, 1, 0, 0)]),
  (787, [(.aload_n 1, 1, 0, 0), (.aload_n 0, 1, 0, 0), (.iload_n 3, 1, 0, 0), (.iconst 1, 1, 0, 0), (.iadd, 1, 0, 0), (.iaload, 1, 0, 0), (.invokevirtual 110, 3, 0, 0), (.aload_n 2, 1, 0, 0), (.aload_n 0, 1, 0, 0), (.iload_n 3, 1, 0, 0), (.iconst 1, 1, 0, 0), (.iadd, 1, 0, 0), (.iaload, 1, 0, 0), (.invokevirtual 113, 3, 0, 0), (.if_icmp .eq 19, 3, 824, 0), (.iconst 0, 1, 0, 0), (.ireturn, 1, 0, 0)]),
  (810, [(.aload_n 1, 1, 0, 0), (.invokevirtual 114, 3, 0, 0), (.aload_n 2, 1, 0, 0), (.invokevirtual 118, 3, 0, 0), (.lcmp, 1, 0, 0), (.ifCond .eq 5, 3, 824, 0), (.iconst 0, 1, 0, 0), (.ireturn, 1, 0, 0)]),
  (824, [(.iinc 3 5, 3, 0, 0), (.goto (-809), 3, 18, 0)]),
  (830, [(.iconst 1, 1, 0, 0), (.ireturn, 1, 0, 0)])]
def m_L_law : MB := (x, code, 4, (some .boolean), T_L_law)
theorem ok_L_law : mOk m_L_law := mOk.of (by decide +kernel)
theorem pl_L_law : plainFor m_L_law.1 = true := by decide +kernel
theorem lk_X2_30 : mLkS RX2 30 3 m_X2_within := mLkS.of 195 196 45 197 (by decide +kernel) (by decide +kernel) (by decide +kernel) (by decide +kernel) (by decide +kernel) rfl
theorem lk_X2_34 : mLkV RX2 34 1 m_X2_refuse := mLkV.of 198 200 0 45 201 (by decide +kernel) (by decide +kernel) (by decide +kernel) (by decide +kernel) (by decide +kernel) (by decide +kernel) rfl
theorem lk_X2_38 : mLkV RX2 38 0 m_X2_keepState := mLkV.of 202 204 1 45 205 (by decide +kernel) (by decide +kernel) (by decide +kernel) (by decide +kernel) (by decide +kernel) (by decide +kernel) rfl
theorem lk_X2_45 : mLkV RX2 45 1 m_X0_begin := mLkV.of 213 66 67 46 68 (by decide +kernel) (by decide +kernel) (by decide +kernel) (by decide +kernel) (by decide +kernel) (by decide +kernel) rfl
theorem lk_X2_49 : mLkV RX2 49 2 m_X2_isPair := mLkV.of 218 220 2 45 221 (by decide +kernel) (by decide +kernel) (by decide +kernel) (by decide +kernel) (by decide +kernel) (by decide +kernel) rfl
theorem lk_X2_60 : mLkS RX2 60 2 m_X0_linkCell := mLkS.of 222 223 46 224 (by decide +kernel) (by decide +kernel) (by decide +kernel) (by decide +kernel) (by decide +kernel) rfl
theorem lk_X2_64 : mLkS RX2 64 2 m_X0_fill := mLkS.of 229 70 46 71 (by decide +kernel) (by decide +kernel) (by decide +kernel) (by decide +kernel) (by decide +kernel) rfl
theorem lk_X2_78 : mLkV RX2 78 1 m_X0_freeWires := mLkV.of 247 248 249 46 250 (by decide +kernel) (by decide +kernel) (by decide +kernel) (by decide +kernel) (by decide +kernel) (by decide +kernel) rfl
theorem lk_X2_81 : mLkV RX2 81 1 m_X0_callsOverLink := mLkV.of 251 252 253 46 254 (by decide +kernel) (by decide +kernel) (by decide +kernel) (by decide +kernel) (by decide +kernel) (by decide +kernel) rfl
theorem lk_X2_87 : mLkS RX2 87 2 m_X0_pairCell := mLkS.of 260 73 46 74 (by decide +kernel) (by decide +kernel) (by decide +kernel) (by decide +kernel) (by decide +kernel) rfl
theorem lk_X2_93 : mLkV RX2 93 3 m_X0_ask := mLkV.of 265 266 267 46 268 (by decide +kernel) (by decide +kernel) (by decide +kernel) (by decide +kernel) (by decide +kernel) (by decide +kernel) rfl
theorem lk_X2_97 : mLkV RX2 97 1 m_X0_passHours := mLkV.of 312 313 314 46 315 (by decide +kernel) (by decide +kernel) (by decide +kernel) (by decide +kernel) (by decide +kernel) (by decide +kernel) rfl
theorem lk_X2_103 : mLkV RX2 103 1 m_X0_endCall := mLkV.of 340 341 342 46 343 (by decide +kernel) (by decide +kernel) (by decide +kernel) (by decide +kernel) (by decide +kernel) (by decide +kernel) rfl
theorem lk_X2_112 : mLkV RX2 112 0 m_X0_mostRefusedPair := mLkV.of 356 357 358 46 359 (by decide +kernel) (by decide +kernel) (by decide +kernel) (by decide +kernel) (by decide +kernel) (by decide +kernel) rfl
theorem lk_X2_116 : mLkV RX2 116 0 m_X0_scarcestLink := mLkV.of 364 365 366 46 367 (by decide +kernel) (by decide +kernel) (by decide +kernel) (by decide +kernel) (by decide +kernel) (by decide +kernel) rfl
theorem lk_X2_119 : mLkV RX2 119 1 m_X0_refusedAt := mLkV.of 368 361 362 46 363 (by decide +kernel) (by decide +kernel) (by decide +kernel) (by decide +kernel) (by decide +kernel) (by decide +kernel) rfl
theorem lk_X2_122 : mLkV RX2 122 0 m_X0_wiresHeld := mLkV.of 373 374 375 46 376 (by decide +kernel) (by decide +kernel) (by decide +kernel) (by decide +kernel) (by decide +kernel) (by decide +kernel) rfl
theorem lk_X2_126 : mLkV RX2 126 3 m_X2_refusedWith := mLkV.of 382 384 12 45 385 (by decide +kernel) (by decide +kernel) (by decide +kernel) (by decide +kernel) (by decide +kernel) (by decide +kernel) rfl
theorem lk_X2_129 : mLkV RX2 129 2 m_X0_wayNow := mLkV.of 394 274 275 46 276 (by decide +kernel) (by decide +kernel) (by decide +kernel) (by decide +kernel) (by decide +kernel) (by decide +kernel) rfl
theorem lk_X2_132 : mLkV RX2 132 2 m_X0_hasAnyWay := mLkV.of 395 396 397 46 398 (by decide +kernel) (by decide +kernel) (by decide +kernel) (by decide +kernel) (by decide +kernel) (by decide +kernel) rfl
theorem lk_X2_135 : mLkV RX2 135 1 m_X1_append := mLkV.of 403 404 405 47 406 (by decide +kernel) (by decide +kernel) (by decide +kernel) (by decide +kernel) (by decide +kernel) (by decide +kernel) rfl
theorem lk_X2_142 : mLkV RX2 142 1 m_X1_read := mLkV.of 415 416 417 47 418 (by decide +kernel) (by decide +kernel) (by decide +kernel) (by decide +kernel) (by decide +kernel) (by decide +kernel) rfl
theorem lk_X2_151 : mLkV RX2 151 2 m_X0_doOrder := mLkV.of 450 451 452 46 453 (by decide +kernel) (by decide +kernel) (by decide +kernel) (by decide +kernel) (by decide +kernel) (by decide +kernel) rfl
theorem lk_X2_161 : mLkV RX2 161 1 m_X0_copyFrom := mLkV.of 206 207 208 46 209 (by decide +kernel) (by decide +kernel) (by decide +kernel) (by decide +kernel) (by decide +kernel) (by decide +kernel) rfl
theorem lk_X2_181 : mLkV RX2 181 1 m_X2_told := mLkV.of 469 460 461 45 462 (by decide +kernel) (by decide +kernel) (by decide +kernel) (by decide +kernel) (by decide +kernel) (by decide +kernel) rfl
theorem lk_X2_184 : mLkV RX2 184 1 m_X0_mixLinks := mLkV.of 470 471 472 46 473 (by decide +kernel) (by decide +kernel) (by decide +kernel) (by decide +kernel) (by decide +kernel) (by decide +kernel) rfl
theorem lk_X2_188 : mLkV RX2 188 1 m_X0_mixPairs := mLkV.of 475 476 477 46 478 (by decide +kernel) (by decide +kernel) (by decide +kernel) (by decide +kernel) (by decide +kernel) (by decide +kernel) rfl
theorem lk_X2_191 : mLkV RX2 191 1 m_X0_mixLoadsAndCalls := mLkV.of 479 480 481 46 482 (by decide +kernel) (by decide +kernel) (by decide +kernel) (by decide +kernel) (by decide +kernel) (by decide +kernel) rfl
theorem lk_X0_56 : mLkS RX0 56 2 m_X0_fill := mLkS.of 69 70 46 71 (by decide +kernel) (by decide +kernel) (by decide +kernel) (by decide +kernel) (by decide +kernel) rfl
theorem lk_X0_60 : mLkS RX0 60 2 m_X0_pairCell := mLkS.of 72 73 46 74 (by decide +kernel) (by decide +kernel) (by decide +kernel) (by decide +kernel) (by decide +kernel) rfl
theorem lk_X0_64 : mLkS RX0 64 2 m_X0_leastOther := mLkS.of 75 76 46 77 (by decide +kernel) (by decide +kernel) (by decide +kernel) (by decide +kernel) (by decide +kernel) rfl
theorem lk_X0_67 : mLkC RX0 67 := ⟨m_at (i := 210) (by decide +kernel) rfl, m_at (i := 212) (by decide +kernel) rfl, m_at (i := 211) (by decide +kernel) rfl, m_at (i := 49) (by decide +kernel) rfl⟩
theorem lk_X0_73 : mLkS RX0 73 2 m_X0_linkCell := mLkS.of 255 223 46 224 (by decide +kernel) (by decide +kernel) (by decide +kernel) (by decide +kernel) (by decide +kernel) rfl
theorem lk_X0_76 : mLkV RX0 76 1 m_X0_freeWires := mLkV.of 277 248 249 46 250 (by decide +kernel) (by decide +kernel) (by decide +kernel) (by decide +kernel) (by decide +kernel) (by decide +kernel) rfl
theorem lk_X0_80 : mLkV RX0 80 1 m_X0_servesOver := mLkV.of 278 280 4 46 281 (by decide +kernel) (by decide +kernel) (by decide +kernel) (by decide +kernel) (by decide +kernel) (by decide +kernel) rfl
theorem lk_X0_84 : mLkV RX0 84 2 m_X0_count := mLkV.of 269 271 3 46 272 (by decide +kernel) (by decide +kernel) (by decide +kernel) (by decide +kernel) (by decide +kernel) (by decide +kernel) rfl
theorem lk_X0_88 : mLkV RX0 88 2 m_X0_wayNow := mLkV.of 273 274 275 46 276 (by decide +kernel) (by decide +kernel) (by decide +kernel) (by decide +kernel) (by decide +kernel) (by decide +kernel) rfl
theorem lk_X0_91 : mLkV RX0 91 2 m_X0_redraw := mLkV.of 282 284 5 46 285 (by decide +kernel) (by decide +kernel) (by decide +kernel) (by decide +kernel) (by decide +kernel) (by decide +kernel) rfl
theorem lk_X0_94 : mLkV RX0 94 4 m_X0_addCall := mLkV.of 300 302 7 46 303 (by decide +kernel) (by decide +kernel) (by decide +kernel) (by decide +kernel) (by decide +kernel) (by decide +kernel) rfl
theorem lk_X0_98 : mLkV RX0 98 2 m_X0_hold := mLkV.of 304 306 8 46 307 (by decide +kernel) (by decide +kernel) (by decide +kernel) (by decide +kernel) (by decide +kernel) (by decide +kernel) rfl
theorem lk_X0_107 : mLkV RX0 107 0 m_X0_advanceX := mLkV.of 286 288 6 46 289 (by decide +kernel) (by decide +kernel) (by decide +kernel) (by decide +kernel) (by decide +kernel) (by decide +kernel) rfl
theorem lk_X0_111 : mLkS RX0 111 2 m_J9_min_7cf53 := mLkS.of 294 295 50 296 (by decide +kernel) (by decide +kernel) (by decide +kernel) (by decide +kernel) (by decide +kernel) rfl
theorem lk_X0_116 : mLkS RX0 116 2 m_J9_max_7cf53 := mLkS.of 297 298 50 299 (by decide +kernel) (by decide +kernel) (by decide +kernel) (by decide +kernel) (by decide +kernel) rfl
theorem lk_X0_119 : mLkV RX0 119 0 m_X0_endHour := mLkV.of 316 318 9 46 319 (by decide +kernel) (by decide +kernel) (by decide +kernel) (by decide +kernel) (by decide +kernel) (by decide +kernel) rfl
theorem lk_X0_123 : mLkS RX0 123 2 m_J9_floorMod_7cf53 := mLkS.of 324 325 50 326 (by decide +kernel) (by decide +kernel) (by decide +kernel) (by decide +kernel) (by decide +kernel) rfl
theorem lk_X0_126 : mLkV RX0 126 0 m_X0_askByPlan := mLkV.of 327 329 11 46 330 (by decide +kernel) (by decide +kernel) (by decide +kernel) (by decide +kernel) (by decide +kernel) (by decide +kernel) rfl
theorem lk_X0_129 : mLkV RX0 129 2 m_X0_moveCall := mLkV.of 320 322 10 46 323 (by decide +kernel) (by decide +kernel) (by decide +kernel) (by decide +kernel) (by decide +kernel) (by decide +kernel) rfl
theorem lk_X0_132 : mLkV RX0 132 3 m_X0_ask := mLkV.of 331 266 267 46 268 (by decide +kernel) (by decide +kernel) (by decide +kernel) (by decide +kernel) (by decide +kernel) (by decide +kernel) rfl
theorem lk_X0_138 : mLkV RX0 138 1 m_X0_passHours := mLkV.of 454 313 314 46 315 (by decide +kernel) (by decide +kernel) (by decide +kernel) (by decide +kernel) (by decide +kernel) (by decide +kernel) rfl
theorem lk_X0_141 : mLkV RX0 141 1 m_X0_refusedAt := mLkV.of 360 361 362 46 363 (by decide +kernel) (by decide +kernel) (by decide +kernel) (by decide +kernel) (by decide +kernel) (by decide +kernel) rfl
theorem lk_X1_34 : mLkV RX1 34 0 m_X1_skipBlanks := mLkV.of 419 421 13 47 422 (by decide +kernel) (by decide +kernel) (by decide +kernel) (by decide +kernel) (by decide +kernel) (by decide +kernel) rfl
theorem lk_X1_37 : mLkV RX1 37 1 m_X1_readOrder := mLkV.of 423 425 14 47 426 (by decide +kernel) (by decide +kernel) (by decide +kernel) (by decide +kernel) (by decide +kernel) (by decide +kernel) rfl
theorem lk_X1_41 : mLkV RX1 41 0 m_X1_readKind := mLkV.of 427 429 15 47 430 (by decide +kernel) (by decide +kernel) (by decide +kernel) (by decide +kernel) (by decide +kernel) (by decide +kernel) rfl
theorem lk_X1_45 : mLkV RX1 45 1 m_X1_readTown := mLkV.of 434 436 16 47 437 (by decide +kernel) (by decide +kernel) (by decide +kernel) (by decide +kernel) (by decide +kernel) (by decide +kernel) rfl
theorem lk_X1_51 : mLkV RX1 51 2 m_X1_readNumber := mLkV.of 442 444 18 47 445 (by decide +kernel) (by decide +kernel) (by decide +kernel) (by decide +kernel) (by decide +kernel) (by decide +kernel) rfl
theorem lk_X1_55 : mLkV RX1 55 1 m_X1_readFigure := mLkV.of 438 440 17 47 441 (by decide +kernel) (by decide +kernel) (by decide +kernel) (by decide +kernel) (by decide +kernel) (by decide +kernel) rfl
theorem lk_X1_58 : mLkV RX1 58 0 m_X1_readEnd := mLkV.of 446 448 19 47 449 (by decide +kernel) (by decide +kernel) (by decide +kernel) (by decide +kernel) (by decide +kernel) (by decide +kernel) rfl
theorem lk_X1_61 : mLkS RX1 61 1 m_X1_isFigure := mLkS.of 431 432 47 433 (by decide +kernel) (by decide +kernel) (by decide +kernel) (by decide +kernel) (by decide +kernel) rfl
theorem lk_L_13 : mLkV RL 13 1 m_X2_towns := mLkV.of 191 192 193 45 194 (by decide +kernel) (by decide +kernel) (by decide +kernel) (by decide +kernel) (by decide +kernel) (by decide +kernel) rfl
theorem lk_L_17 : mLkV RL 17 1 m_X3_towns := mLkV.of 533 534 535 48 536 (by decide +kernel) (by decide +kernel) (by decide +kernel) (by decide +kernel) (by decide +kernel) (by decide +kernel) rfl
theorem lk_L_18 : mLkV RL 18 4 m_X2_link := mLkV.of 214 215 216 45 217 (by decide +kernel) (by decide +kernel) (by decide +kernel) (by decide +kernel) (by decide +kernel) (by decide +kernel) rfl
theorem lk_L_22 : mLkV RL 22 4 m_X3_link := mLkV.of 548 549 550 48 551 (by decide +kernel) (by decide +kernel) (by decide +kernel) (by decide +kernel) (by decide +kernel) (by decide +kernel) rfl
theorem lk_L_23 : mLkV RL 23 2 m_X2_links := mLkV.of 225 226 227 45 228 (by decide +kernel) (by decide +kernel) (by decide +kernel) (by decide +kernel) (by decide +kernel) (by decide +kernel) rfl
theorem lk_L_27 : mLkV RL 27 2 m_X3_links := mLkV.of 563 564 565 48 566 (by decide +kernel) (by decide +kernel) (by decide +kernel) (by decide +kernel) (by decide +kernel) (by decide +kernel) rfl
theorem lk_L_28 : mLkV RL 28 1 m_X2_back := mLkV.of 230 231 232 45 233 (by decide +kernel) (by decide +kernel) (by decide +kernel) (by decide +kernel) (by decide +kernel) (by decide +kernel) rfl
theorem lk_L_31 : mLkV RL 31 1 m_X3_back := mLkV.of 567 568 569 48 570 (by decide +kernel) (by decide +kernel) (by decide +kernel) (by decide +kernel) (by decide +kernel) (by decide +kernel) rfl
theorem lk_L_32 : mLkV RL 32 2 m_X2_load := mLkV.of 234 235 236 45 237 (by decide +kernel) (by decide +kernel) (by decide +kernel) (by decide +kernel) (by decide +kernel) (by decide +kernel) rfl
theorem lk_L_35 : mLkV RL 35 2 m_X3_load := mLkV.of 571 572 573 48 574 (by decide +kernel) (by decide +kernel) (by decide +kernel) (by decide +kernel) (by decide +kernel) (by decide +kernel) rfl
theorem lk_L_36 : mLkV RL 36 1 m_X2_seed := mLkV.of 238 239 240 45 241 (by decide +kernel) (by decide +kernel) (by decide +kernel) (by decide +kernel) (by decide +kernel) (by decide +kernel) rfl
theorem lk_L_39 : mLkV RL 39 1 m_X3_seed := mLkV.of 575 576 577 48 578 (by decide +kernel) (by decide +kernel) (by decide +kernel) (by decide +kernel) (by decide +kernel) (by decide +kernel) rfl
theorem lk_L_40 : mLkV RL 40 3 m_X2_of := mLkV.of 243 244 245 45 246 (by decide +kernel) (by decide +kernel) (by decide +kernel) (by decide +kernel) (by decide +kernel) (by decide +kernel) rfl
theorem lk_L_44 : mLkV RL 44 3 m_X3_of := mLkV.of 580 581 582 48 583 (by decide +kernel) (by decide +kernel) (by decide +kernel) (by decide +kernel) (by decide +kernel) (by decide +kernel) rfl
theorem lk_L_45 : mLkV RL 45 2 m_X2_sticky := mLkV.of 256 257 258 45 259 (by decide +kernel) (by decide +kernel) (by decide +kernel) (by decide +kernel) (by decide +kernel) (by decide +kernel) rfl
theorem lk_L_48 : mLkV RL 48 2 m_X3_sticky := mLkV.of 592 593 594 48 595 (by decide +kernel) (by decide +kernel) (by decide +kernel) (by decide +kernel) (by decide +kernel) (by decide +kernel) rfl
theorem lk_L_49 : mLkV RL 49 3 m_X2_call := mLkV.of 261 262 263 45 264 (by decide +kernel) (by decide +kernel) (by decide +kernel) (by decide +kernel) (by decide +kernel) (by decide +kernel) rfl
theorem lk_L_52 : mLkV RL 52 3 m_X3_call := mLkV.of 596 597 598 48 599 (by decide +kernel) (by decide +kernel) (by decide +kernel) (by decide +kernel) (by decide +kernel) (by decide +kernel) rfl
theorem lk_L_53 : mLkV RL 53 1 m_X2_hours := mLkV.of 308 309 310 45 311 (by decide +kernel) (by decide +kernel) (by decide +kernel) (by decide +kernel) (by decide +kernel) (by decide +kernel) rfl
theorem lk_L_56 : mLkV RL 56 1 m_X3_hours := mLkV.of 628 629 630 48 631 (by decide +kernel) (by decide +kernel) (by decide +kernel) (by decide +kernel) (by decide +kernel) (by decide +kernel) rfl
theorem lk_L_57 : mLkV RL 57 2 m_X2_going := mLkV.of 332 333 334 45 335 (by decide +kernel) (by decide +kernel) (by decide +kernel) (by decide +kernel) (by decide +kernel) (by decide +kernel) rfl
theorem lk_L_60 : mLkV RL 60 2 m_X3_going := mLkV.of 640 641 642 48 643 (by decide +kernel) (by decide +kernel) (by decide +kernel) (by decide +kernel) (by decide +kernel) (by decide +kernel) rfl
theorem lk_L_61 : mLkV RL 61 1 m_X2_ends := mLkV.of 336 337 338 45 339 (by decide +kernel) (by decide +kernel) (by decide +kernel) (by decide +kernel) (by decide +kernel) (by decide +kernel) rfl
theorem lk_L_64 : mLkV RL 64 1 m_X3_ends := mLkV.of 644 645 646 48 647 (by decide +kernel) (by decide +kernel) (by decide +kernel) (by decide +kernel) (by decide +kernel) (by decide +kernel) rfl
theorem lk_L_65 : mLkV RL 65 1 m_X2_all := mLkV.of 344 345 346 45 347 (by decide +kernel) (by decide +kernel) (by decide +kernel) (by decide +kernel) (by decide +kernel) (by decide +kernel) rfl
theorem lk_L_68 : mLkV RL 68 1 m_X3_all := mLkV.of 652 653 654 48 655 (by decide +kernel) (by decide +kernel) (by decide +kernel) (by decide +kernel) (by decide +kernel) (by decide +kernel) rfl
theorem lk_L_69 : mLkV RL 69 3 m_X2_pair := mLkV.of 348 349 350 45 351 (by decide +kernel) (by decide +kernel) (by decide +kernel) (by decide +kernel) (by decide +kernel) (by decide +kernel) rfl
theorem lk_L_72 : mLkV RL 72 3 m_X3_pair := mLkV.of 660 661 662 48 663 (by decide +kernel) (by decide +kernel) (by decide +kernel) (by decide +kernel) (by decide +kernel) (by decide +kernel) rfl
theorem lk_L_73 : mLkV RL 73 1 m_X2_worst := mLkV.of 352 353 354 45 355 (by decide +kernel) (by decide +kernel) (by decide +kernel) (by decide +kernel) (by decide +kernel) (by decide +kernel) rfl
theorem lk_L_76 : mLkV RL 76 1 m_X3_worst := mLkV.of 664 665 666 48 667 (by decide +kernel) (by decide +kernel) (by decide +kernel) (by decide +kernel) (by decide +kernel) (by decide +kernel) rfl
theorem lk_L_77 : mLkV RL 77 0 m_X2_burden := mLkV.of 369 370 371 45 372 (by decide +kernel) (by decide +kernel) (by decide +kernel) (by decide +kernel) (by decide +kernel) (by decide +kernel) rfl
theorem lk_L_81 : mLkV RL 81 0 m_X3_burden := mLkV.of 668 669 670 48 671 (by decide +kernel) (by decide +kernel) (by decide +kernel) (by decide +kernel) (by decide +kernel) (by decide +kernel) rfl
theorem lk_L_82 : mLkV RL 82 2 m_X2_would := mLkV.of 377 378 379 45 380 (by decide +kernel) (by decide +kernel) (by decide +kernel) (by decide +kernel) (by decide +kernel) (by decide +kernel) rfl
theorem lk_L_85 : mLkV RL 85 2 m_X3_would := mLkV.of 672 673 674 48 675 (by decide +kernel) (by decide +kernel) (by decide +kernel) (by decide +kernel) (by decide +kernel) (by decide +kernel) rfl
theorem lk_L_86 : mLkV RL 86 2 m_X2_best := mLkV.of 386 387 388 45 389 (by decide +kernel) (by decide +kernel) (by decide +kernel) (by decide +kernel) (by decide +kernel) (by decide +kernel) rfl
theorem lk_L_89 : mLkV RL 89 2 m_X3_best := mLkV.of 680 681 682 48 683 (by decide +kernel) (by decide +kernel) (by decide +kernel) (by decide +kernel) (by decide +kernel) (by decide +kernel) rfl
theorem lk_L_90 : mLkV RL 90 1 m_X2_choked := mLkV.of 390 391 392 45 393 (by decide +kernel) (by decide +kernel) (by decide +kernel) (by decide +kernel) (by decide +kernel) (by decide +kernel) rfl
theorem lk_L_93 : mLkV RL 93 1 m_X3_choked := mLkV.of 684 685 686 48 687 (by decide +kernel) (by decide +kernel) (by decide +kernel) (by decide +kernel) (by decide +kernel) (by decide +kernel) rfl
theorem lk_L_94 : mLkV RL 94 1 m_X2_type := mLkV.of 399 400 401 45 402 (by decide +kernel) (by decide +kernel) (by decide +kernel) (by decide +kernel) (by decide +kernel) (by decide +kernel) rfl
theorem lk_L_97 : mLkV RL 97 1 m_X3_type := mLkV.of 692 693 694 48 695 (by decide +kernel) (by decide +kernel) (by decide +kernel) (by decide +kernel) (by decide +kernel) (by decide +kernel) rfl
theorem lk_L_98 : mLkV RL 98 0 m_X2_clear := mLkV.of 407 408 409 45 410 (by decide +kernel) (by decide +kernel) (by decide +kernel) (by decide +kernel) (by decide +kernel) (by decide +kernel) rfl
theorem lk_L_101 : mLkV RL 101 0 m_X3_clear := mLkV.of 696 697 698 48 699 (by decide +kernel) (by decide +kernel) (by decide +kernel) (by decide +kernel) (by decide +kernel) (by decide +kernel) rfl
theorem lk_L_102 : mLkV RL 102 0 m_X2_does := mLkV.of 411 412 413 45 414 (by decide +kernel) (by decide +kernel) (by decide +kernel) (by decide +kernel) (by decide +kernel) (by decide +kernel) rfl
theorem lk_L_105 : mLkV RL 105 0 m_X3_does := mLkV.of 700 701 702 48 703 (by decide +kernel) (by decide +kernel) (by decide +kernel) (by decide +kernel) (by decide +kernel) (by decide +kernel) rfl
theorem lk_L_106 : mLkV RL 106 0 m_X2_undo := mLkV.of 455 456 457 45 458 (by decide +kernel) (by decide +kernel) (by decide +kernel) (by decide +kernel) (by decide +kernel) (by decide +kernel) rfl
theorem lk_L_109 : mLkV RL 109 0 m_X3_undo := mLkV.of 727 728 729 48 730 (by decide +kernel) (by decide +kernel) (by decide +kernel) (by decide +kernel) (by decide +kernel) (by decide +kernel) rfl
theorem lk_L_110 : mLkV RL 110 1 m_X2_told := mLkV.of 459 460 461 45 462 (by decide +kernel) (by decide +kernel) (by decide +kernel) (by decide +kernel) (by decide +kernel) (by decide +kernel) rfl
theorem lk_L_113 : mLkV RL 113 1 m_X3_told := mLkV.of 731 732 733 48 734 (by decide +kernel) (by decide +kernel) (by decide +kernel) (by decide +kernel) (by decide +kernel) (by decide +kernel) rfl
theorem lk_L_114 : mLkV RL 114 0 m_X2_digest := mLkV.of 463 464 465 45 466 (by decide +kernel) (by decide +kernel) (by decide +kernel) (by decide +kernel) (by decide +kernel) (by decide +kernel) rfl
theorem lk_L_118 : mLkV RL 118 0 m_X3_digest := mLkV.of 735 736 737 48 738 (by decide +kernel) (by decide +kernel) (by decide +kernel) (by decide +kernel) (by decide +kernel) (by decide +kernel) rfl
theorem lk_X3_25 : mLkV RX3 25 1 m_X3_begins := mLkV.of 489 491 20 48 492 (by decide +kernel) (by decide +kernel) (by decide +kernel) (by decide +kernel) (by decide +kernel) (by decide +kernel) rfl
theorem lk_X3_36 : mLkS RX3 36 3 m_X3_in := mLkS.of 537 538 48 539 (by decide +kernel) (by decide +kernel) (by decide +kernel) (by decide +kernel) (by decide +kernel) rfl
theorem lk_X3_40 : mLkV RX3 40 1 m_X3_isTown := mLkV.of 556 558 24 48 559 (by decide +kernel) (by decide +kernel) (by decide +kernel) (by decide +kernel) (by decide +kernel) (by decide +kernel) rfl
theorem lk_X3_47 : mLkV RX3 47 0 m_X3_bads := mLkV.of 540 542 21 48 543 (by decide +kernel) (by decide +kernel) (by decide +kernel) (by decide +kernel) (by decide +kernel) (by decide +kernel) rfl
theorem lk_X3_51 : mLkV RX3 51 0 m_X3_keeps := mLkV.of 544 546 22 48 547 (by decide +kernel) (by decide +kernel) (by decide +kernel) (by decide +kernel) (by decide +kernel) (by decide +kernel) rfl
theorem lk_X3_54 : mLkV RX3 54 2 m_X3_areTowns := mLkV.of 552 554 23 48 555 (by decide +kernel) (by decide +kernel) (by decide +kernel) (by decide +kernel) (by decide +kernel) (by decide +kernel) rfl
theorem lk_X3_58 : mLkS RX3 58 2 m_X3_pairOf := mLkS.of 560 561 48 562 (by decide +kernel) (by decide +kernel) (by decide +kernel) (by decide +kernel) (by decide +kernel) rfl
theorem lk_X3_63 : mLkV RX3 63 3 m_X3_holding := mLkV.of 588 590 26 48 591 (by decide +kernel) (by decide +kernel) (by decide +kernel) (by decide +kernel) (by decide +kernel) (by decide +kernel) rfl
theorem lk_X3_67 : mLkV RX3 67 2 m_X3_free := mLkV.of 584 586 25 48 587 (by decide +kernel) (by decide +kernel) (by decide +kernel) (by decide +kernel) (by decide +kernel) (by decide +kernel) rfl
theorem lk_X3_76 : mLkV RX3 76 0 m_X3_draws := mLkV.of 620 622 32 48 623 (by decide +kernel) (by decide +kernel) (by decide +kernel) (by decide +kernel) (by decide +kernel) (by decide +kernel) rfl
theorem lk_X3_80 : mLkV RX3 80 3 m_X3_counts := mLkV.of 604 606 28 48 607 (by decide +kernel) (by decide +kernel) (by decide +kernel) (by decide +kernel) (by decide +kernel) (by decide +kernel) rfl
theorem lk_X3_84 : mLkV RX3 84 4 m_X3_goes := mLkV.of 608 610 29 48 611 (by decide +kernel) (by decide +kernel) (by decide +kernel) (by decide +kernel) (by decide +kernel) (by decide +kernel) rfl
theorem lk_X3_88 : mLkV RX3 88 2 m_X3_hasMore := mLkV.of 612 614 30 48 615 (by decide +kernel) (by decide +kernel) (by decide +kernel) (by decide +kernel) (by decide +kernel) (by decide +kernel) rfl
theorem lk_X3_91 : mLkV RX3 91 2 m_X3_drawsSticky := mLkV.of 616 618 31 48 619 (by decide +kernel) (by decide +kernel) (by decide +kernel) (by decide +kernel) (by decide +kernel) (by decide +kernel) rfl
theorem lk_X3_98 : mLkV RX3 98 3 m_X3_asks := mLkV.of 600 602 27 48 603 (by decide +kernel) (by decide +kernel) (by decide +kernel) (by decide +kernel) (by decide +kernel) (by decide +kernel) rfl
theorem lk_X3_101 : mLkV RX3 101 1 m_X3_letsGo := mLkV.of 636 638 34 48 639 (by decide +kernel) (by decide +kernel) (by decide +kernel) (by decide +kernel) (by decide +kernel) (by decide +kernel) rfl
theorem lk_X3_104 : mLkV RX3 104 1 m_X3_passes := mLkV.of 632 634 33 48 635 (by decide +kernel) (by decide +kernel) (by decide +kernel) (by decide +kernel) (by decide +kernel) (by decide +kernel) rfl
theorem lk_X3_108 : mLkV RX3 108 0 m_X3_nos := mLkV.of 648 650 35 48 651 (by decide +kernel) (by decide +kernel) (by decide +kernel) (by decide +kernel) (by decide +kernel) (by decide +kernel) rfl
theorem lk_X3_111 : mLkV RX3 111 1 m_X3_sumOf := mLkV.of 656 658 36 48 659 (by decide +kernel) (by decide +kernel) (by decide +kernel) (by decide +kernel) (by decide +kernel) (by decide +kernel) rfl
theorem lk_X3_114 : mLkV RX3 114 2 m_X3_lostIn := mLkV.of 676 678 37 48 679 (by decide +kernel) (by decide +kernel) (by decide +kernel) (by decide +kernel) (by decide +kernel) (by decide +kernel) rfl
theorem lk_X3_117 : mLkV RX3 117 3 m_X3_mayGo := mLkV.of 688 690 38 48 691 (by decide +kernel) (by decide +kernel) (by decide +kernel) (by decide +kernel) (by decide +kernel) (by decide +kernel) rfl
theorem lk_X3_129 : mLkV RX3 129 0 m_X3_sign := mLkV.of 708 710 40 48 711 (by decide +kernel) (by decide +kernel) (by decide +kernel) (by decide +kernel) (by decide +kernel) (by decide +kernel) rfl
theorem lk_X3_132 : mLkS RX3 132 1 m_X3_isFigure := mLkS.of 712 713 48 714 (by decide +kernel) (by decide +kernel) (by decide +kernel) (by decide +kernel) (by decide +kernel) rfl
theorem lk_X3_135 : mLkV RX3 135 1 m_X3_fails := mLkV.of 719 721 42 48 722 (by decide +kernel) (by decide +kernel) (by decide +kernel) (by decide +kernel) (by decide +kernel) (by decide +kernel) rfl
theorem lk_X3_141 : mLkV RX3 141 2 m_X3_figure := mLkV.of 715 717 41 48 718 (by decide +kernel) (by decide +kernel) (by decide +kernel) (by decide +kernel) (by decide +kernel) (by decide +kernel) rfl
theorem lk_X3_144 : mLkV RX3 144 2 m_X3_number := mLkV.of 723 725 43 48 726 (by decide +kernel) (by decide +kernel) (by decide +kernel) (by decide +kernel) (by decide +kernel) (by decide +kernel) rfl
theorem lk_X3_147 : mLkV RX3 147 0 m_X3_order := mLkV.of 704 706 39 48 707 (by decide +kernel) (by decide +kernel) (by decide +kernel) (by decide +kernel) (by decide +kernel) (by decide +kernel) rfl
theorem lk_X3_154 : mLkV RX3 154 1 m_X3_told := mLkV.of 741 732 733 48 734 (by decide +kernel) (by decide +kernel) (by decide +kernel) (by decide +kernel) (by decide +kernel) (by decide +kernel) rfl
end
section
abbrev NetS : Type := Int32 × Int32 × Int32 × Int32 × Int32 × (Nat → Int32) × (Nat → Int32) × (Nat → Int32) × (Nat → Int32) × (Nat → Int32) × (Nat → Int32) × (Nat → Int32) × (Nat → Int32)
def mkN (a0 : Int32) (a1 : Int32) (a2 : Int32) (a3 : Int32) (a4 : Int32) (a5 : (Nat → Int32)) (a6 : (Nat → Int32)) (a7 : (Nat → Int32)) (a8 : (Nat → Int32)) (a9 : (Nat → Int32)) (a10 : (Nat → Int32)) (a11 : (Nat → Int32)) (a12 : (Nat → Int32)) : NetS := (a0, a1, a2, a3, a4, a5, a6, a7, a8, a9, a10, a11, a12)
def gN_tc (s : NetS) : Int32 := s.1
def sN_tc (s : NetS) (v : Int32) : NetS := (v, s.2)
def gN_hb (s : NetS) : Int32 := s.2.1
def sN_hb (s : NetS) (v : Int32) : NetS := (s.1, v, s.2.2)
def gN_x (s : NetS) : Int32 := s.2.2.1
def sN_x (s : NetS) (v : Int32) : NetS := (s.1, s.2.1, v, s.2.2.2)
def gN_hg (s : NetS) : Int32 := s.2.2.2.1
def sN_hg (s : NetS) (v : Int32) : NetS := (s.1, s.2.1, s.2.2.1, v, s.2.2.2.2)
def gN_cc (s : NetS) : Int32 := s.2.2.2.2.1
def sN_cc (s : NetS) (v : Int32) : NetS := (s.1, s.2.1, s.2.2.1, s.2.2.2.1, v, s.2.2.2.2.2)
def gN_w (s : NetS) : (Nat → Int32) := s.2.2.2.2.2.1
def sN_w (s : NetS) (v : (Nat → Int32)) : NetS := (s.1, s.2.1, s.2.2.1, s.2.2.2.1, s.2.2.2.2.1, v, s.2.2.2.2.2.2)
def gN_r (s : NetS) : (Nat → Int32) := s.2.2.2.2.2.2.1
def sN_r (s : NetS) (v : (Nat → Int32)) : NetS := (s.1, s.2.1, s.2.2.1, s.2.2.2.1, s.2.2.2.2.1, s.2.2.2.2.2.1, v, s.2.2.2.2.2.2.2)
def gN_hd (s : NetS) : (Nat → Int32) := s.2.2.2.2.2.2.2.1
def sN_hd (s : NetS) (v : (Nat → Int32)) : NetS := (s.1, s.2.1, s.2.2.1, s.2.2.2.1, s.2.2.2.2.1, s.2.2.2.2.2.1, s.2.2.2.2.2.2.1, v, s.2.2.2.2.2.2.2.2)
def gN_st (s : NetS) : (Nat → Int32) := s.2.2.2.2.2.2.2.2.1
def sN_st (s : NetS) (v : (Nat → Int32)) : NetS := (s.1, s.2.1, s.2.2.1, s.2.2.2.1, s.2.2.2.2.1, s.2.2.2.2.2.1, s.2.2.2.2.2.2.1, s.2.2.2.2.2.2.2.1, v, s.2.2.2.2.2.2.2.2.2)
def gN_ct (s : NetS) : (Nat → Int32) := s.2.2.2.2.2.2.2.2.2.1
def sN_ct (s : NetS) (v : (Nat → Int32)) : NetS := (s.1, s.2.1, s.2.2.1, s.2.2.2.1, s.2.2.2.2.1, s.2.2.2.2.2.1, s.2.2.2.2.2.2.1, s.2.2.2.2.2.2.2.1, s.2.2.2.2.2.2.2.2.1, v, s.2.2.2.2.2.2.2.2.2.2)
def gN_tt (s : NetS) : (Nat → Int32) := s.2.2.2.2.2.2.2.2.2.2.1
def sN_tt (s : NetS) (v : (Nat → Int32)) : NetS := (s.1, s.2.1, s.2.2.1, s.2.2.2.1, s.2.2.2.2.1, s.2.2.2.2.2.1, s.2.2.2.2.2.2.1, s.2.2.2.2.2.2.2.1, s.2.2.2.2.2.2.2.2.1, s.2.2.2.2.2.2.2.2.2.1, v, s.2.2.2.2.2.2.2.2.2.2.2)
def gN_ld (s : NetS) : (Nat → Int32) := s.2.2.2.2.2.2.2.2.2.2.2.1
def sN_ld (s : NetS) (v : (Nat → Int32)) : NetS := (s.1, s.2.1, s.2.2.1, s.2.2.2.1, s.2.2.2.2.1, s.2.2.2.2.2.1, s.2.2.2.2.2.2.1, s.2.2.2.2.2.2.2.1, s.2.2.2.2.2.2.2.2.1, s.2.2.2.2.2.2.2.2.2.1, s.2.2.2.2.2.2.2.2.2.2.1, v, s.2.2.2.2.2.2.2.2.2.2.2.2)
def gN_ca (s : NetS) : (Nat → Int32) := s.2.2.2.2.2.2.2.2.2.2.2.2
def sN_ca (s : NetS) (v : (Nat → Int32)) : NetS := (s.1, s.2.1, s.2.2.1, s.2.2.2.1, s.2.2.2.2.1, s.2.2.2.2.2.1, s.2.2.2.2.2.2.1, s.2.2.2.2.2.2.2.1, s.2.2.2.2.2.2.2.2.1, s.2.2.2.2.2.2.2.2.2.1, s.2.2.2.2.2.2.2.2.2.2.1, s.2.2.2.2.2.2.2.2.2.2.2.1, v)
abbrev TextS : Type := Int32 × Int32 × Int32 × Int32 × Int32 × (Nat → Int32) × (Nat → Int32)
def mkT (a0 : Int32) (a1 : Int32) (a2 : Int32) (a3 : Int32) (a4 : Int32) (a5 : (Nat → Int32)) (a6 : (Nat → Int32)) : TextS := (a0, a1, a2, a3, a4, a5, a6)
def gT_ln (s : TextS) : Int32 := s.1
def sT_ln (s : TextS) (v : Int32) : TextS := (v, s.2)
def gT_oc (s : TextS) : Int32 := s.2.1
def sT_oc (s : TextS) (v : Int32) : TextS := (s.1, v, s.2.2)
def gT_tn (s : TextS) : Int32 := s.2.2.1
def sT_tn (s : TextS) (v : Int32) : TextS := (s.1, s.2.1, v, s.2.2.2)
def gT_pl (s : TextS) : Int32 := s.2.2.2.1
def sT_pl (s : TextS) (v : Int32) : TextS := (s.1, s.2.1, s.2.2.1, v, s.2.2.2.2)
def gT_ft (s : TextS) : Int32 := s.2.2.2.2.1
def sT_ft (s : TextS) (v : Int32) : TextS := (s.1, s.2.1, s.2.2.1, s.2.2.2.1, v, s.2.2.2.2.2)
def gT_by (s : TextS) : (Nat → Int32) := s.2.2.2.2.2.1
def sT_by (s : TextS) (v : (Nat → Int32)) : TextS := (s.1, s.2.1, s.2.2.1, s.2.2.2.1, s.2.2.2.2.1, v, s.2.2.2.2.2.2)
def gT_od (s : TextS) : (Nat → Int32) := s.2.2.2.2.2.2
def sT_od (s : TextS) (v : (Nat → Int32)) : TextS := (s.1, s.2.1, s.2.2.1, s.2.2.2.1, s.2.2.2.2.1, s.2.2.2.2.2.1, v)
abbrev RouS : Type := Int32 × Int32 × Int32 × Int32 × Int32 × NetS × NetS × NetS × NetS × NetS × NetS × NetS × TextS
def mkR (a0 : Int32) (a1 : Int32) (a2 : Int32) (a3 : Int32) (a4 : Int32) (a5 : NetS) (a6 : NetS) (a7 : NetS) (a8 : NetS) (a9 : NetS) (a10 : NetS) (a11 : NetS) (a12 : TextS) : RouS := (a0, a1, a2, a3, a4, a5, a6, a7, a8, a9, a10, a11, a12)
def gR_sc (s : RouS) : Int32 := s.1
def sR_sc (s : RouS) (v : Int32) : RouS := (v, s.2)
def gR_ns (s : RouS) : Int32 := s.2.1
def sR_ns (s : RouS) (v : Int32) : RouS := (s.1, v, s.2.2)
def gR_bd (s : RouS) : Int32 := s.2.2.1
def sR_bd (s : RouS) (v : Int32) : RouS := (s.1, s.2.1, v, s.2.2.2)
def gR_no (s : RouS) : Int32 := s.2.2.2.1
def sR_no (s : RouS) (v : Int32) : RouS := (s.1, s.2.1, s.2.2.1, v, s.2.2.2.2)
def gR_fu (s : RouS) : Int32 := s.2.2.2.2.1
def sR_fu (s : RouS) (v : Int32) : RouS := (s.1, s.2.1, s.2.2.1, s.2.2.2.1, v, s.2.2.2.2.2)
def gR_now (s : RouS) : NetS := s.2.2.2.2.2.1
def sR_now (s : RouS) (v : NetS) : RouS := (s.1, s.2.1, s.2.2.1, s.2.2.2.1, s.2.2.2.2.1, v, s.2.2.2.2.2.2)
def gR_tri (s : RouS) : NetS := s.2.2.2.2.2.2.1
def sR_tri (s : RouS) (v : NetS) : RouS := (s.1, s.2.1, s.2.2.1, s.2.2.2.1, s.2.2.2.2.1, s.2.2.2.2.2.1, v, s.2.2.2.2.2.2.2)
def gR_s0 (s : RouS) : NetS := s.2.2.2.2.2.2.2.1
def sR_s0 (s : RouS) (v : NetS) : RouS := (s.1, s.2.1, s.2.2.1, s.2.2.2.1, s.2.2.2.2.1, s.2.2.2.2.2.1, s.2.2.2.2.2.2.1, v, s.2.2.2.2.2.2.2.2)
def gR_s1 (s : RouS) : NetS := s.2.2.2.2.2.2.2.2.1
def sR_s1 (s : RouS) (v : NetS) : RouS := (s.1, s.2.1, s.2.2.1, s.2.2.2.1, s.2.2.2.2.1, s.2.2.2.2.2.1, s.2.2.2.2.2.2.1, s.2.2.2.2.2.2.2.1, v, s.2.2.2.2.2.2.2.2.2)
def gR_s2 (s : RouS) : NetS := s.2.2.2.2.2.2.2.2.2.1
def sR_s2 (s : RouS) (v : NetS) : RouS := (s.1, s.2.1, s.2.2.1, s.2.2.2.1, s.2.2.2.2.1, s.2.2.2.2.2.1, s.2.2.2.2.2.2.1, s.2.2.2.2.2.2.2.1, s.2.2.2.2.2.2.2.2.1, v, s.2.2.2.2.2.2.2.2.2.2)
def gR_s3 (s : RouS) : NetS := s.2.2.2.2.2.2.2.2.2.2.1
def sR_s3 (s : RouS) (v : NetS) : RouS := (s.1, s.2.1, s.2.2.1, s.2.2.2.1, s.2.2.2.2.1, s.2.2.2.2.2.1, s.2.2.2.2.2.2.1, s.2.2.2.2.2.2.2.1, s.2.2.2.2.2.2.2.2.1, s.2.2.2.2.2.2.2.2.2.1, v, s.2.2.2.2.2.2.2.2.2.2.2)
def gR_s4 (s : RouS) : NetS := s.2.2.2.2.2.2.2.2.2.2.2.1
def sR_s4 (s : RouS) (v : NetS) : RouS := (s.1, s.2.1, s.2.2.1, s.2.2.2.1, s.2.2.2.2.1, s.2.2.2.2.2.1, s.2.2.2.2.2.2.1, s.2.2.2.2.2.2.2.1, s.2.2.2.2.2.2.2.2.1, s.2.2.2.2.2.2.2.2.2.1, s.2.2.2.2.2.2.2.2.2.2.1, v, s.2.2.2.2.2.2.2.2.2.2.2.2)
def gR_txt (s : RouS) : TextS := s.2.2.2.2.2.2.2.2.2.2.2.2
def sR_txt (s : RouS) (v : TextS) : RouS := (s.1, s.2.1, s.2.2.1, s.2.2.2.1, s.2.2.2.2.1, s.2.2.2.2.2.1, s.2.2.2.2.2.2.1, s.2.2.2.2.2.2.2.1, s.2.2.2.2.2.2.2.2.1, s.2.2.2.2.2.2.2.2.2.1, s.2.2.2.2.2.2.2.2.2.2.1, s.2.2.2.2.2.2.2.2.2.2.2.1, v)
abbrev ModS : Type := Int32 × Int32 × Int32 × Int32 × Int32 × Int32 × Int32 × Int32 × (Nat → Int32) × (Nat → Int32) × (Nat → Int32) × (Nat → Int32) × (Nat → Int32)
def mkM (a0 : Int32) (a1 : Int32) (a2 : Int32) (a3 : Int32) (a4 : Int32) (a5 : Int32) (a6 : Int32) (a7 : Int32) (a8 : (Nat → Int32)) (a9 : (Nat → Int32)) (a10 : (Nat → Int32)) (a11 : (Nat → Int32)) (a12 : (Nat → Int32)) : ModS := (a0, a1, a2, a3, a4, a5, a6, a7, a8, a9, a10, a11, a12)
def gM_ss (s : ModS) : Int32 := s.1
def sM_ss (s : ModS) (v : Int32) : ModS := (v, s.2)
def gM_ty (s : ModS) : Int32 := s.2.1
def sM_ty (s : ModS) (v : Int32) : ModS := (s.1, v, s.2.2)
def gM_at (s : ModS) : Int32 := s.2.2.1
def sM_at (s : ModS) (v : Int32) : ModS := (s.1, s.2.1, v, s.2.2.2)
def gM_ft (s : ModS) : Int32 := s.2.2.2.1
def sM_ft (s : ModS) (v : Int32) : ModS := (s.1, s.2.1, s.2.2.1, v, s.2.2.2.2)
def gM_mn (s : ModS) : Int32 := s.2.2.2.2.1
def sM_mn (s : ModS) (v : Int32) : ModS := (s.1, s.2.1, s.2.2.1, s.2.2.2.1, v, s.2.2.2.2.2)
def gM_bd (s : ModS) : Int32 := s.2.2.2.2.2.1
def sM_bd (s : ModS) (v : Int32) : ModS := (s.1, s.2.1, s.2.2.1, s.2.2.2.1, s.2.2.2.2.1, v, s.2.2.2.2.2.2)
def gM_no (s : ModS) : Int32 := s.2.2.2.2.2.2.1
def sM_no (s : ModS) (v : Int32) : ModS := (s.1, s.2.1, s.2.2.1, s.2.2.2.1, s.2.2.2.2.1, s.2.2.2.2.2.1, v, s.2.2.2.2.2.2.2)
def gM_fu (s : ModS) : Int32 := s.2.2.2.2.2.2.2.1
def sM_fu (s : ModS) (v : Int32) : ModS := (s.1, s.2.1, s.2.2.1, s.2.2.2.1, s.2.2.2.2.1, s.2.2.2.2.2.1, s.2.2.2.2.2.2.1, v, s.2.2.2.2.2.2.2.2)
def gM_nw (s : ModS) : (Nat → Int32) := s.2.2.2.2.2.2.2.2.1
def sM_nw (s : ModS) (v : (Nat → Int32)) : ModS := (s.1, s.2.1, s.2.2.1, s.2.2.2.1, s.2.2.2.2.1, s.2.2.2.2.2.1, s.2.2.2.2.2.2.1, s.2.2.2.2.2.2.2.1, v, s.2.2.2.2.2.2.2.2.2)
def gM_as (s : ModS) : (Nat → Int32) := s.2.2.2.2.2.2.2.2.2.1
def sM_as (s : ModS) (v : (Nat → Int32)) : ModS := (s.1, s.2.1, s.2.2.1, s.2.2.2.1, s.2.2.2.2.1, s.2.2.2.2.2.1, s.2.2.2.2.2.2.1, s.2.2.2.2.2.2.2.1, s.2.2.2.2.2.2.2.2.1, v, s.2.2.2.2.2.2.2.2.2.2)
def gM_pa (s : ModS) : (Nat → Int32) := s.2.2.2.2.2.2.2.2.2.2.1
def sM_pa (s : ModS) (v : (Nat → Int32)) : ModS := (s.1, s.2.1, s.2.2.1, s.2.2.2.1, s.2.2.2.2.1, s.2.2.2.2.2.1, s.2.2.2.2.2.2.1, s.2.2.2.2.2.2.2.1, s.2.2.2.2.2.2.2.2.1, s.2.2.2.2.2.2.2.2.2.1, v, s.2.2.2.2.2.2.2.2.2.2.2)
def gM_tx (s : ModS) : (Nat → Int32) := s.2.2.2.2.2.2.2.2.2.2.2.1
def sM_tx (s : ModS) (v : (Nat → Int32)) : ModS := (s.1, s.2.1, s.2.2.1, s.2.2.2.1, s.2.2.2.2.1, s.2.2.2.2.2.1, s.2.2.2.2.2.2.1, s.2.2.2.2.2.2.2.1, s.2.2.2.2.2.2.2.2.1, s.2.2.2.2.2.2.2.2.2.1, s.2.2.2.2.2.2.2.2.2.2.1, v, s.2.2.2.2.2.2.2.2.2.2.2.2)
def gM_od (s : ModS) : (Nat → Int32) := s.2.2.2.2.2.2.2.2.2.2.2.2
def sM_od (s : ModS) (v : (Nat → Int32)) : ModS := (s.1, s.2.1, s.2.2.1, s.2.2.2.1, s.2.2.2.2.1, s.2.2.2.2.2.1, s.2.2.2.2.2.2.1, s.2.2.2.2.2.2.2.1, s.2.2.2.2.2.2.2.2.1, s.2.2.2.2.2.2.2.2.2.1, s.2.2.2.2.2.2.2.2.2.2.1, s.2.2.2.2.2.2.2.2.2.2.2.1, v)
def memNb (b : Nat) (s : NetS) : MMe := [.inr (0, [.int (gN_tc s), .int (gN_hb s), .int (gN_x s), .int (gN_hg s), .int (gN_cc s), .ref (b + 1), .ref (b + 2), .ref (b + 3), .ref (b + 4), .ref (b + 5), .ref (b + 6), .ref (b + 7), .ref (b + 8)]), .inl (0, 36, .inl (gN_w s)), .inl (0, 36, .inl (gN_r s)), .inl (0, 36, .inl (gN_hd s)), .inl (0, 36, .inl (gN_st s)), .inl (0, 180, .inl (gN_ct s)), .inl (0, 5, .inl (gN_tt s)), .inl (0, 24, .inl (gN_ld s)), .inl (0, 320, .inl (gN_ca s))]
def memTb (b : Nat) (s : TextS) : MMe := [.inr (1, [.ref (b + 1), .ref (b + 2), .int (gT_ln s), .int (gT_oc s), .int (gT_tn s), .int (gT_pl s), .int (gT_ft s)]), .inl (0, 120, .inl (gT_by s)), .inl (0, 160, .inl (gT_od s))]
def memNx (x_tc : Int32) (x_hb : Int32) (x_x : Int32) (x_hg : Int32) (x_cc : Int32) (x_w : (Nat → Int32)) (x_r : (Nat → Int32)) (x_hd : (Nat → Int32)) (x_st : (Nat → Int32)) (x_ct : (Nat → Int32)) (x_tt : (Nat → Int32)) (x_ld : (Nat → Int32)) (x_ca : (Nat → Int32)) : MMe := [.inr (0, [.int x_tc, .int x_hb, .int x_x, .int x_hg, .int x_cc, .ref 1, .ref 2, .ref 3, .ref 4, .ref 5, .ref 6, .ref 7, .ref 8]), .inl (0, 36, .inl x_w), .inl (0, 36, .inl x_r), .inl (0, 36, .inl x_hd), .inl (0, 36, .inl x_st), .inl (0, 180, .inl x_ct), .inl (0, 5, .inl x_tt), .inl (0, 24, .inl x_ld), .inl (0, 320, .inl x_ca)]
def memN (s : NetS) : MMe := memNx (gN_tc s) (gN_hb s) (gN_x s) (gN_hg s) (gN_cc s) (gN_w s) (gN_r s) (gN_hd s) (gN_st s) (gN_ct s) (gN_tt s) (gN_ld s) (gN_ca s)
theorem memN_mk {x_tc : Int32} {x_hb : Int32} {x_x : Int32} {x_hg : Int32} {x_cc : Int32} {x_w : Nat → Int32} {x_r : Nat → Int32} {x_hd : Nat → Int32} {x_st : Nat → Int32} {x_ct : Nat → Int32} {x_tt : Nat → Int32} {x_ld : Nat → Int32} {x_ca : Nat → Int32} : memN (mkN x_tc x_hb x_x x_hg x_cc x_w x_r x_hd x_st x_ct x_tt x_ld x_ca) = memNx x_tc x_hb x_x x_hg x_cc x_w x_r x_hd x_st x_ct x_tt x_ld x_ca := rfl
def memTx (x_ln : Int32) (x_oc : Int32) (x_tn : Int32) (x_pl : Int32) (x_ft : Int32) (x_by : (Nat → Int32)) (x_od : (Nat → Int32)) : MMe := [.inr (1, [.ref 1, .ref 2, .int x_ln, .int x_oc, .int x_tn, .int x_pl, .int x_ft]), .inl (0, 120, .inl x_by), .inl (0, 160, .inl x_od)]
def memT (s : TextS) : MMe := memTx (gT_ln s) (gT_oc s) (gT_tn s) (gT_pl s) (gT_ft s) (gT_by s) (gT_od s)
theorem memT_mk {x_ln : Int32} {x_oc : Int32} {x_tn : Int32} {x_pl : Int32} {x_ft : Int32} {x_by : Nat → Int32} {x_od : Nat → Int32} : memT (mkT x_ln x_oc x_tn x_pl x_ft x_by x_od) = memTx x_ln x_oc x_tn x_pl x_ft x_by x_od := rfl
def memMx (x_ss : Int32) (x_ty : Int32) (x_at : Int32) (x_ft : Int32) (x_mn : Int32) (x_bd : Int32) (x_no : Int32) (x_fu : Int32) (x_nw : (Nat → Int32)) (x_as : (Nat → Int32)) (x_pa : (Nat → Int32)) (x_tx : (Nat → Int32)) (x_od : (Nat → Int32)) : MMe := [.inr (3, [.ref 1, .ref 2, .ref 3, .int x_ss, .ref 4, .int x_ty, .int x_at, .int x_ft, .ref 5, .int x_mn, .int x_bd, .int x_no, .int x_fu]), .inl (0, 637, .inl x_nw), .inl (0, 637, .inl x_as), .inl (0, 3185, .inl x_pa), .inl (0, 120, .inl x_tx), .inl (0, 240, .inl x_od)]
def memM (s : ModS) : MMe := memMx (gM_ss s) (gM_ty s) (gM_at s) (gM_ft s) (gM_mn s) (gM_bd s) (gM_no s) (gM_fu s) (gM_nw s) (gM_as s) (gM_pa s) (gM_tx s) (gM_od s)
theorem memM_mk {x_ss : Int32} {x_ty : Int32} {x_at : Int32} {x_ft : Int32} {x_mn : Int32} {x_bd : Int32} {x_no : Int32} {x_fu : Int32} {x_nw : Nat → Int32} {x_as : Nat → Int32} {x_pa : Nat → Int32} {x_tx : Nat → Int32} {x_od : Nat → Int32} : memM (mkM x_ss x_ty x_at x_ft x_mn x_bd x_no x_fu x_nw x_as x_pa x_tx x_od) = memMx x_ss x_ty x_at x_ft x_mn x_bd x_no x_fu x_nw x_as x_pa x_tx x_od := rfl
def m_sts : Nat → Option Nat := fun k => if k = 0 then some 20 else if k = 1 then some 29 else if k = 2 then some 38 else if k = 3 then some 47 else if k = 4 then some 56 else none
def memRx (x_sc : Int32) (x_ns : Int32) (x_bd : Int32) (x_no : Int32) (x_fu : Int32) (x_now : NetS) (x_tri : NetS) (x_s0 : NetS) (x_s1 : NetS) (x_s2 : NetS) (x_s3 : NetS) (x_s4 : NetS) (x_txt : TextS) : MMe := .inr (2, [.ref 1, .ref 10, .ref 19, .ref 65, .int x_sc, .int x_ns, .int x_bd, .int x_no, .int x_fu]) :: (memNb 1 x_now ++ (memNb 10 x_tri ++ (.inl (1, 5, .inr (.inr (.inr (.inr m_sts)))) :: (memNb 20 x_s0 ++ (memNb 29 x_s1 ++ (memNb 38 x_s2 ++ (memNb 47 x_s3 ++ (memNb 56 x_s4 ++ memTb 65 x_txt))))))))
def memR (s : RouS) : MMe := memRx (gR_sc s) (gR_ns s) (gR_bd s) (gR_no s) (gR_fu s) (gR_now s) (gR_tri s) (gR_s0 s) (gR_s1 s) (gR_s2 s) (gR_s3 s) (gR_s4 s) (gR_txt s)
theorem memR_mk {x_sc : Int32} {x_ns : Int32} {x_bd : Int32} {x_no : Int32} {x_fu : Int32} {x_now : NetS} {x_tri : NetS} {x_s0 : NetS} {x_s1 : NetS} {x_s2 : NetS} {x_s3 : NetS} {x_s4 : NetS} {x_txt : TextS} : memR (mkR x_sc x_ns x_bd x_no x_fu x_now x_tri x_s0 x_s1 x_s2 x_s3 x_s4 x_txt) = memRx x_sc x_ns x_bd x_no x_fu x_now x_tri x_s0 x_s1 x_s2 x_s3 x_s4 x_txt := rfl
def memF (n : Nat) (f : Nat → Int32) : MMe := [.inl (0, n, .inl f)]
def memNOx (x_tc : Int32) (x_hb : Int32) (x_x : Int32) (x_hg : Int32) (x_cc : Int32) (x_w : (Nat → Int32)) (x_r : (Nat → Int32)) (x_hd : (Nat → Int32)) (x_st : (Nat → Int32)) (x_ct : (Nat → Int32)) (x_tt : (Nat → Int32)) (x_ld : (Nat → Int32)) (x_ca : (Nat → Int32)) (od : Nat → Int32) : MMe := memNx x_tc x_hb x_x x_hg x_cc x_w x_r x_hd x_st x_ct x_tt x_ld x_ca ++ memF 160 od
def memNO (s : NetS) (od : Nat → Int32) : MMe := memNOx (gN_tc s) (gN_hb s) (gN_x s) (gN_hg s) (gN_cc s) (gN_w s) (gN_r s) (gN_hd s) (gN_st s) (gN_ct s) (gN_tt s) (gN_ld s) (gN_ca s) od
theorem memNO_mk {x_tc : Int32} {x_hb : Int32} {x_x : Int32} {x_hg : Int32} {x_cc : Int32} {x_w : Nat → Int32} {x_r : Nat → Int32} {x_hd : Nat → Int32} {x_st : Nat → Int32} {x_ct : Nat → Int32} {x_tt : Nat → Int32} {x_ld : Nat → Int32} {x_ca : Nat → Int32} {od : Nat → Int32} : memNO (mkN x_tc x_hb x_x x_hg x_cc x_w x_r x_hd x_st x_ct x_tt x_ld x_ca) od = memNOx x_tc x_hb x_x x_hg x_cc x_w x_r x_hd x_st x_ct x_tt x_ld x_ca od := rfl
def memNNx (x_tc : Int32) (x_hb : Int32) (x_x : Int32) (x_hg : Int32) (x_cc : Int32) (x_w : (Nat → Int32)) (x_r : (Nat → Int32)) (x_hd : (Nat → Int32)) (x_st : (Nat → Int32)) (x_ct : (Nat → Int32)) (x_tt : (Nat → Int32)) (x_ld : (Nat → Int32)) (x_ca : (Nat → Int32)) (t : NetS) : MMe := memNx x_tc x_hb x_x x_hg x_cc x_w x_r x_hd x_st x_ct x_tt x_ld x_ca ++ memNb 9 t
def memNN (s t : NetS) : MMe := memNNx (gN_tc s) (gN_hb s) (gN_x s) (gN_hg s) (gN_cc s) (gN_w s) (gN_r s) (gN_hd s) (gN_st s) (gN_ct s) (gN_tt s) (gN_ld s) (gN_ca s) t
theorem memNN_mk {x_tc : Int32} {x_hb : Int32} {x_x : Int32} {x_hg : Int32} {x_cc : Int32} {x_w : Nat → Int32} {x_r : Nat → Int32} {x_hd : Nat → Int32} {x_st : Nat → Int32} {x_ct : Nat → Int32} {x_tt : Nat → Int32} {x_ld : Nat → Int32} {x_ca : Nat → Int32} {t : NetS} : memNN (mkN x_tc x_hb x_x x_hg x_cc x_w x_r x_hd x_st x_ct x_tt x_ld x_ca) t = memNNx x_tc x_hb x_x x_hg x_cc x_w x_r x_hd x_st x_ct x_tt x_ld x_ca t := rfl
/-! reading a tree: guards, binds, loops -/
def gI {α : Type} (i : Int32) (n : Nat) (k : Option α) : Option α := if inb i n = true then k else none
theorem gI_some {α : Type} {i : Int32} {n : Nat} {k : Option α} {q : α} (h : gI i n k = some q) : inb i n = true ∧ k = some q := by
  unfold gI at h
  by_cases hg : inb i n = true
  · rw [if_pos hg] at h; exact ⟨hg, h⟩
  · rw [if_neg hg] at h; cases h
def gC {α : Type} (sp dp n : Int32) (n0 n1 : Nat) (k : Option α) : Option α := if mCpG sp dp n n0 n1 = true then k else none
theorem gC_some {α : Type} {sp dp n : Int32} {n0 n1 : Nat} {k : Option α} {q : α} (h : gC sp dp n n0 n1 k = some q) : mCpG sp dp n n0 n1 = true ∧ k = some q := by
  unfold gC at h
  by_cases hg : mCpG sp dp n n0 n1 = true
  · rw [if_pos hg] at h; exact ⟨hg, h⟩
  · rw [if_neg hg] at h; cases h
def gZ {α : Type} (y : Int32) (k : Option α) : Option α := if ¬ y = nI 0 then k else none
theorem gZ_some {α : Type} {y : Int32} {k : Option α} {q : α} (h : gZ y k = some q) : (¬ y = nI 0) ∧ k = some q := by
  unfold gZ at h
  by_cases hg : ¬ y = nI 0
  · rw [if_pos hg] at h; exact ⟨hg, h⟩
  · rw [if_neg hg] at h; cases h
def gZL {α : Type} (y : Int64) (k : Option α) : Option α := if ¬ y = 0 then k else none
theorem gZL_some {α : Type} {y : Int64} {k : Option α} {q : α} (h : gZL y k = some q) : (¬ y = 0) ∧ k = some q := by
  unfold gZL at h
  by_cases hg : ¬ y = 0
  · rw [if_pos hg] at h; exact ⟨hg, h⟩
  · rw [if_neg hg] at h; cases h
def gB {α : Type} (y : Int32) (k : Option α) : Option α := if y = nI 0 ∨ y = nI 1 then k else none
theorem gB_some {α : Type} {y : Int32} {k : Option α} {q : α} (h : gB y k = some q) : narrow .boolean (.int y) = .int y ∧ k = some q := by
  unfold gB at h
  by_cases hg : y = nI 0 ∨ y = nI 1
  · rw [if_pos hg] at h
    refine ⟨?_, h⟩
    rcases hg with rfl | rfl <;> rfl
  · rw [if_neg hg] at h; cases h
theorem bnd {α β : Type} {x : Option α} {f : α → Option β} {q : β} (h : x.bind f = some q) : ∃ v, x = some v ∧ f v = some q := by
  cases x with
  | none => cases h
  | some v => exact ⟨v, rfl, h⟩
def mWh {σ ρ : Type} (b : σ → Option (σ ⊕ ρ)) : Nat → σ → Option ρ
  | 0, _ => none
  | n + 1, x => match b x with
    | some (.inl y) => mWh b n y
    | some (.inr r) => some r
    | none => none
theorem mWh_ind {σ ρ : Type} {b : σ → Option (σ ⊕ ρ)} {P : σ → Prop} {K : ρ → Prop} (hb : ∀ x q, b x = some q → Sum.elim P K q → P x) : ∀ (n : Nat) (x : σ) (z : ρ), mWh b n x = some z → K z → P x
  | 0, x, z, h, _ => by cases h
  | n + 1, x, z, h, hk => by
    unfold mWh at h
    cases hq : b x with
    | none => rw [hq] at h; cases h
    | some q =>
      rw [hq] at h
      cases q with
      | inl y => exact hb x _ hq (mWh_ind hb n y z h hk)
      | inr r =>
        cases h
        exact hb x _ hq hk
def fuel0 : Nat := 4000
/-! fewer locals -/
def mDr (z : List (Option Value)) : List Nat → List (Option Value)
  | [] => z
  | k :: ks => mDr (z.set k none) ks
theorem mL.drop {ls : Array Slot} {nL : Nat} {z : List (Option Value)} {k : Nat} (h : mL ls nL z) : mL ls nL (z.set k none) := by
  refine ⟨⟨h.1.1, h.1.2.1, fun q hq => ?_⟩, by rw [List.length_set]; exact h.2⟩
  obtain ⟨j, w⟩ := q
  have hj := mAs_iff.mp hq
  by_cases e : k = j
  · subst e
    have hlt : k < z.length := by
      have := (List.getElem?_eq_some_iff.mp hj).1
      rwa [List.length_set] at this
    rw [List.getElem?_set_self hlt] at hj
    cases hj
  · rw [List.getElem?_set_ne e] at hj
    exact h.1.2.2 _ (mAs_iff.mpr hj)
theorem mL.drops {ls : Array Slot} {nL : Nat} {σ : Nat → Nat} : ∀ (ks : List Nat) {z : List (Option Value)}, mL ls nL (cL σ z) → mL ls nL (cL σ (mDr z ks))
  | [], z, h => h
  | k :: ks, z, h => by
    unfold mDr
    refine mL.drops ks ?_
    rw [cL_set]
    exact h.drop
theorem mEv.fg {d : Nat} {M : MB} {scr : Option (Nat × (Nat → Int32))} {pc : Nat} {cd : List MEn} {z z' : List (Option Value)} {st : List Value} {μ μ' : MMe} {r : Option Value} (ks : List Nat) (hz : mDr z ks = z') (E : mEv d M scr (pc, cd, z', st, μ) r μ') : mEv d M scr (pc, cd, z, st, μ) r μ' := by
  subst hz
  intro p l e R s m args below meth c D σ tA A H0 cells slots Q hC hcs hss hret hk H locs ls hP hD hS hL
  exact E p l e R s m args below meth c D σ tA A H0 cells slots Q hC hcs hss hret hk H locs ls hP hD hS (mL.drops ks hL)
theorem mEv.mem {d : Nat} {M : MB} {scr : Option (Nat × (Nat → Int32))} {pc : Nat} {cd : List MEn} {z : List (Option Value)} {st : List Value} {μ μ0 μ' : MMe} {r : Option Value} (h : μ0 = μ) (E : mEv d M scr (pc, cd, z, st, μ0) r μ') : mEv d M scr (pc, cd, z, st, μ) r μ' := h ▸ E
theorem mEv.tgt {d : Nat} {M : MB} {scr : Option (Nat × (Nat → Int32))} {S : MSt} {μ1 μ0 : MMe} {r : Option Value} (h : μ1 = μ0) (E : mEv d M scr S r μ0) : mEv d M scr S r μ1 := h ▸ E
theorem mCall.cast {d : Nat} {M : MB} {as : List Value} {μ μ0 μ' : MMe} {r : Option Value} (h : μ0 = μ) (E : mCall d M as μ0 r μ') : mCall d M as μ r μ' := h ▸ E
/-! a contract of few cells among many, by places -/
def mRo (ps : List Nat) : Nat → Nat := fun i => ps.getD i 0
def mPut (B : MMe) : List (Nat × va_E) → MMe
  | [] => B
  | q :: r => mPut (B.set q.1 q.2) r
theorem mPut_len : ∀ (l : List (Nat × va_E)) (B : MMe), (mPut B l).length = B.length
  | [], B => rfl
  | q :: r, B => by unfold mPut; rw [mPut_len r, List.length_set]
theorem mPut_ne : ∀ (l : List (Nat × va_E)) (B : MMe) (k : Nat), (∀ q ∈ l, q.1 ≠ k) → (mPut B l)[k]? = B[k]?
  | [], B, k, h => rfl
  | q :: r, B, k, h => by
    unfold mPut
    rw [mPut_ne r _ k (fun q hq => h q (List.mem_cons_of_mem _ hq)), List.getElem?_set_ne (h q List.mem_cons_self)]
theorem mPut_at : ∀ (l : List (Nat × va_E)) (B : MMe), va_nd (l.map (·.1)) = true → (∀ q ∈ l, q.1 < B.length) → ∀ q ∈ l, (mPut B l)[q.1]? = some q.2
  | [], B, _, _, q, h => by cases h
  | p :: r, B, hn, hb, q, hq => by
    rw [List.map_cons] at hn
    simp only [va_nd, Bool.and_eq_true, decide_eq_true_eq] at hn
    unfold mPut
    rcases List.mem_cons.mp hq with rfl | hq
    · rw [mPut_ne r _ _ (fun t ht e => hn.1 (by rw [← e]; exact List.mem_map_of_mem ht)), List.getElem?_set_self (hb _ List.mem_cons_self)]
    · exact mPut_at r _ hn.2 (fun t ht => by rw [List.length_set]; exact hb t (List.mem_cons_of_mem _ ht)) q hq
theorem m_pt {ps : List Nat} {μ B : MMe} {ρ : Nat → Nat} (h : ps.map (fun k => B[k]?) = μ.map (fun c => some (cE ρ (fun t => t) c))) : ps.length = μ.length := by
  have := congrArg List.length h
  rwa [List.length_map, List.length_map] at this
theorem mRo_at {ps : List Nat} {i : Nat} (h : i < ps.length) : mRo ps i = ps[i] := by
  unfold mRo
  rw [List.getD_eq_getElem?_getD, List.getElem?_eq_getElem h]
  rfl
set_option maxHeartbeats 4000000 in
theorem mCall.lift {d : Nat} {M : MB} {as : List Value} {μ μ' B : MMe} {r : Option Value} (ps : List Nat) (hc : mCall d M as μ r μ') (hlen : μ'.length = μ.length) (hp : ps.map (fun k => B[k]?) = μ.map (fun c => some (cE (mRo ps) (fun t => t) c))) (hn : va_nd ps = true) : mCall d M (as.map (cV (mRo ps))) B (r.map (cV (mRo ps))) (mPut B (ps.zip (μ'.map (cE (mRo ps) (fun t => t))))) := by
  have hl := m_pt hp
  have hat : ∀ i c, μ[i]? = some c → B[mRo ps i]? = some (cE (mRo ps) (fun t => t) c) := by
    intro i c h
    have hi : i < ps.length := by rw [hl]; exact (List.getElem?_eq_some_iff.mp h).1
    have h1 := congrArg (fun l => l[i]?) hp
    simp only [List.getElem?_map, h, List.getElem?_eq_getElem hi, Option.map_some] at h1
    rw [mRo_at hi]
    exact Option.some.inj h1
  have hfst : (ps.zip (μ'.map (cE (mRo ps) (fun t => t)))).map (·.1) = ps := by
    rw [List.map_fst_zip]
    rw [List.length_map, hlen]; omega
  have hmem : ∀ q ∈ ps.zip (μ'.map (cE (mRo ps) (fun t => t))), q.1 < B.length := by
    intro q hq
    have h1 : q.1 ∈ ps := by rw [← hfst]; exact List.mem_map_of_mem hq
    obtain ⟨i, hi, he⟩ := List.mem_iff_getElem.mp h1
    have hi' : i < μ.length := by omega
    have := hat i _ (List.getElem?_eq_getElem hi')
    rw [mRo_at hi, he] at this
    exact (List.getElem?_eq_some_iff.mp this).1
  refine hc.frame (mRo ps) B _ hlen (mPut_len _ _) hat ?_ ?_ ?_
  · intro i j hi hj h
    rw [mRo_at (by omega), mRo_at (by omega)] at h
    exact va_nd_inj ps hn i j ps[i] (List.getElem?_eq_getElem (by omega)) (by rw [h]; exact List.getElem?_eq_getElem (by omega))
  · intro i c h
    have hi' := (List.getElem?_eq_some_iff.mp h).1
    have hi : i < ps.length := by omega
    have hz : (ps.zip (μ'.map (cE (mRo ps) (fun t => t))))[i]? = some (ps[i], cE (mRo ps) (fun t => t) c) := by
      rw [List.getElem?_zip_eq_some]
      exact ⟨List.getElem?_eq_getElem hi, by rw [List.getElem?_map, h]; rfl⟩
    have := mPut_at _ B (by rw [hfst]; exact hn) hmem _ (List.mem_of_getElem? hz)
    rw [mRo_at hi]
    exact this
  · intro k hk
    refine mPut_ne _ _ _ (fun q hq e => ?_)
    have h1 : q.1 ∈ ps := by rw [← hfst]; exact List.mem_map_of_mem hq
    obtain ⟨i, hi, he⟩ := List.mem_iff_getElem.mp h1
    exact hk i (by omega) (by rw [mRo_at hi, he, e])
def mMk (mask : List Bool) (B : MMe) : List (Option va_E) := List.zipWith (fun b c => if b = true then none else some c) mask B
theorem mMk_at {mask : List Bool} {B B' : MMe} (hl : mask.length = B.length) (hl' : B'.length = B.length) (h : mMk mask B' = mMk mask B) {k : Nat} (hk : mask[k]? ≠ some true) : B'[k]? = B[k]? := by
  by_cases hlt : k < B.length
  · have h1 := congrArg (fun l => l[k]?) h
    simp only [mMk, List.getElem?_zipWith] at h1
    rw [List.getElem?_eq_getElem (show k < mask.length by omega), List.getElem?_eq_getElem hlt, List.getElem?_eq_getElem (show k < B'.length by omega)] at h1
    have hb : mask[k]'(by omega) = false := by
      cases hm : mask[k]'(by omega) with
      | false => rfl
      | true => exact absurd (by rw [List.getElem?_eq_getElem (show k < mask.length by omega), hm]) hk
    simp only [hb] at h1
    rw [List.getElem?_eq_getElem hlt, List.getElem?_eq_getElem (show k < B'.length by omega)]
    simpa using h1
  · rw [List.getElem?_eq_none (by omega), List.getElem?_eq_none (by omega)]
set_option maxHeartbeats 4000000 in
theorem mCall.lift2 {d : Nat} {M : MB} {as : List Value} {μ μ' B B' : MMe} {r : Option Value} (ps : List Nat) (mask : List Bool) (hc : mCall d M as μ r μ') (hlen : μ'.length = μ.length) (hlB : B'.length = B.length) (hp : ps.map (fun k => B[k]?) = μ.map (fun c => some (cE (mRo ps) (fun t => t) c))) (hp' : ps.map (fun k => B'[k]?) = μ'.map (fun c => some (cE (mRo ps) (fun t => t) c))) (hn : va_nd ps = true)
    (hm : mMk mask B' = mMk mask B) (hml : mask.length = B.length) (hmk : (List.range mask.length).all (fun k => !(decide (mask[k]? = some true)) || decide (k ∈ ps)) = true) : mCall d M (as.map (cV (mRo ps))) B (r.map (cV (mRo ps))) B' := by
  have hl := m_pt hp
  have look : ∀ {ν C : MMe}, ν.length = ps.length → ps.map (fun k => C[k]?) = ν.map (fun c => some (cE (mRo ps) (fun t => t) c)) → ∀ i c, ν[i]? = some c → C[mRo ps i]? = some (cE (mRo ps) (fun t => t) c) := by
    intro ν C hν hq i c h
    have hi : i < ps.length := by rw [← hν]; exact (List.getElem?_eq_some_iff.mp h).1
    have h1 := congrArg (fun l => l[i]?) hq
    simp only [List.getElem?_map, h, List.getElem?_eq_getElem hi, Option.map_some] at h1
    rw [mRo_at hi]
    exact Option.some.inj h1
  refine hc.frame (mRo ps) B B' hlen hlB (look hl.symm hp) ?_ (look (by omega) hp') ?_
  · intro i j hi hj h
    rw [mRo_at (by omega), mRo_at (by omega)] at h
    exact va_nd_inj ps hn i j ps[i] (List.getElem?_eq_getElem (by omega)) (by rw [h]; exact List.getElem?_eq_getElem (by omega))
  · intro k hk
    refine mMk_at hml hlB hm (fun ht => ?_)
    have hkl : k < mask.length := (List.getElem?_eq_some_iff.mp ht).1
    have h2 := List.all_eq_true.mp hmk k (List.mem_range.mpr hkl)
    simp only [ht, decide_true, Bool.not_true, Bool.false_or, decide_eq_true_eq] at h2
    obtain ⟨i, hi, he⟩ := List.mem_iff_getElem.mp h2
    exact hk i (by omega) (by rw [mRo_at hi, he])
end
section
def F_J9_floorMod_7cf53 (p0 : Int32) (p1 : Int32)  : Option (Int32) := gZ p1 (if (nI 0) ≤ (p0 ^^^ p1) then (some ((p0 - p0 / p1 * p1))) else (if (p0 - p0 / p1 * p1) = (nI 0) then (some ((p0 - p0 / p1 * p1))) else (some (((p0 - p0 / p1 * p1) + p1)))))
set_option maxRecDepth 100000 in
theorem E_J9_floorMod_7cf53 {d : Nat} {p0 : Int32} {p1 : Int32} {μ : MMe} {q : Int32} (h : F_J9_floorMod_7cf53 p0 p1 = some q) : mEv d m_J9_floorMod_7cf53 none (0, [], [some (.int p0), some (.int p1), none], [], μ) (some (.int q)) (μ) := by
  unfold F_J9_floorMod_7cf53 at h
  obtain ⟨g1, h⟩ := gZ_some h
  refine mEv.gd 4 (S' := (3, _, [some (.int p0), some (.int p1), none], [.int (p0 - p0 / p1 * p1)], μ)) rfl g1 ?_
  refine mEv.br 5 (S1 := (18, [], [some (.int p0), some (.int p1), some (.int (p0 - p0 / p1 * p1))], [], μ)) (S2 := (10, _, [some (.int p0), some (.int p1), some (.int (p0 - p0 / p1 * p1))], [], μ)) rfl (fun c2 => ?_) (fun c2 => ?_)
  · have h := (if_pos c2).symm.trans h
    obtain rfl := Option.some.inj h
    exact mEv.stp 2 (S' := (19, _, [some (.int p0), some (.int p1), some (.int (p0 - p0 / p1 * p1))], [.int (p0 - p0 / p1 * p1)], μ)) rfl (mEv.reti ⟨_, rfl, rfl⟩)
  · have h := (if_neg c2).symm.trans h
    refine mEv.br 2 (S1 := (18, [], [some (.int p0), some (.int p1), some (.int (p0 - p0 / p1 * p1))], [], μ)) (S2 := (14, _, [some (.int p0), some (.int p1), some (.int (p0 - p0 / p1 * p1))], [], μ)) rfl (fun c3 => ?_) (fun c3 => ?_)
    · have h := (if_pos c3).symm.trans h
      obtain rfl := Option.some.inj h
      exact mEv.stp 2 (S' := (19, _, [some (.int p0), some (.int p1), some (.int (p0 - p0 / p1 * p1))], [.int (p0 - p0 / p1 * p1)], μ)) rfl (mEv.reti ⟨_, rfl, rfl⟩)
    · have h := (if_neg c3).symm.trans h
      obtain rfl := Option.some.inj h
      exact mEv.stp 3 (S' := (17, _, [some (.int p0), some (.int p1), some (.int (p0 - p0 / p1 * p1))], [.int ((p0 - p0 / p1 * p1) + p1)], μ)) rfl (mEv.reti ⟨_, rfl, rfl⟩)
theorem A_J9_floorMod_7cf53 {d : Nat} {p0 : Int32} {p1 : Int32} {μ : MMe} {q : Int32} (h : F_J9_floorMod_7cf53 p0 p1 = some q) : mCall d m_J9_floorMod_7cf53 [.int p0, .int p1] (μ) (some (.int q)) (μ) := mCall.intro ok_J9_floorMod_7cf53 pl_J9_floorMod_7cf53 rfl (E_J9_floorMod_7cf53 (d := d) h)
def F_J9_max_7cf53 (p0 : Int32) (p1 : Int32)  : Option (Int32) := if p0 < p1 then (some (p1)) else (some (p0))
set_option maxRecDepth 100000 in
theorem E_J9_max_7cf53 {d : Nat} {p0 : Int32} {p1 : Int32} {μ : MMe} {q : Int32} (h : F_J9_max_7cf53 p0 p1 = some q) : mEv d m_J9_max_7cf53 none (0, [], [some (.int p0), some (.int p1)], [], μ) (some (.int q)) (μ) := by
  unfold F_J9_max_7cf53 at h
  refine mEv.br 4 (S1 := (9, [], [some (.int p0), some (.int p1)], [], μ)) (S2 := (5, _, [some (.int p0), some (.int p1)], [], μ)) rfl (fun c1 => ?_) (fun c1 => ?_)
  · have h := (if_pos c1).symm.trans h
    obtain rfl := Option.some.inj h
    exact mEv.stp 3 (S' := (10, _, [some (.int p0), some (.int p1)], [.int p1], μ)) rfl (mEv.reti ⟨_, rfl, rfl⟩)
  · have h := (if_neg c1).symm.trans h
    obtain rfl := Option.some.inj h
    exact mEv.stp 3 (S' := (10, _, [some (.int p0), some (.int p1)], [.int p0], μ)) rfl (mEv.reti ⟨_, rfl, rfl⟩)
theorem A_J9_max_7cf53 {d : Nat} {p0 : Int32} {p1 : Int32} {μ : MMe} {q : Int32} (h : F_J9_max_7cf53 p0 p1 = some q) : mCall d m_J9_max_7cf53 [.int p0, .int p1] (μ) (some (.int q)) (μ) := mCall.intro ok_J9_max_7cf53 pl_J9_max_7cf53 rfl (E_J9_max_7cf53 (d := d) h)
def F_J9_min_7cf53 (p0 : Int32) (p1 : Int32)  : Option (Int32) := if p1 < p0 then (some (p1)) else (some (p0))
set_option maxRecDepth 100000 in
theorem E_J9_min_7cf53 {d : Nat} {p0 : Int32} {p1 : Int32} {μ : MMe} {q : Int32} (h : F_J9_min_7cf53 p0 p1 = some q) : mEv d m_J9_min_7cf53 none (0, [], [some (.int p0), some (.int p1)], [], μ) (some (.int q)) (μ) := by
  unfold F_J9_min_7cf53 at h
  refine mEv.br 4 (S1 := (9, [], [some (.int p0), some (.int p1)], [], μ)) (S2 := (5, _, [some (.int p0), some (.int p1)], [], μ)) rfl (fun c1 => ?_) (fun c1 => ?_)
  · have h := (if_pos c1).symm.trans h
    obtain rfl := Option.some.inj h
    exact mEv.stp 3 (S' := (10, _, [some (.int p0), some (.int p1)], [.int p1], μ)) rfl (mEv.reti ⟨_, rfl, rfl⟩)
  · have h := (if_neg c1).symm.trans h
    obtain rfl := Option.some.inj h
    exact mEv.stp 3 (S' := (10, _, [some (.int p0), some (.int p1)], [.int p0], μ)) rfl (mEv.reti ⟨_, rfl, rfl⟩)
theorem A_J9_min_7cf53 {d : Nat} {p0 : Int32} {p1 : Int32} {μ : MMe} {q : Int32} (h : F_J9_min_7cf53 p0 p1 = some q) : mCall d m_J9_min_7cf53 [.int p0, .int p1] (μ) (some (.int q)) (μ) := mCall.intro ok_J9_min_7cf53 pl_J9_min_7cf53 rfl (E_J9_min_7cf53 (d := d) h)
def F_X0_pairCell (p0 : Int32) (p1 : Int32)  : Option (Int32) := some (((p0 * (nI 6)) + p1))
set_option maxRecDepth 100000 in
theorem E_X0_pairCell {d : Nat} {p0 : Int32} {p1 : Int32} {μ : MMe} {q : Int32} (h : F_X0_pairCell p0 p1 = some q) : mEv d m_X0_pairCell none (0, [], [some (.int p0), some (.int p1)], [], μ) (some (.int q)) (μ) := by
  unfold F_X0_pairCell at h
  obtain rfl := Option.some.inj h
  exact mEv.stp 6 (S' := (6, _, [some (.int p0), some (.int p1)], [.int ((p0 * (nI 6)) + p1)], μ)) rfl (mEv.reti ⟨_, rfl, rfl⟩)
theorem A_X0_pairCell {d : Nat} {p0 : Int32} {p1 : Int32} {μ : MMe} {q : Int32} (h : F_X0_pairCell p0 p1 = some q) : mCall d m_X0_pairCell [.int p0, .int p1] (μ) (some (.int q)) (μ) := mCall.intro ok_X0_pairCell pl_X0_pairCell rfl (E_X0_pairCell (d := d) h)
def F_X0_linkCell (p0 : Int32) (p1 : Int32)  : Option (Int32) := if p1 ≤ p0 then (some (((p1 * (nI 6)) + p0))) else (some (((p0 * (nI 6)) + p1)))
set_option maxRecDepth 100000 in
theorem E_X0_linkCell {d : Nat} {p0 : Int32} {p1 : Int32} {μ : MMe} {q : Int32} (h : F_X0_linkCell p0 p1 = some q) : mEv d m_X0_linkCell none (0, [], [some (.int p0), some (.int p1)], [], μ) (some (.int q)) (μ) := by
  unfold F_X0_linkCell at h
  refine mEv.br 4 (S1 := (14, [], [some (.int p0), some (.int p1)], [], μ)) (S2 := (5, _, [some (.int p0), some (.int p1)], [], μ)) rfl (fun c1 => ?_) (fun c1 => ?_)
  · have h := (if_pos c1).symm.trans h
    obtain rfl := Option.some.inj h
    exact mEv.stp 7 (S' := (20, _, [some (.int p0), some (.int p1)], [.int ((p1 * (nI 6)) + p0)], μ)) rfl (mEv.reti ⟨_, rfl, rfl⟩)
  · have h := (if_neg c1).symm.trans h
    obtain rfl := Option.some.inj h
    exact mEv.stp 7 (S' := (20, _, [some (.int p0), some (.int p1)], [.int ((p0 * (nI 6)) + p1)], μ)) rfl (mEv.reti ⟨_, rfl, rfl⟩)
theorem A_X0_linkCell {d : Nat} {p0 : Int32} {p1 : Int32} {μ : MMe} {q : Int32} (h : F_X0_linkCell p0 p1 = some q) : mCall d m_X0_linkCell [.int p0, .int p1] (μ) (some (.int q)) (μ) := mCall.intro ok_X0_linkCell pl_X0_linkCell rfl (E_X0_linkCell (d := d) h)
def B_X0_fill_2 (x1 : Int32) (x2 : Int32) (n : Nat) (s : Nat → Int32) : Option ((Int32 × (Nat → Int32)) ⊕ ((Nat → Int32))) := if (nI n) ≤ x2 then (some (.inr (s))) else (gI x2 n (some (.inl ((x2 + (nI 1)), (upd s (Int32.toNatClampNeg x2) x1)))))
set_option maxRecDepth 100000 in
theorem H_X0_fill_2 {d : Nat} {x1 : Int32} {x2 : Int32} {n : Nat} {s : Nat → Int32} {q : (Int32 × (Nat → Int32)) ⊕ ((Nat → Int32))} {r0 : Option Value} {mu0 : MMe} (h : B_X0_fill_2 x1 x2 n s = some q) (hk : Sum.elim (fun x : Int32 × (Nat → Int32) => mEv d m_X0_fill none (2, [], [some (.ref 0), some (.int x1), some (.int x.1)], [], memF n x.2) r0 mu0) (fun z : (Nat → Int32) => mEv d m_X0_fill none (18, [], [none, none, none], [], memF n z) r0 mu0) q) : mEv d m_X0_fill none (2, [], [some (.ref 0), some (.int x1), some (.int x2)], [], memF n s) r0 mu0 := by
  unfold B_X0_fill_2 at h
  refine mEv.br 5 (S1 := (18, [], [some (.ref 0), some (.int x1), some (.int x2)], [], memF n s)) (S2 := (8, _, [some (.ref 0), some (.int x1), some (.int x2)], [], memF n s)) rfl (fun c1 => ?_) (fun c1 => ?_)
  · have h := (if_pos c1).symm.trans h
    refine mEv.fg [0, 1, 2] (z' := [none, none, none]) rfl ?_
    obtain rfl := Option.some.inj h
    exact hk
  · have h := (if_neg c1).symm.trans h
    obtain ⟨g2, h⟩ := gI_some h
    refine mEv.gd 4 (S' := (12, _, [some (.ref 0), some (.int x1), some (.int x2)], [], memF n (upd s (Int32.toNatClampNeg x2) x1))) rfl g2 ?_
    refine mEv.stp 2 (S' := (2, [], [some (.ref 0), some (.int x1), some (.int (x2 + (nI 1)))], [], memF n (upd s (Int32.toNatClampNeg x2) x1))) rfl ?_
    obtain rfl := Option.some.inj h
    exact hk
def F_X0_fill (p1 : Int32) (n : Nat) (s : Nat → Int32) : Option ((Nat → Int32)) := (mWh (fun x => B_X0_fill_2 p1 x.1 n x.2) fuel0 ((nI 0), s)).bind (fun z3 => some (z3))
set_option maxRecDepth 100000 in
theorem E_X0_fill {d : Nat} {p1 : Int32} {n : Nat} {s : Nat → Int32} {q : (Nat → Int32)} (h : F_X0_fill p1 n s = some q) : mEv d m_X0_fill none (0, [], [some (.ref 0), some (.int p1), none], [], memF n s) none (memF n q) := by
  unfold F_X0_fill at h
  refine mEv.stp 3 (S' := (2, [], [some (.ref 0), some (.int p1), some (.int (nI 0))], [], memF n s)) rfl ?_
  obtain ⟨z3, e4, h⟩ := bnd h
  refine mWh_ind (b := (fun x => B_X0_fill_2 p1 x.1 n x.2)) (P := fun x : Int32 × (Nat → Int32) => mEv d m_X0_fill none (2, [], [some (.ref 0), some (.int p1), some (.int x.1)], [], memF n x.2) none (memF n q)) (K := fun z : (Nat → Int32) => mEv d m_X0_fill none (18, [], [none, none, none], [], memF n z) none (memF n q)) (fun x u hq hk => H_X0_fill_2 (d := d) (x1 := p1) (x2 := x.1) (s := x.2) (n := n) (q := u) (r0 := none) (mu0 := (memF n q)) hq hk) fuel0 ((nI 0), s) z3 e4 ?_
  refine mEv.stp 0 (S' := (18, [], [none, none, none], [], memF n z3)) rfl ?_
  obtain rfl := Option.some.inj h
  exact mEv.stp 1 (S' := (18, _, [none, none, none], [], memF n z3)) rfl (mEv.retv rfl)
theorem A_X0_fill {d : Nat} {p1 : Int32} {n : Nat} {s : Nat → Int32} {q : (Nat → Int32)} (h : F_X0_fill p1 n s = some q) : mCall d m_X0_fill [.ref 0, .int p1] (memF n s) none (memF n q) := mCall.intro ok_X0_fill pl_X0_fill rfl (E_X0_fill (d := d) h)
def J_X0_leastOther_10 (x0 : Int32) (x1 : Int32)  : Option (Int32) := if x0 = (nI 1) then (some ((nI 2))) else (if x1 = (nI 1) then (some ((nI 2))) else (some ((nI 1))))
set_option maxRecDepth 100000 in
theorem K_X0_leastOther_10 {d : Nat} {x0 : Int32} {x1 : Int32} {μ : MMe} {q : Int32} (h : J_X0_leastOther_10 x0 x1 = some q) : mEv d m_X0_leastOther none (10, [], [some (.int x0), some (.int x1)], [], μ) (some (.int q)) (μ) := by
  unfold J_X0_leastOther_10 at h
  refine mEv.br 4 (S1 := (24, [], [some (.int x0), some (.int x1)], [], μ)) (S2 := (15, _, [some (.int x0), some (.int x1)], [], μ)) rfl (fun c2 => ?_) (fun c2 => ?_)
  · have h := (if_pos c2).symm.trans h
    obtain rfl := Option.some.inj h
    exact mEv.stp 3 (S' := (25, _, [some (.int x0), some (.int x1)], [.int (nI 2)], μ)) rfl (mEv.reti ⟨_, rfl, rfl⟩)
  · have h := (if_neg c2).symm.trans h
    refine mEv.br 3 (S1 := (24, [], [some (.int x0), some (.int x1)], [], μ)) (S2 := (20, _, [some (.int x0), some (.int x1)], [], μ)) rfl (fun c3 => ?_) (fun c3 => ?_)
    · have h := (if_pos c3).symm.trans h
      obtain rfl := Option.some.inj h
      exact mEv.stp 3 (S' := (25, _, [some (.int x0), some (.int x1)], [.int (nI 2)], μ)) rfl (mEv.reti ⟨_, rfl, rfl⟩)
    · have h := (if_neg c3).symm.trans h
      obtain rfl := Option.some.inj h
      exact mEv.stp 3 (S' := (25, _, [some (.int x0), some (.int x1)], [.int (nI 1)], μ)) rfl (mEv.reti ⟨_, rfl, rfl⟩)
def F_X0_leastOther (p0 : Int32) (p1 : Int32)  : Option (Int32) := if p0 = (nI 0) then (J_X0_leastOther_10 p0 p1) else (if p1 = (nI 0) then (J_X0_leastOther_10 p0 p1) else (some ((nI 0))))
set_option maxRecDepth 100000 in
theorem E_X0_leastOther {d : Nat} {p0 : Int32} {p1 : Int32} {μ : MMe} {q : Int32} (h : F_X0_leastOther p0 p1 = some q) : mEv d m_X0_leastOther none (0, [], [some (.int p0), some (.int p1)], [], μ) (some (.int q)) (μ) := by
  unfold F_X0_leastOther at h
  refine mEv.br 3 (S1 := (10, [], [some (.int p0), some (.int p1)], [], μ)) (S2 := (4, _, [some (.int p0), some (.int p1)], [], μ)) rfl (fun c1 => ?_) (fun c1 => ?_)
  · have h := (if_pos c1).symm.trans h
    exact K_X0_leastOther_10 (d := d) h
  · have h := (if_neg c1).symm.trans h
    refine mEv.br 2 (S1 := (10, [], [some (.int p0), some (.int p1)], [], μ)) (S2 := (8, _, [some (.int p0), some (.int p1)], [], μ)) rfl (fun c4 => ?_) (fun c4 => ?_)
    · have h := (if_pos c4).symm.trans h
      exact K_X0_leastOther_10 (d := d) h
    · have h := (if_neg c4).symm.trans h
      obtain rfl := Option.some.inj h
      exact mEv.stp 1 (S' := (9, _, [some (.int p0), some (.int p1)], [.int (nI 0)], μ)) rfl (mEv.reti ⟨_, rfl, rfl⟩)
theorem A_X0_leastOther {d : Nat} {p0 : Int32} {p1 : Int32} {μ : MMe} {q : Int32} (h : F_X0_leastOther p0 p1 = some q) : mCall d m_X0_leastOther [.int p0, .int p1] (μ) (some (.int q)) (μ) := mCall.intro ok_X0_leastOther pl_X0_leastOther rfl (E_X0_leastOther (d := d) h)
def B_X0_begin_83 (x2 : Int32) (x3 : Int32) (s : NetS) : Option ((Int32 × NetS) ⊕ (NetS)) := if (nI 6) ≤ x3 then (some (.inr (s))) else ((F_X0_pairCell x2 x3).bind (fun v15 => (F_X0_leastOther x2 x3).bind (fun v17 => gI v15 36 (some (.inl ((x3 + (nI 1)), (mkN (gN_tc s) (gN_hb s) (gN_x s) (gN_hg s) (gN_cc s) (gN_w s) (gN_r s) (gN_hd s) (upd (gN_st s) (Int32.toNatClampNeg v15) v17) (gN_ct s) (gN_tt s) (gN_ld s) (gN_ca s))))))))
set_option maxRecDepth 100000 in
theorem H_X0_begin_83 {d : Nat} {x2 : Int32} {x3 : Int32} {s : NetS} {q : (Int32 × NetS) ⊕ (NetS)} {r0 : Option Value} {mu0 : MMe} (h : B_X0_begin_83 x2 x3 s = some q) (hk : Sum.elim (fun x : Int32 × NetS => mEv (d + 1) m_X0_begin none (83, [], [some (.ref 0), none, some (.int x2), some (.int x.1)], [], memN x.2) r0 mu0) (fun z : NetS => mEv (d + 1) m_X0_begin none (110, [], [some (.ref 0), none, some (.int x2), none], [], memN z) r0 mu0) q) : mEv (d + 1) m_X0_begin none (83, [], [some (.ref 0), none, some (.int x2), some (.int x3)], [], memN s) r0 mu0 := by
  unfold B_X0_begin_83 at h
  refine mEv.br 4 (S1 := (110, [], [some (.ref 0), none, some (.int x2), some (.int x3)], [], memN s)) (S2 := (89, _, [some (.ref 0), none, some (.int x2), some (.int x3)], [], memN s)) rfl (fun c14 => ?_) (fun c14 => ?_)
  · have h := (if_pos c14).symm.trans h
    refine mEv.fg [3] (z' := [some (.ref 0), none, some (.int x2), none]) rfl ?_
    obtain rfl := Option.some.inj h
    exact hk
  · have h := (if_neg c14).symm.trans h
    refine mEv.stp 4 (S' := (95, _, [some (.ref 0), none, some (.int x2), some (.int x3)], [.int x3, .int x2, .ref 4], memN s)) rfl ?_
    obtain ⟨v15, e16, h⟩ := bnd h
    refine mEv.callS (As := [.int x2, .int x3]) (st := [.ref 4]) (r := (some (.int v15))) (μ1 := memN s) lk_X0_60 rfl rfl rfl (A_X0_pairCell (d := d + 0) e16) ?_
    refine mEv.stp 0 (S' := (98, _, [some (.ref 0), none, some (.int x2), some (.int x3)], [.int v15, .ref 4], memN s)) rfl ?_
    refine mEv.stp 2 (S' := (100, _, [some (.ref 0), none, some (.int x2), some (.int x3)], [.int x3, .int x2, .int v15, .ref 4], memN s)) rfl ?_
    obtain ⟨v17, e18, h⟩ := bnd h
    refine mEv.callS (As := [.int x2, .int x3]) (st := [.int v15, .ref 4]) (r := (some (.int v17))) (μ1 := memN s) lk_X0_64 rfl rfl rfl (A_X0_leastOther (d := d + 0) e18) ?_
    refine mEv.stp 0 (S' := (103, _, [some (.ref 0), none, some (.int x2), some (.int x3)], [.int v17, .int v15, .ref 4], memN s)) rfl ?_
    obtain ⟨g19, h⟩ := gI_some h
    refine mEv.gd 1 (S' := (104, _, [some (.ref 0), none, some (.int x2), some (.int x3)], [], memNx (gN_tc s) (gN_hb s) (gN_x s) (gN_hg s) (gN_cc s) (gN_w s) (gN_r s) (gN_hd s) (upd (gN_st s) (Int32.toNatClampNeg v15) v17) (gN_ct s) (gN_tt s) (gN_ld s) (gN_ca s))) rfl g19 ?_
    refine mEv.stp 2 (S' := (83, [], [some (.ref 0), none, some (.int x2), some (.int (x3 + (nI 1)))], [], memNx (gN_tc s) (gN_hb s) (gN_x s) (gN_hg s) (gN_cc s) (gN_w s) (gN_r s) (gN_hd s) (upd (gN_st s) (Int32.toNatClampNeg v15) v17) (gN_ct s) (gN_tt s) (gN_ld s) (gN_ca s))) rfl ?_
    refine mEv.mem memN_mk ?_
    obtain rfl := Option.some.inj h
    exact hk
def B_X0_begin_75 (x2 : Int32) (s : NetS) : Option ((Int32 × NetS) ⊕ (NetS)) := if (nI 6) ≤ x2 then (some (.inr (s))) else ((mWh (fun x => B_X0_begin_83 x2 x.1 x.2) fuel0 ((nI 0), s)).bind (fun z20 => some (.inl ((x2 + (nI 1)), z20))))
set_option maxRecDepth 100000 in
theorem H_X0_begin_75 {d : Nat} {x2 : Int32} {s : NetS} {q : (Int32 × NetS) ⊕ (NetS)} {r0 : Option Value} {mu0 : MMe} (h : B_X0_begin_75 x2 s = some q) (hk : Sum.elim (fun x : Int32 × NetS => mEv (d + 1) m_X0_begin none (75, [], [some (.ref 0), none, some (.int x.1), none], [], memN x.2) r0 mu0) (fun z : NetS => mEv (d + 1) m_X0_begin none (116, [], [none, none, none, none], [], memN z) r0 mu0) q) : mEv (d + 1) m_X0_begin none (75, [], [some (.ref 0), none, some (.int x2), none], [], memN s) r0 mu0 := by
  unfold B_X0_begin_75 at h
  refine mEv.br 4 (S1 := (116, [], [some (.ref 0), none, some (.int x2), none], [], memN s)) (S2 := (81, _, [some (.ref 0), none, some (.int x2), none], [], memN s)) rfl (fun c13 => ?_) (fun c13 => ?_)
  · have h := (if_pos c13).symm.trans h
    refine mEv.fg [0, 2] (z' := [none, none, none, none]) rfl ?_
    obtain rfl := Option.some.inj h
    exact hk
  · have h := (if_neg c13).symm.trans h
    refine mEv.stp 2 (S' := (83, [], [some (.ref 0), none, some (.int x2), some (.int (nI 0))], [], memN s)) rfl ?_
    obtain ⟨z20, e21, h⟩ := bnd h
    refine mWh_ind (b := (fun x => B_X0_begin_83 x2 x.1 x.2)) (P := fun x : Int32 × NetS => mEv (d + 1) m_X0_begin none (83, [], [some (.ref 0), none, some (.int x2), some (.int x.1)], [], memN x.2) r0 mu0) (K := fun z : NetS => mEv (d + 1) m_X0_begin none (110, [], [some (.ref 0), none, some (.int x2), none], [], memN z) r0 mu0) (fun x u hq hk => H_X0_begin_83 (d := d) (x2 := x2) (x3 := x.1) (s := x.2) (q := u) (r0 := r0) (mu0 := mu0) hq hk) fuel0 ((nI 0), s) z20 e21 ?_
    refine mEv.stp 0 (S' := (110, [], [some (.ref 0), none, some (.int x2), none], [], memN z20)) rfl ?_
    refine mEv.stp 3 (S' := (75, [], [some (.ref 0), none, some (.int (x2 + (nI 1))), none], [], memN z20)) rfl ?_
    obtain rfl := Option.some.inj h
    exact hk
def F_X0_begin (p1 : Int32) (s : NetS) : Option (NetS) := (F_X0_fill (nI 5) 36 (gN_w s)).bind (fun v1 => (F_X0_fill (nI 0) 36 (gN_r s)).bind (fun v3 => (F_X0_fill (nI 0) 36 (gN_hd s)).bind (fun v5 => (F_X0_fill (nI 0) 180 (gN_ct s)).bind (fun v7 => (F_X0_fill (nI 0) 5 (gN_tt s)).bind (fun v9 => (F_X0_fill (nI 0) 24 (gN_ld s)).bind (fun v11 => (mWh (fun x => B_X0_begin_75 x.1 x.2) fuel0 ((nI 0), (mkN p1 (nI 0) (nI 1) (nI 0) (nI 0) v1 v3 v5 (gN_st s) v7 v9 v11 (gN_ca s)))).bind (fun z22 => some (z22))))))))
set_option maxRecDepth 100000 in
theorem E_X0_begin {d : Nat} {p1 : Int32} {s : NetS} {q : NetS} (h : F_X0_begin p1 s = some q) : mEv (d + 1) m_X0_begin none (0, [], [some (.ref 0), some (.int p1), none, none], [], memN s) none (memN q) := by
  unfold F_X0_begin at h
  refine mEv.stp 19 (S' := (30, _, [some (.ref 0), some (.int p1), none, none], [.int (nI 5), .ref 1], memNx p1 (nI 0) (nI 1) (nI 0) (nI 0) (gN_w s) (gN_r s) (gN_hd s) (gN_st s) (gN_ct s) (gN_tt s) (gN_ld s) (gN_ca s))) rfl ?_
  obtain ⟨v1, e2, h⟩ := bnd h
  refine mEv.callS (As := [.ref 1, .int (nI 5)]) (st := []) (r := none) (μ1 := memNx p1 (nI 0) (nI 1) (nI 0) (nI 0) v1 (gN_r s) (gN_hd s) (gN_st s) (gN_ct s) (gN_tt s) (gN_ld s) (gN_ca s)) lk_X0_56 rfl rfl rfl (mCall.lift [1] (A_X0_fill (d := d + 0) e2) rfl rfl rfl) ?_
  refine mEv.stp 0 (S' := (33, _, [some (.ref 0), some (.int p1), none, none], [], memNx p1 (nI 0) (nI 1) (nI 0) (nI 0) v1 (gN_r s) (gN_hd s) (gN_st s) (gN_ct s) (gN_tt s) (gN_ld s) (gN_ca s))) rfl ?_
  refine mEv.stp 3 (S' := (38, _, [some (.ref 0), some (.int p1), none, none], [.int (nI 0), .ref 2], memNx p1 (nI 0) (nI 1) (nI 0) (nI 0) v1 (gN_r s) (gN_hd s) (gN_st s) (gN_ct s) (gN_tt s) (gN_ld s) (gN_ca s))) rfl ?_
  obtain ⟨v3, e4, h⟩ := bnd h
  refine mEv.callS (As := [.ref 2, .int (nI 0)]) (st := []) (r := none) (μ1 := memNx p1 (nI 0) (nI 1) (nI 0) (nI 0) v1 v3 (gN_hd s) (gN_st s) (gN_ct s) (gN_tt s) (gN_ld s) (gN_ca s)) lk_X0_56 rfl rfl rfl (mCall.lift [2] (A_X0_fill (d := d + 0) e4) rfl rfl rfl) ?_
  refine mEv.stp 0 (S' := (41, _, [some (.ref 0), some (.int p1), none, none], [], memNx p1 (nI 0) (nI 1) (nI 0) (nI 0) v1 v3 (gN_hd s) (gN_st s) (gN_ct s) (gN_tt s) (gN_ld s) (gN_ca s))) rfl ?_
  refine mEv.stp 3 (S' := (46, _, [some (.ref 0), some (.int p1), none, none], [.int (nI 0), .ref 3], memNx p1 (nI 0) (nI 1) (nI 0) (nI 0) v1 v3 (gN_hd s) (gN_st s) (gN_ct s) (gN_tt s) (gN_ld s) (gN_ca s))) rfl ?_
  obtain ⟨v5, e6, h⟩ := bnd h
  refine mEv.callS (As := [.ref 3, .int (nI 0)]) (st := []) (r := none) (μ1 := memNx p1 (nI 0) (nI 1) (nI 0) (nI 0) v1 v3 v5 (gN_st s) (gN_ct s) (gN_tt s) (gN_ld s) (gN_ca s)) lk_X0_56 rfl rfl rfl (mCall.lift [3] (A_X0_fill (d := d + 0) e6) rfl rfl rfl) ?_
  refine mEv.stp 0 (S' := (49, _, [some (.ref 0), some (.int p1), none, none], [], memNx p1 (nI 0) (nI 1) (nI 0) (nI 0) v1 v3 v5 (gN_st s) (gN_ct s) (gN_tt s) (gN_ld s) (gN_ca s))) rfl ?_
  refine mEv.stp 3 (S' := (54, _, [some (.ref 0), some (.int p1), none, none], [.int (nI 0), .ref 5], memNx p1 (nI 0) (nI 1) (nI 0) (nI 0) v1 v3 v5 (gN_st s) (gN_ct s) (gN_tt s) (gN_ld s) (gN_ca s))) rfl ?_
  obtain ⟨v7, e8, h⟩ := bnd h
  refine mEv.callS (As := [.ref 5, .int (nI 0)]) (st := []) (r := none) (μ1 := memNx p1 (nI 0) (nI 1) (nI 0) (nI 0) v1 v3 v5 (gN_st s) v7 (gN_tt s) (gN_ld s) (gN_ca s)) lk_X0_56 rfl rfl rfl (mCall.lift [5] (A_X0_fill (d := d + 0) e8) rfl rfl rfl) ?_
  refine mEv.stp 0 (S' := (57, _, [some (.ref 0), some (.int p1), none, none], [], memNx p1 (nI 0) (nI 1) (nI 0) (nI 0) v1 v3 v5 (gN_st s) v7 (gN_tt s) (gN_ld s) (gN_ca s))) rfl ?_
  refine mEv.stp 3 (S' := (62, _, [some (.ref 0), some (.int p1), none, none], [.int (nI 0), .ref 6], memNx p1 (nI 0) (nI 1) (nI 0) (nI 0) v1 v3 v5 (gN_st s) v7 (gN_tt s) (gN_ld s) (gN_ca s))) rfl ?_
  obtain ⟨v9, e10, h⟩ := bnd h
  refine mEv.callS (As := [.ref 6, .int (nI 0)]) (st := []) (r := none) (μ1 := memNx p1 (nI 0) (nI 1) (nI 0) (nI 0) v1 v3 v5 (gN_st s) v7 v9 (gN_ld s) (gN_ca s)) lk_X0_56 rfl rfl rfl (mCall.lift [6] (A_X0_fill (d := d + 0) e10) rfl rfl rfl) ?_
  refine mEv.stp 0 (S' := (65, _, [some (.ref 0), some (.int p1), none, none], [], memNx p1 (nI 0) (nI 1) (nI 0) (nI 0) v1 v3 v5 (gN_st s) v7 v9 (gN_ld s) (gN_ca s))) rfl ?_
  refine mEv.stp 3 (S' := (70, _, [some (.ref 0), some (.int p1), none, none], [.int (nI 0), .ref 7], memNx p1 (nI 0) (nI 1) (nI 0) (nI 0) v1 v3 v5 (gN_st s) v7 v9 (gN_ld s) (gN_ca s))) rfl ?_
  obtain ⟨v11, e12, h⟩ := bnd h
  refine mEv.callS (As := [.ref 7, .int (nI 0)]) (st := []) (r := none) (μ1 := memNx p1 (nI 0) (nI 1) (nI 0) (nI 0) v1 v3 v5 (gN_st s) v7 v9 v11 (gN_ca s)) lk_X0_56 rfl rfl rfl (mCall.lift [7] (A_X0_fill (d := d + 0) e12) rfl rfl rfl) ?_
  refine mEv.stp 0 (S' := (73, _, [some (.ref 0), some (.int p1), none, none], [], memNx p1 (nI 0) (nI 1) (nI 0) (nI 0) v1 v3 v5 (gN_st s) v7 v9 v11 (gN_ca s))) rfl ?_
  refine mEv.stp 2 (S' := (75, [], [some (.ref 0), some (.int p1), some (.int (nI 0)), none], [], memNx p1 (nI 0) (nI 1) (nI 0) (nI 0) v1 v3 v5 (gN_st s) v7 v9 v11 (gN_ca s))) rfl ?_
  refine mEv.fg [1] (z' := [some (.ref 0), none, some (.int (nI 0)), none]) rfl ?_
  refine mEv.mem memN_mk ?_
  obtain ⟨z22, e23, h⟩ := bnd h
  refine mWh_ind (b := (fun x => B_X0_begin_75 x.1 x.2)) (P := fun x : Int32 × NetS => mEv (d + 1) m_X0_begin none (75, [], [some (.ref 0), none, some (.int x.1), none], [], memN x.2) none (memN q)) (K := fun z : NetS => mEv (d + 1) m_X0_begin none (116, [], [none, none, none, none], [], memN z) none (memN q)) (fun x u hq hk => H_X0_begin_75 (d := d) (x2 := x.1) (s := x.2) (q := u) (r0 := none) (mu0 := (memN q)) hq hk) fuel0 ((nI 0), (mkN p1 (nI 0) (nI 1) (nI 0) (nI 0) v1 v3 v5 (gN_st s) v7 v9 v11 (gN_ca s))) z22 e23 ?_
  refine mEv.stp 0 (S' := (116, [], [none, none, none, none], [], memN z22)) rfl ?_
  obtain rfl := Option.some.inj h
  exact mEv.stp 1 (S' := (116, _, [none, none, none, none], [], memN z22)) rfl (mEv.retv rfl)
theorem A_X0_begin {d : Nat} {p1 : Int32} {s : NetS} {q : NetS} (h : F_X0_begin p1 s = some q) : mCall (d + 1) m_X0_begin [.ref 0, .int p1] (memN s) none (memN q) := mCall.intro ok_X0_begin pl_X0_begin rfl (E_X0_begin (d := d) h)
def F_X0_copyFrom  (t s : NetS) : Option (NetS) := gC (nI 0) (nI 0) (nI 36) 36 36 (gC (nI 0) (nI 0) (nI 36) 36 36 (gC (nI 0) (nI 0) (nI 36) 36 36 (gC (nI 0) (nI 0) (nI 36) 36 36 (gC (nI 0) (nI 0) (nI 180) 180 180 (gC (nI 0) (nI 0) (nI 5) 5 5 (gC (nI 0) (nI 0) (nI 24) 24 24 (gC (nI 0) (nI 0) ((gN_cc t) * (nI 4)) 320 320 (some ((mkN (gN_tc t) (gN_hb t) (gN_x t) (gN_hg t) (gN_cc t) (va_cpy (gN_w t) (gN_w s) (Int32.toNatClampNeg (nI 0)) (Int32.toNatClampNeg (nI 0)) (Int32.toNatClampNeg (nI 36))) (va_cpy (gN_r t) (gN_r s) (Int32.toNatClampNeg (nI 0)) (Int32.toNatClampNeg (nI 0)) (Int32.toNatClampNeg (nI 36))) (va_cpy (gN_hd t) (gN_hd s) (Int32.toNatClampNeg (nI 0)) (Int32.toNatClampNeg (nI 0)) (Int32.toNatClampNeg (nI 36))) (va_cpy (gN_st t) (gN_st s) (Int32.toNatClampNeg (nI 0)) (Int32.toNatClampNeg (nI 0)) (Int32.toNatClampNeg (nI 36))) (va_cpy (gN_ct t) (gN_ct s) (Int32.toNatClampNeg (nI 0)) (Int32.toNatClampNeg (nI 0)) (Int32.toNatClampNeg (nI 180))) (va_cpy (gN_tt t) (gN_tt s) (Int32.toNatClampNeg (nI 0)) (Int32.toNatClampNeg (nI 0)) (Int32.toNatClampNeg (nI 5))) (va_cpy (gN_ld t) (gN_ld s) (Int32.toNatClampNeg (nI 0)) (Int32.toNatClampNeg (nI 0)) (Int32.toNatClampNeg (nI 24))) (va_cpy (gN_ca t) (gN_ca s) (Int32.toNatClampNeg (nI 0)) (Int32.toNatClampNeg (nI 0)) (Int32.toNatClampNeg ((gN_cc t) * (nI 4))))))))))))))
set_option maxRecDepth 100000 in
theorem E_X0_copyFrom {d : Nat}  {t s : NetS} {q : NetS} (h : F_X0_copyFrom t s = some q) : mEv (d + 1) m_X0_copyFrom none (0, [], [some (.ref 0), some (.ref 9)], [], memNN s t) none (memNN q t) := by
  unfold F_X0_copyFrom at h
  refine mEv.stp 28 (S' := (52, _, [some (.ref 0), some (.ref 9)], [.int (nI 36), .int (nI 0), .ref 1, .int (nI 0), .ref 10], memNNx (gN_tc t) (gN_hb t) (gN_x t) (gN_hg t) (gN_cc t) (gN_w s) (gN_r s) (gN_hd s) (gN_st s) (gN_ct s) (gN_tt s) (gN_ld s) (gN_ca s) t)) rfl ?_
  obtain ⟨g1, h⟩ := gC_some h
  refine mEv.copy (st := []) lk_X0_67 rfl rfl rfl rfl g1 ?_
  refine mEv.stp 0 (S' := (55, _, [some (.ref 0), some (.ref 9)], [], memNNx (gN_tc t) (gN_hb t) (gN_x t) (gN_hg t) (gN_cc t) (va_cpy (gN_w t) (gN_w s) (Int32.toNatClampNeg (nI 0)) (Int32.toNatClampNeg (nI 0)) (Int32.toNatClampNeg (nI 36))) (gN_r s) (gN_hd s) (gN_st s) (gN_ct s) (gN_tt s) (gN_ld s) (gN_ca s) t)) rfl ?_
  refine mEv.stp 7 (S' := (67, _, [some (.ref 0), some (.ref 9)], [.int (nI 36), .int (nI 0), .ref 2, .int (nI 0), .ref 11], memNNx (gN_tc t) (gN_hb t) (gN_x t) (gN_hg t) (gN_cc t) (va_cpy (gN_w t) (gN_w s) (Int32.toNatClampNeg (nI 0)) (Int32.toNatClampNeg (nI 0)) (Int32.toNatClampNeg (nI 36))) (gN_r s) (gN_hd s) (gN_st s) (gN_ct s) (gN_tt s) (gN_ld s) (gN_ca s) t)) rfl ?_
  obtain ⟨g2, h⟩ := gC_some h
  refine mEv.copy (st := []) lk_X0_67 rfl rfl rfl rfl g2 ?_
  refine mEv.stp 0 (S' := (70, _, [some (.ref 0), some (.ref 9)], [], memNNx (gN_tc t) (gN_hb t) (gN_x t) (gN_hg t) (gN_cc t) (va_cpy (gN_w t) (gN_w s) (Int32.toNatClampNeg (nI 0)) (Int32.toNatClampNeg (nI 0)) (Int32.toNatClampNeg (nI 36))) (va_cpy (gN_r t) (gN_r s) (Int32.toNatClampNeg (nI 0)) (Int32.toNatClampNeg (nI 0)) (Int32.toNatClampNeg (nI 36))) (gN_hd s) (gN_st s) (gN_ct s) (gN_tt s) (gN_ld s) (gN_ca s) t)) rfl ?_
  refine mEv.stp 7 (S' := (82, _, [some (.ref 0), some (.ref 9)], [.int (nI 36), .int (nI 0), .ref 3, .int (nI 0), .ref 12], memNNx (gN_tc t) (gN_hb t) (gN_x t) (gN_hg t) (gN_cc t) (va_cpy (gN_w t) (gN_w s) (Int32.toNatClampNeg (nI 0)) (Int32.toNatClampNeg (nI 0)) (Int32.toNatClampNeg (nI 36))) (va_cpy (gN_r t) (gN_r s) (Int32.toNatClampNeg (nI 0)) (Int32.toNatClampNeg (nI 0)) (Int32.toNatClampNeg (nI 36))) (gN_hd s) (gN_st s) (gN_ct s) (gN_tt s) (gN_ld s) (gN_ca s) t)) rfl ?_
  obtain ⟨g3, h⟩ := gC_some h
  refine mEv.copy (st := []) lk_X0_67 rfl rfl rfl rfl g3 ?_
  refine mEv.stp 0 (S' := (85, _, [some (.ref 0), some (.ref 9)], [], memNNx (gN_tc t) (gN_hb t) (gN_x t) (gN_hg t) (gN_cc t) (va_cpy (gN_w t) (gN_w s) (Int32.toNatClampNeg (nI 0)) (Int32.toNatClampNeg (nI 0)) (Int32.toNatClampNeg (nI 36))) (va_cpy (gN_r t) (gN_r s) (Int32.toNatClampNeg (nI 0)) (Int32.toNatClampNeg (nI 0)) (Int32.toNatClampNeg (nI 36))) (va_cpy (gN_hd t) (gN_hd s) (Int32.toNatClampNeg (nI 0)) (Int32.toNatClampNeg (nI 0)) (Int32.toNatClampNeg (nI 36))) (gN_st s) (gN_ct s) (gN_tt s) (gN_ld s) (gN_ca s) t)) rfl ?_
  refine mEv.stp 7 (S' := (97, _, [some (.ref 0), some (.ref 9)], [.int (nI 36), .int (nI 0), .ref 4, .int (nI 0), .ref 13], memNNx (gN_tc t) (gN_hb t) (gN_x t) (gN_hg t) (gN_cc t) (va_cpy (gN_w t) (gN_w s) (Int32.toNatClampNeg (nI 0)) (Int32.toNatClampNeg (nI 0)) (Int32.toNatClampNeg (nI 36))) (va_cpy (gN_r t) (gN_r s) (Int32.toNatClampNeg (nI 0)) (Int32.toNatClampNeg (nI 0)) (Int32.toNatClampNeg (nI 36))) (va_cpy (gN_hd t) (gN_hd s) (Int32.toNatClampNeg (nI 0)) (Int32.toNatClampNeg (nI 0)) (Int32.toNatClampNeg (nI 36))) (gN_st s) (gN_ct s) (gN_tt s) (gN_ld s) (gN_ca s) t)) rfl ?_
  obtain ⟨g4, h⟩ := gC_some h
  refine mEv.copy (st := []) lk_X0_67 rfl rfl rfl rfl g4 ?_
  refine mEv.stp 0 (S' := (100, _, [some (.ref 0), some (.ref 9)], [], memNNx (gN_tc t) (gN_hb t) (gN_x t) (gN_hg t) (gN_cc t) (va_cpy (gN_w t) (gN_w s) (Int32.toNatClampNeg (nI 0)) (Int32.toNatClampNeg (nI 0)) (Int32.toNatClampNeg (nI 36))) (va_cpy (gN_r t) (gN_r s) (Int32.toNatClampNeg (nI 0)) (Int32.toNatClampNeg (nI 0)) (Int32.toNatClampNeg (nI 36))) (va_cpy (gN_hd t) (gN_hd s) (Int32.toNatClampNeg (nI 0)) (Int32.toNatClampNeg (nI 0)) (Int32.toNatClampNeg (nI 36))) (va_cpy (gN_st t) (gN_st s) (Int32.toNatClampNeg (nI 0)) (Int32.toNatClampNeg (nI 0)) (Int32.toNatClampNeg (nI 36))) (gN_ct s) (gN_tt s) (gN_ld s) (gN_ca s) t)) rfl ?_
  refine mEv.stp 7 (S' := (113, _, [some (.ref 0), some (.ref 9)], [.int (nI 180), .int (nI 0), .ref 5, .int (nI 0), .ref 14], memNNx (gN_tc t) (gN_hb t) (gN_x t) (gN_hg t) (gN_cc t) (va_cpy (gN_w t) (gN_w s) (Int32.toNatClampNeg (nI 0)) (Int32.toNatClampNeg (nI 0)) (Int32.toNatClampNeg (nI 36))) (va_cpy (gN_r t) (gN_r s) (Int32.toNatClampNeg (nI 0)) (Int32.toNatClampNeg (nI 0)) (Int32.toNatClampNeg (nI 36))) (va_cpy (gN_hd t) (gN_hd s) (Int32.toNatClampNeg (nI 0)) (Int32.toNatClampNeg (nI 0)) (Int32.toNatClampNeg (nI 36))) (va_cpy (gN_st t) (gN_st s) (Int32.toNatClampNeg (nI 0)) (Int32.toNatClampNeg (nI 0)) (Int32.toNatClampNeg (nI 36))) (gN_ct s) (gN_tt s) (gN_ld s) (gN_ca s) t)) rfl ?_
  obtain ⟨g5, h⟩ := gC_some h
  refine mEv.copy (st := []) lk_X0_67 rfl rfl rfl rfl g5 ?_
  refine mEv.stp 0 (S' := (116, _, [some (.ref 0), some (.ref 9)], [], memNNx (gN_tc t) (gN_hb t) (gN_x t) (gN_hg t) (gN_cc t) (va_cpy (gN_w t) (gN_w s) (Int32.toNatClampNeg (nI 0)) (Int32.toNatClampNeg (nI 0)) (Int32.toNatClampNeg (nI 36))) (va_cpy (gN_r t) (gN_r s) (Int32.toNatClampNeg (nI 0)) (Int32.toNatClampNeg (nI 0)) (Int32.toNatClampNeg (nI 36))) (va_cpy (gN_hd t) (gN_hd s) (Int32.toNatClampNeg (nI 0)) (Int32.toNatClampNeg (nI 0)) (Int32.toNatClampNeg (nI 36))) (va_cpy (gN_st t) (gN_st s) (Int32.toNatClampNeg (nI 0)) (Int32.toNatClampNeg (nI 0)) (Int32.toNatClampNeg (nI 36))) (va_cpy (gN_ct t) (gN_ct s) (Int32.toNatClampNeg (nI 0)) (Int32.toNatClampNeg (nI 0)) (Int32.toNatClampNeg (nI 180))) (gN_tt s) (gN_ld s) (gN_ca s) t)) rfl ?_
  refine mEv.stp 7 (S' := (127, _, [some (.ref 0), some (.ref 9)], [.int (nI 5), .int (nI 0), .ref 6, .int (nI 0), .ref 15], memNNx (gN_tc t) (gN_hb t) (gN_x t) (gN_hg t) (gN_cc t) (va_cpy (gN_w t) (gN_w s) (Int32.toNatClampNeg (nI 0)) (Int32.toNatClampNeg (nI 0)) (Int32.toNatClampNeg (nI 36))) (va_cpy (gN_r t) (gN_r s) (Int32.toNatClampNeg (nI 0)) (Int32.toNatClampNeg (nI 0)) (Int32.toNatClampNeg (nI 36))) (va_cpy (gN_hd t) (gN_hd s) (Int32.toNatClampNeg (nI 0)) (Int32.toNatClampNeg (nI 0)) (Int32.toNatClampNeg (nI 36))) (va_cpy (gN_st t) (gN_st s) (Int32.toNatClampNeg (nI 0)) (Int32.toNatClampNeg (nI 0)) (Int32.toNatClampNeg (nI 36))) (va_cpy (gN_ct t) (gN_ct s) (Int32.toNatClampNeg (nI 0)) (Int32.toNatClampNeg (nI 0)) (Int32.toNatClampNeg (nI 180))) (gN_tt s) (gN_ld s) (gN_ca s) t)) rfl ?_
  obtain ⟨g6, h⟩ := gC_some h
  refine mEv.copy (st := []) lk_X0_67 rfl rfl rfl rfl g6 ?_
  refine mEv.stp 0 (S' := (130, _, [some (.ref 0), some (.ref 9)], [], memNNx (gN_tc t) (gN_hb t) (gN_x t) (gN_hg t) (gN_cc t) (va_cpy (gN_w t) (gN_w s) (Int32.toNatClampNeg (nI 0)) (Int32.toNatClampNeg (nI 0)) (Int32.toNatClampNeg (nI 36))) (va_cpy (gN_r t) (gN_r s) (Int32.toNatClampNeg (nI 0)) (Int32.toNatClampNeg (nI 0)) (Int32.toNatClampNeg (nI 36))) (va_cpy (gN_hd t) (gN_hd s) (Int32.toNatClampNeg (nI 0)) (Int32.toNatClampNeg (nI 0)) (Int32.toNatClampNeg (nI 36))) (va_cpy (gN_st t) (gN_st s) (Int32.toNatClampNeg (nI 0)) (Int32.toNatClampNeg (nI 0)) (Int32.toNatClampNeg (nI 36))) (va_cpy (gN_ct t) (gN_ct s) (Int32.toNatClampNeg (nI 0)) (Int32.toNatClampNeg (nI 0)) (Int32.toNatClampNeg (nI 180))) (va_cpy (gN_tt t) (gN_tt s) (Int32.toNatClampNeg (nI 0)) (Int32.toNatClampNeg (nI 0)) (Int32.toNatClampNeg (nI 5))) (gN_ld s) (gN_ca s) t)) rfl ?_
  refine mEv.stp 7 (S' := (142, _, [some (.ref 0), some (.ref 9)], [.int (nI 24), .int (nI 0), .ref 7, .int (nI 0), .ref 16], memNNx (gN_tc t) (gN_hb t) (gN_x t) (gN_hg t) (gN_cc t) (va_cpy (gN_w t) (gN_w s) (Int32.toNatClampNeg (nI 0)) (Int32.toNatClampNeg (nI 0)) (Int32.toNatClampNeg (nI 36))) (va_cpy (gN_r t) (gN_r s) (Int32.toNatClampNeg (nI 0)) (Int32.toNatClampNeg (nI 0)) (Int32.toNatClampNeg (nI 36))) (va_cpy (gN_hd t) (gN_hd s) (Int32.toNatClampNeg (nI 0)) (Int32.toNatClampNeg (nI 0)) (Int32.toNatClampNeg (nI 36))) (va_cpy (gN_st t) (gN_st s) (Int32.toNatClampNeg (nI 0)) (Int32.toNatClampNeg (nI 0)) (Int32.toNatClampNeg (nI 36))) (va_cpy (gN_ct t) (gN_ct s) (Int32.toNatClampNeg (nI 0)) (Int32.toNatClampNeg (nI 0)) (Int32.toNatClampNeg (nI 180))) (va_cpy (gN_tt t) (gN_tt s) (Int32.toNatClampNeg (nI 0)) (Int32.toNatClampNeg (nI 0)) (Int32.toNatClampNeg (nI 5))) (gN_ld s) (gN_ca s) t)) rfl ?_
  obtain ⟨g7, h⟩ := gC_some h
  refine mEv.copy (st := []) lk_X0_67 rfl rfl rfl rfl g7 ?_
  refine mEv.stp 0 (S' := (145, _, [some (.ref 0), some (.ref 9)], [], memNNx (gN_tc t) (gN_hb t) (gN_x t) (gN_hg t) (gN_cc t) (va_cpy (gN_w t) (gN_w s) (Int32.toNatClampNeg (nI 0)) (Int32.toNatClampNeg (nI 0)) (Int32.toNatClampNeg (nI 36))) (va_cpy (gN_r t) (gN_r s) (Int32.toNatClampNeg (nI 0)) (Int32.toNatClampNeg (nI 0)) (Int32.toNatClampNeg (nI 36))) (va_cpy (gN_hd t) (gN_hd s) (Int32.toNatClampNeg (nI 0)) (Int32.toNatClampNeg (nI 0)) (Int32.toNatClampNeg (nI 36))) (va_cpy (gN_st t) (gN_st s) (Int32.toNatClampNeg (nI 0)) (Int32.toNatClampNeg (nI 0)) (Int32.toNatClampNeg (nI 36))) (va_cpy (gN_ct t) (gN_ct s) (Int32.toNatClampNeg (nI 0)) (Int32.toNatClampNeg (nI 0)) (Int32.toNatClampNeg (nI 180))) (va_cpy (gN_tt t) (gN_tt s) (Int32.toNatClampNeg (nI 0)) (Int32.toNatClampNeg (nI 0)) (Int32.toNatClampNeg (nI 5))) (va_cpy (gN_ld t) (gN_ld s) (Int32.toNatClampNeg (nI 0)) (Int32.toNatClampNeg (nI 0)) (Int32.toNatClampNeg (nI 24))) (gN_ca s) t)) rfl ?_
  refine mEv.stp 10 (S' := (161, _, [some (.ref 0), some (.ref 9)], [.int ((gN_cc t) * (nI 4)), .int (nI 0), .ref 8, .int (nI 0), .ref 17], memNNx (gN_tc t) (gN_hb t) (gN_x t) (gN_hg t) (gN_cc t) (va_cpy (gN_w t) (gN_w s) (Int32.toNatClampNeg (nI 0)) (Int32.toNatClampNeg (nI 0)) (Int32.toNatClampNeg (nI 36))) (va_cpy (gN_r t) (gN_r s) (Int32.toNatClampNeg (nI 0)) (Int32.toNatClampNeg (nI 0)) (Int32.toNatClampNeg (nI 36))) (va_cpy (gN_hd t) (gN_hd s) (Int32.toNatClampNeg (nI 0)) (Int32.toNatClampNeg (nI 0)) (Int32.toNatClampNeg (nI 36))) (va_cpy (gN_st t) (gN_st s) (Int32.toNatClampNeg (nI 0)) (Int32.toNatClampNeg (nI 0)) (Int32.toNatClampNeg (nI 36))) (va_cpy (gN_ct t) (gN_ct s) (Int32.toNatClampNeg (nI 0)) (Int32.toNatClampNeg (nI 0)) (Int32.toNatClampNeg (nI 180))) (va_cpy (gN_tt t) (gN_tt s) (Int32.toNatClampNeg (nI 0)) (Int32.toNatClampNeg (nI 0)) (Int32.toNatClampNeg (nI 5))) (va_cpy (gN_ld t) (gN_ld s) (Int32.toNatClampNeg (nI 0)) (Int32.toNatClampNeg (nI 0)) (Int32.toNatClampNeg (nI 24))) (gN_ca s) t)) rfl ?_
  obtain ⟨g8, h⟩ := gC_some h
  refine mEv.copy (st := []) lk_X0_67 rfl rfl rfl rfl g8 ?_
  refine mEv.stp 0 (S' := (164, _, [some (.ref 0), some (.ref 9)], [], memNNx (gN_tc t) (gN_hb t) (gN_x t) (gN_hg t) (gN_cc t) (va_cpy (gN_w t) (gN_w s) (Int32.toNatClampNeg (nI 0)) (Int32.toNatClampNeg (nI 0)) (Int32.toNatClampNeg (nI 36))) (va_cpy (gN_r t) (gN_r s) (Int32.toNatClampNeg (nI 0)) (Int32.toNatClampNeg (nI 0)) (Int32.toNatClampNeg (nI 36))) (va_cpy (gN_hd t) (gN_hd s) (Int32.toNatClampNeg (nI 0)) (Int32.toNatClampNeg (nI 0)) (Int32.toNatClampNeg (nI 36))) (va_cpy (gN_st t) (gN_st s) (Int32.toNatClampNeg (nI 0)) (Int32.toNatClampNeg (nI 0)) (Int32.toNatClampNeg (nI 36))) (va_cpy (gN_ct t) (gN_ct s) (Int32.toNatClampNeg (nI 0)) (Int32.toNatClampNeg (nI 0)) (Int32.toNatClampNeg (nI 180))) (va_cpy (gN_tt t) (gN_tt s) (Int32.toNatClampNeg (nI 0)) (Int32.toNatClampNeg (nI 0)) (Int32.toNatClampNeg (nI 5))) (va_cpy (gN_ld t) (gN_ld s) (Int32.toNatClampNeg (nI 0)) (Int32.toNatClampNeg (nI 0)) (Int32.toNatClampNeg (nI 24))) (va_cpy (gN_ca t) (gN_ca s) (Int32.toNatClampNeg (nI 0)) (Int32.toNatClampNeg (nI 0)) (Int32.toNatClampNeg ((gN_cc t) * (nI 4)))) t)) rfl ?_
  obtain rfl := Option.some.inj h
  exact mEv.tgt memNN_mk (mEv.retv rfl)
theorem A_X0_copyFrom {d : Nat}  {t s : NetS} {q : NetS} (h : F_X0_copyFrom t s = some q) : mCall (d + 1) m_X0_copyFrom [.ref 0, .ref 9] (memNN s t) none (memNN q t) := mCall.intro ok_X0_copyFrom pl_X0_copyFrom rfl (E_X0_copyFrom (d := d) h)
def F_X0_freeWires (p1 : Int32) (s : NetS) : Option (Int32) := gI p1 36 (gI p1 36 (if (nI 0) ≤ (((gN_w s) (Int32.toNatClampNeg p1)) - ((gN_hd s) (Int32.toNatClampNeg p1))) then (some ((((gN_w s) (Int32.toNatClampNeg p1)) - ((gN_hd s) (Int32.toNatClampNeg p1))))) else (some ((nI 0)))))
set_option maxRecDepth 100000 in
theorem E_X0_freeWires {d : Nat} {p1 : Int32} {s : NetS} {q : Int32} (h : F_X0_freeWires p1 s = some q) : mEv d m_X0_freeWires none (0, [], [some (.ref 0), some (.int p1), none], [], memN s) (some (.int q)) (memN s) := by
  unfold F_X0_freeWires at h
  obtain ⟨g1, h⟩ := gI_some h
  refine mEv.gd 5 (S' := (6, _, [some (.ref 0), some (.int p1), none], [.int ((gN_w s) (Int32.toNatClampNeg p1))], memN s)) rfl g1 ?_
  obtain ⟨g2, h⟩ := gI_some h
  refine mEv.gd 4 (S' := (12, _, [some (.ref 0), some (.int p1), none], [.int ((gN_hd s) (Int32.toNatClampNeg p1)), .int ((gN_w s) (Int32.toNatClampNeg p1))], memN s)) rfl g2 ?_
  refine mEv.br 4 (S1 := (22, [], [some (.ref 0), some (.int p1), some (.int (((gN_w s) (Int32.toNatClampNeg p1)) - ((gN_hd s) (Int32.toNatClampNeg p1))))], [], memN s)) (S2 := (18, _, [some (.ref 0), some (.int p1), some (.int (((gN_w s) (Int32.toNatClampNeg p1)) - ((gN_hd s) (Int32.toNatClampNeg p1))))], [], memN s)) rfl (fun c3 => ?_) (fun c3 => ?_)
  · have h := (if_pos c3).symm.trans h
    obtain rfl := Option.some.inj h
    exact mEv.stp 3 (S' := (23, _, [some (.ref 0), some (.int p1), some (.int (((gN_w s) (Int32.toNatClampNeg p1)) - ((gN_hd s) (Int32.toNatClampNeg p1))))], [.int (((gN_w s) (Int32.toNatClampNeg p1)) - ((gN_hd s) (Int32.toNatClampNeg p1)))], memN s)) rfl (mEv.reti ⟨_, rfl, rfl⟩)
  · have h := (if_neg c3).symm.trans h
    obtain rfl := Option.some.inj h
    exact mEv.stp 3 (S' := (23, _, [some (.ref 0), some (.int p1), some (.int (((gN_w s) (Int32.toNatClampNeg p1)) - ((gN_hd s) (Int32.toNatClampNeg p1))))], [.int (nI 0)], memN s)) rfl (mEv.reti ⟨_, rfl, rfl⟩)
theorem A_X0_freeWires {d : Nat} {p1 : Int32} {s : NetS} {q : Int32} (h : F_X0_freeWires p1 s = some q) : mCall d m_X0_freeWires [.ref 0, .int p1] (memN s) (some (.int q)) (memN s) := mCall.intro ok_X0_freeWires pl_X0_freeWires rfl (E_X0_freeWires (d := d) h)
def F_X0_servesOver (p1 : Int32) (s : NetS) : Option (Int32) := gI p1 36 (gI p1 36 (gI p1 36 (if (((gN_w s) (Int32.toNatClampNeg p1)) - ((gN_hd s) (Int32.toNatClampNeg p1))) ≤ ((gN_r s) (Int32.toNatClampNeg p1)) then (some ((nI 0))) else (some ((nI 1))))))
set_option maxRecDepth 100000 in
theorem E_X0_servesOver {d : Nat} {p1 : Int32} {s : NetS} {q : Int32} (h : F_X0_servesOver p1 s = some q) : mEv d m_X0_servesOver none (0, [], [some (.ref 0), some (.int p1)], [], memN s) (some (.int q)) (memN s) := by
  unfold F_X0_servesOver at h
  obtain ⟨g1, h⟩ := gI_some h
  refine mEv.gd 5 (S' := (6, _, [some (.ref 0), some (.int p1)], [.int ((gN_w s) (Int32.toNatClampNeg p1))], memN s)) rfl g1 ?_
  obtain ⟨g2, h⟩ := gI_some h
  refine mEv.gd 4 (S' := (12, _, [some (.ref 0), some (.int p1)], [.int ((gN_hd s) (Int32.toNatClampNeg p1)), .int ((gN_w s) (Int32.toNatClampNeg p1))], memN s)) rfl g2 ?_
  obtain ⟨g3, h⟩ := gI_some h
  refine mEv.gd 5 (S' := (19, _, [some (.ref 0), some (.int p1)], [.int ((gN_r s) (Int32.toNatClampNeg p1)), .int (((gN_w s) (Int32.toNatClampNeg p1)) - ((gN_hd s) (Int32.toNatClampNeg p1)))], memN s)) rfl g3 ?_
  refine mEv.br 1 (S1 := (26, [], [some (.ref 0), some (.int p1)], [], memN s)) (S2 := (22, _, [some (.ref 0), some (.int p1)], [], memN s)) rfl (fun c4 => ?_) (fun c4 => ?_)
  · have h := (if_pos c4).symm.trans h
    obtain rfl := Option.some.inj h
    exact mEv.stp 3 (S' := (27, _, [some (.ref 0), some (.int p1)], [.int (nI 0)], memN s)) rfl (mEv.reti ⟨_, rfl, rfl⟩)
  · have h := (if_neg c4).symm.trans h
    obtain rfl := Option.some.inj h
    exact mEv.stp 3 (S' := (27, _, [some (.ref 0), some (.int p1)], [.int (nI 1)], memN s)) rfl (mEv.reti ⟨_, rfl, rfl⟩)
theorem A_X0_servesOver {d : Nat} {p1 : Int32} {s : NetS} {q : Int32} (h : F_X0_servesOver p1 s = some q) : mCall d m_X0_servesOver [.ref 0, .int p1] (memN s) (some (.int q)) (memN s) := mCall.intro ok_X0_servesOver pl_X0_servesOver rfl (E_X0_servesOver (d := d) h)
def F_X0_wayNow (p1 : Int32) (p2 : Int32) (s : NetS) : Option (Int32) := (F_X0_linkCell p1 p2).bind (fun v1 => (F_X0_freeWires v1 s).bind (fun v3 => if v3 ≤ (nI 0) then ((F_X0_pairCell p1 p2).bind (fun v6 => gI v6 36 ((F_X0_linkCell p1 ((gN_st s) (Int32.toNatClampNeg v6))).bind (fun v9 => (F_X0_servesOver v9 s).bind (fun v11 => if v11 = (nI 0) then (some ((-nI 5))) else ((F_X0_linkCell ((gN_st s) (Int32.toNatClampNeg v6)) p2).bind (fun v14 => (F_X0_servesOver v14 s).bind (fun v16 => if v16 = (nI 0) then (some ((-nI 5))) else (some (((gN_st s) (Int32.toNatClampNeg v6)))))))))))) else (some ((-nI 1)))))
set_option maxRecDepth 100000 in
theorem E_X0_wayNow {d : Nat} {p1 : Int32} {p2 : Int32} {s : NetS} {q : Int32} (h : F_X0_wayNow p1 p2 s = some q) : mEv (d + 1) m_X0_wayNow none (0, [], [some (.ref 0), some (.int p1), some (.int p2), none], [], memN s) (some (.int q)) (memN s) := by
  unfold F_X0_wayNow at h
  refine mEv.stp 4 (S' := (3, _, [some (.ref 0), some (.int p1), some (.int p2), none], [.int p2, .int p1, .ref 0], memN s)) rfl ?_
  obtain ⟨v1, e2, h⟩ := bnd h
  refine mEv.callS (As := [.int p1, .int p2]) (st := [.ref 0]) (r := (some (.int v1))) (μ1 := memN s) lk_X0_73 rfl rfl rfl (A_X0_linkCell (d := d + 0) e2) ?_
  refine mEv.stp 0 (S' := (6, _, [some (.ref 0), some (.int p1), some (.int p2), none], [.int v1, .ref 0], memN s)) rfl ?_
  obtain ⟨v3, e4, h⟩ := bnd h
  refine mEv.callV (As := [.int v1]) (st := []) (h := 0) (r := (some (.int v3))) (μ1 := memN s) lk_X0_76 rfl rfl rfl rfl rfl (A_X0_freeWires (d := d + 0) e4) ?_
  refine mEv.stp 0 (S' := (9, _, [some (.ref 0), some (.int p1), some (.int p2), none], [.int v3], memN s)) rfl ?_
  refine mEv.br 1 (S1 := (14, [], [some (.ref 0), some (.int p1), some (.int p2), none], [], memN s)) (S2 := (12, _, [some (.ref 0), some (.int p1), some (.int p2), none], [], memN s)) rfl (fun c5 => ?_) (fun c5 => ?_)
  · have h := (if_pos c5).symm.trans h
    refine mEv.stp 5 (S' := (20, _, [some (.ref 0), some (.int p1), some (.int p2), none], [.int p2, .int p1, .ref 4], memN s)) rfl ?_
    obtain ⟨v6, e7, h⟩ := bnd h
    refine mEv.callS (As := [.int p1, .int p2]) (st := [.ref 4]) (r := (some (.int v6))) (μ1 := memN s) lk_X0_60 rfl rfl rfl (A_X0_pairCell (d := d + 0) e7) ?_
    refine mEv.stp 0 (S' := (23, _, [some (.ref 0), some (.int p1), some (.int p2), none], [.int v6, .ref 4], memN s)) rfl ?_
    obtain ⟨g8, h⟩ := gI_some h
    refine mEv.gd 1 (S' := (24, _, [some (.ref 0), some (.int p1), some (.int p2), none], [.int ((gN_st s) (Int32.toNatClampNeg v6))], memN s)) rfl g8 ?_
    refine mEv.stp 4 (S' := (28, _, [some (.ref 0), some (.int p1), some (.int p2), some (.int ((gN_st s) (Int32.toNatClampNeg v6)))], [.int ((gN_st s) (Int32.toNatClampNeg v6)), .int p1, .ref 0], memN s)) rfl ?_
    obtain ⟨v9, e10, h⟩ := bnd h
    refine mEv.callS (As := [.int p1, .int ((gN_st s) (Int32.toNatClampNeg v6))]) (st := [.ref 0]) (r := (some (.int v9))) (μ1 := memN s) lk_X0_73 rfl rfl rfl (A_X0_linkCell (d := d + 0) e10) ?_
    refine mEv.stp 0 (S' := (31, _, [some (.ref 0), some (.int p1), some (.int p2), some (.int ((gN_st s) (Int32.toNatClampNeg v6)))], [.int v9, .ref 0], memN s)) rfl ?_
    obtain ⟨v11, e12, h⟩ := bnd h
    refine mEv.callV (As := [.int v9]) (st := []) (h := 0) (r := (some (.int v11))) (μ1 := memN s) lk_X0_80 rfl rfl rfl rfl rfl (A_X0_servesOver (d := d + 0) e12) ?_
    refine mEv.stp 0 (S' := (34, _, [some (.ref 0), some (.int p1), some (.int p2), some (.int ((gN_st s) (Int32.toNatClampNeg v6)))], [.int v11], memN s)) rfl ?_
    refine mEv.br 1 (S1 := (53, [], [some (.ref 0), some (.int p1), some (.int p2), some (.int ((gN_st s) (Int32.toNatClampNeg v6)))], [], memN s)) (S2 := (37, _, [some (.ref 0), some (.int p1), some (.int p2), some (.int ((gN_st s) (Int32.toNatClampNeg v6)))], [], memN s)) rfl (fun c13 => ?_) (fun c13 => ?_)
    · have h := (if_pos c13).symm.trans h
      obtain rfl := Option.some.inj h
      exact mEv.stp 3 (S' := (55, _, [some (.ref 0), some (.int p1), some (.int p2), some (.int ((gN_st s) (Int32.toNatClampNeg v6)))], [.int (-nI 5)], memN s)) rfl (mEv.reti ⟨_, rfl, rfl⟩)
    · have h := (if_neg c13).symm.trans h
      refine mEv.stp 3 (S' := (40, _, [some (.ref 0), some (.int p1), some (.int p2), some (.int ((gN_st s) (Int32.toNatClampNeg v6)))], [.int p2, .int ((gN_st s) (Int32.toNatClampNeg v6)), .ref 0], memN s)) rfl ?_
      obtain ⟨v14, e15, h⟩ := bnd h
      refine mEv.callS (As := [.int ((gN_st s) (Int32.toNatClampNeg v6)), .int p2]) (st := [.ref 0]) (r := (some (.int v14))) (μ1 := memN s) lk_X0_73 rfl rfl rfl (A_X0_linkCell (d := d + 0) e15) ?_
      refine mEv.stp 0 (S' := (43, _, [some (.ref 0), some (.int p1), some (.int p2), some (.int ((gN_st s) (Int32.toNatClampNeg v6)))], [.int v14, .ref 0], memN s)) rfl ?_
      obtain ⟨v16, e17, h⟩ := bnd h
      refine mEv.callV (As := [.int v14]) (st := []) (h := 0) (r := (some (.int v16))) (μ1 := memN s) lk_X0_80 rfl rfl rfl rfl rfl (A_X0_servesOver (d := d + 0) e17) ?_
      refine mEv.stp 0 (S' := (46, _, [some (.ref 0), some (.int p1), some (.int p2), some (.int ((gN_st s) (Int32.toNatClampNeg v6)))], [.int v16], memN s)) rfl ?_
      refine mEv.br 1 (S1 := (53, [], [some (.ref 0), some (.int p1), some (.int p2), some (.int ((gN_st s) (Int32.toNatClampNeg v6)))], [], memN s)) (S2 := (49, _, [some (.ref 0), some (.int p1), some (.int p2), some (.int ((gN_st s) (Int32.toNatClampNeg v6)))], [], memN s)) rfl (fun c18 => ?_) (fun c18 => ?_)
      · have h := (if_pos c18).symm.trans h
        obtain rfl := Option.some.inj h
        exact mEv.stp 3 (S' := (55, _, [some (.ref 0), some (.int p1), some (.int p2), some (.int ((gN_st s) (Int32.toNatClampNeg v6)))], [.int (-nI 5)], memN s)) rfl (mEv.reti ⟨_, rfl, rfl⟩)
      · have h := (if_neg c18).symm.trans h
        obtain rfl := Option.some.inj h
        exact mEv.stp 3 (S' := (55, _, [some (.ref 0), some (.int p1), some (.int p2), some (.int ((gN_st s) (Int32.toNatClampNeg v6)))], [.int ((gN_st s) (Int32.toNatClampNeg v6))], memN s)) rfl (mEv.reti ⟨_, rfl, rfl⟩)
  · have h := (if_neg c5).symm.trans h
    obtain rfl := Option.some.inj h
    exact mEv.stp 1 (S' := (13, _, [some (.ref 0), some (.int p1), some (.int p2), none], [.int (-nI 1)], memN s)) rfl (mEv.reti ⟨_, rfl, rfl⟩)
theorem A_X0_wayNow {d : Nat} {p1 : Int32} {p2 : Int32} {s : NetS} {q : Int32} (h : F_X0_wayNow p1 p2 s = some q) : mCall (d + 1) m_X0_wayNow [.ref 0, .int p1, .int p2] (memN s) (some (.int q)) (memN s) := mCall.intro ok_X0_wayNow pl_X0_wayNow rfl (E_X0_wayNow (d := d) h)
def B_X0_hasAnyWay_21 (x1 : Int32) (x2 : Int32) (x3 : Int32) (x4 : Int32) (s : NetS) : Option ((Int32 × Int32) ⊕ (Int32)) := if (gN_tc s) ≤ x4 then (some (.inr (x3))) else (if ¬ x3 = (nI 0) then (some (.inr (x3))) else (if x4 = x1 then (some (.inl ((nI 0), (x4 + (nI 1))))) else (if x4 = x2 then (some (.inl ((nI 0), (x4 + (nI 1))))) else ((F_X0_linkCell x1 x4).bind (fun v10 => (F_X0_servesOver v10 s).bind (fun v12 => if v12 = (nI 0) then (some (.inl ((nI 0), (x4 + (nI 1))))) else ((F_X0_linkCell x4 x2).bind (fun v15 => (F_X0_servesOver v15 s).bind (fun v17 => if v17 = (nI 0) then (some (.inl ((nI 0), (x4 + (nI 1))))) else (some (.inl ((nI 1), (x4 + (nI 1))))))))))))))
set_option maxRecDepth 100000 in
theorem H_X0_hasAnyWay_21 {d : Nat} {x1 : Int32} {x2 : Int32} {x3 : Int32} {x4 : Int32} {s : NetS} {q : (Int32 × Int32) ⊕ (Int32)} {r0 : Option Value} {mu0 : MMe} (h : B_X0_hasAnyWay_21 x1 x2 x3 x4 s = some q) (hk : Sum.elim (fun x : Int32 × Int32 => mEv (d + 1) m_X0_hasAnyWay none (21, [], [some (.ref 0), some (.int x1), some (.int x2), some (.int x.1), some (.int x.2)], [], memN s) r0 mu0) (fun z : Int32 => mEv (d + 1) m_X0_hasAnyWay none (84, [], [none, none, none, some (.int z), none], [], memN s) r0 mu0) q) : mEv (d + 1) m_X0_hasAnyWay none (21, [], [some (.ref 0), some (.int x1), some (.int x2), some (.int x3), some (.int x4)], [], memN s) r0 mu0 := by
  unfold B_X0_hasAnyWay_21 at h
  refine mEv.br 5 (S1 := (84, [], [some (.ref 0), some (.int x1), some (.int x2), some (.int x3), some (.int x4)], [], memN s)) (S2 := (30, _, [some (.ref 0), some (.int x1), some (.int x2), some (.int x3), some (.int x4)], [], memN s)) rfl (fun c6 => ?_) (fun c6 => ?_)
  · have h := (if_pos c6).symm.trans h
    refine mEv.fg [0, 1, 2, 4] (z' := [none, none, none, some (.int x3), none]) rfl ?_
    obtain rfl := Option.some.inj h
    exact hk
  · have h := (if_neg c6).symm.trans h
    refine mEv.br 2 (S1 := (84, [], [some (.ref 0), some (.int x1), some (.int x2), some (.int x3), some (.int x4)], [], memN s)) (S2 := (34, _, [some (.ref 0), some (.int x1), some (.int x2), some (.int x3), some (.int x4)], [], memN s)) rfl (fun c7 => ?_) (fun c7 => ?_)
    · have h := (if_pos c7).symm.trans h
      refine mEv.fg [0, 1, 2, 4] (z' := [none, none, none, some (.int x3), none]) rfl ?_
      obtain rfl := Option.some.inj h
      exact hk
    · have h := (if_neg c7).symm.trans h
      refine mEv.br 3 (S1 := (76, [], [some (.ref 0), some (.int x1), some (.int x2), some (.int x3), some (.int x4)], [], memN s)) (S2 := (40, _, [some (.ref 0), some (.int x1), some (.int x2), some (.int x3), some (.int x4)], [], memN s)) rfl (fun c8 => ?_) (fun c8 => ?_)
      · have h := (if_pos c8).symm.trans h
        refine mEv.stp 6 (S' := (21, [], [some (.ref 0), some (.int x1), some (.int x2), some (.int (nI 0)), some (.int (x4 + (nI 1)))], [], memN s)) rfl ?_
        obtain rfl := Option.some.inj h
        exact hk
      · have h := (if_neg c8).symm.trans h
        refine mEv.br 3 (S1 := (76, [], [some (.ref 0), some (.int x1), some (.int x2), some (.int x3), some (.int x4)], [], memN s)) (S2 := (46, _, [some (.ref 0), some (.int x1), some (.int x2), some (.int x3), some (.int x4)], [], memN s)) rfl (fun c9 => ?_) (fun c9 => ?_)
        · have h := (if_pos c9).symm.trans h
          refine mEv.stp 6 (S' := (21, [], [some (.ref 0), some (.int x1), some (.int x2), some (.int (nI 0)), some (.int (x4 + (nI 1)))], [], memN s)) rfl ?_
          obtain rfl := Option.some.inj h
          exact hk
        · have h := (if_neg c9).symm.trans h
          refine mEv.stp 3 (S' := (50, _, [some (.ref 0), some (.int x1), some (.int x2), some (.int x3), some (.int x4)], [.int x4, .int x1, .ref 0], memN s)) rfl ?_
          obtain ⟨v10, e11, h⟩ := bnd h
          refine mEv.callS (As := [.int x1, .int x4]) (st := [.ref 0]) (r := (some (.int v10))) (μ1 := memN s) lk_X0_73 rfl rfl rfl (A_X0_linkCell (d := d + 0) e11) ?_
          refine mEv.stp 0 (S' := (53, _, [some (.ref 0), some (.int x1), some (.int x2), some (.int x3), some (.int x4)], [.int v10, .ref 0], memN s)) rfl ?_
          obtain ⟨v12, e13, h⟩ := bnd h
          refine mEv.callV (As := [.int v10]) (st := []) (h := 0) (r := (some (.int v12))) (μ1 := memN s) lk_X0_80 rfl rfl rfl rfl rfl (A_X0_servesOver (d := d + 0) e13) ?_
          refine mEv.stp 0 (S' := (56, _, [some (.ref 0), some (.int x1), some (.int x2), some (.int x3), some (.int x4)], [.int v12], memN s)) rfl ?_
          refine mEv.br 1 (S1 := (76, [], [some (.ref 0), some (.int x1), some (.int x2), some (.int x3), some (.int x4)], [], memN s)) (S2 := (59, _, [some (.ref 0), some (.int x1), some (.int x2), some (.int x3), some (.int x4)], [], memN s)) rfl (fun c14 => ?_) (fun c14 => ?_)
          · have h := (if_pos c14).symm.trans h
            refine mEv.stp 6 (S' := (21, [], [some (.ref 0), some (.int x1), some (.int x2), some (.int (nI 0)), some (.int (x4 + (nI 1)))], [], memN s)) rfl ?_
            obtain rfl := Option.some.inj h
            exact hk
          · have h := (if_neg c14).symm.trans h
            refine mEv.stp 3 (S' := (63, _, [some (.ref 0), some (.int x1), some (.int x2), some (.int x3), some (.int x4)], [.int x2, .int x4, .ref 0], memN s)) rfl ?_
            obtain ⟨v15, e16, h⟩ := bnd h
            refine mEv.callS (As := [.int x4, .int x2]) (st := [.ref 0]) (r := (some (.int v15))) (μ1 := memN s) lk_X0_73 rfl rfl rfl (A_X0_linkCell (d := d + 0) e16) ?_
            refine mEv.stp 0 (S' := (66, _, [some (.ref 0), some (.int x1), some (.int x2), some (.int x3), some (.int x4)], [.int v15, .ref 0], memN s)) rfl ?_
            obtain ⟨v17, e18, h⟩ := bnd h
            refine mEv.callV (As := [.int v15]) (st := []) (h := 0) (r := (some (.int v17))) (μ1 := memN s) lk_X0_80 rfl rfl rfl rfl rfl (A_X0_servesOver (d := d + 0) e18) ?_
            refine mEv.stp 0 (S' := (69, _, [some (.ref 0), some (.int x1), some (.int x2), some (.int x3), some (.int x4)], [.int v17], memN s)) rfl ?_
            refine mEv.br 1 (S1 := (76, [], [some (.ref 0), some (.int x1), some (.int x2), some (.int x3), some (.int x4)], [], memN s)) (S2 := (72, _, [some (.ref 0), some (.int x1), some (.int x2), some (.int x3), some (.int x4)], [], memN s)) rfl (fun c19 => ?_) (fun c19 => ?_)
            · have h := (if_pos c19).symm.trans h
              refine mEv.stp 6 (S' := (21, [], [some (.ref 0), some (.int x1), some (.int x2), some (.int (nI 0)), some (.int (x4 + (nI 1)))], [], memN s)) rfl ?_
              obtain rfl := Option.some.inj h
              exact hk
            · have h := (if_neg c19).symm.trans h
              refine mEv.stp 6 (S' := (21, [], [some (.ref 0), some (.int x1), some (.int x2), some (.int (nI 1)), some (.int (x4 + (nI 1)))], [], memN s)) rfl ?_
              obtain rfl := Option.some.inj h
              exact hk
def J_X0_hasAnyWay_17 (x1 : Int32) (x2 : Int32) (y0 : Int32) (s : NetS) : Option (Int32) := (mWh (fun x => B_X0_hasAnyWay_21 x1 x2 x.1 x.2 s) fuel0 (y0, (nI 0))).bind (fun z20 => gB z20 (some (z20)))
set_option maxRecDepth 100000 in
theorem K_X0_hasAnyWay_17 {d : Nat} {x1 : Int32} {x2 : Int32} {y0 : Int32} {s : NetS} {q : Int32} (h : J_X0_hasAnyWay_17 x1 x2 y0 s = some q) : mEv (d + 1) m_X0_hasAnyWay none (17, [], [some (.ref 0), some (.int x1), some (.int x2), none, none], [.int y0], memN s) (some (.int q)) (memN s) := by
  unfold J_X0_hasAnyWay_17 at h
  refine mEv.stp 4 (S' := (21, [], [some (.ref 0), some (.int x1), some (.int x2), some (.int y0), some (.int (nI 0))], [], memN s)) rfl ?_
  obtain ⟨z20, e21, h⟩ := bnd h
  refine mWh_ind (b := (fun x => B_X0_hasAnyWay_21 x1 x2 x.1 x.2 s)) (P := fun x : Int32 × Int32 => mEv (d + 1) m_X0_hasAnyWay none (21, [], [some (.ref 0), some (.int x1), some (.int x2), some (.int x.1), some (.int x.2)], [], memN s) (some (.int q)) (memN s)) (K := fun z : Int32 => mEv (d + 1) m_X0_hasAnyWay none (84, [], [none, none, none, some (.int z), none], [], memN s) (some (.int q)) (memN s)) (fun x u hq hk => H_X0_hasAnyWay_21 (d := d) (x1 := x1) (x2 := x2) (x3 := x.1) (x4 := x.2) (s := s) (q := u) (r0 := (some (.int q))) (mu0 := (memN s)) hq hk) fuel0 (y0, (nI 0)) z20 e21 ?_
  refine mEv.stp 0 (S' := (84, [], [none, none, none, some (.int z20), none], [], memN s)) rfl ?_
  obtain ⟨hB, h⟩ := gB_some h
  obtain rfl := Option.some.inj h
  exact mEv.stp 2 (S' := (85, _, [none, none, none, some (.int z20), none], [.int z20], memN s)) rfl (mEv.reti ⟨_, rfl, hB⟩)
def F_X0_hasAnyWay (p1 : Int32) (p2 : Int32) (s : NetS) : Option (Int32) := (F_X0_linkCell p1 p2).bind (fun v1 => (F_X0_freeWires v1 s).bind (fun v3 => if v3 ≤ (nI 0) then (J_X0_hasAnyWay_17 p1 p2 (nI 0) s) else (J_X0_hasAnyWay_17 p1 p2 (nI 1) s)))
set_option maxRecDepth 100000 in
theorem E_X0_hasAnyWay {d : Nat} {p1 : Int32} {p2 : Int32} {s : NetS} {q : Int32} (h : F_X0_hasAnyWay p1 p2 s = some q) : mEv (d + 1) m_X0_hasAnyWay none (0, [], [some (.ref 0), some (.int p1), some (.int p2), none, none], [], memN s) (some (.int q)) (memN s) := by
  unfold F_X0_hasAnyWay at h
  refine mEv.stp 4 (S' := (3, _, [some (.ref 0), some (.int p1), some (.int p2), none, none], [.int p2, .int p1, .ref 0], memN s)) rfl ?_
  obtain ⟨v1, e2, h⟩ := bnd h
  refine mEv.callS (As := [.int p1, .int p2]) (st := [.ref 0]) (r := (some (.int v1))) (μ1 := memN s) lk_X0_73 rfl rfl rfl (A_X0_linkCell (d := d + 0) e2) ?_
  refine mEv.stp 0 (S' := (6, _, [some (.ref 0), some (.int p1), some (.int p2), none, none], [.int v1, .ref 0], memN s)) rfl ?_
  obtain ⟨v3, e4, h⟩ := bnd h
  refine mEv.callV (As := [.int v1]) (st := []) (h := 0) (r := (some (.int v3))) (μ1 := memN s) lk_X0_76 rfl rfl rfl rfl rfl (A_X0_freeWires (d := d + 0) e4) ?_
  refine mEv.stp 0 (S' := (9, _, [some (.ref 0), some (.int p1), some (.int p2), none, none], [.int v3], memN s)) rfl ?_
  refine mEv.br 1 (S1 := (16, [], [some (.ref 0), some (.int p1), some (.int p2), none, none], [], memN s)) (S2 := (12, _, [some (.ref 0), some (.int p1), some (.int p2), none, none], [], memN s)) rfl (fun c5 => ?_) (fun c5 => ?_)
  · have h := (if_pos c5).symm.trans h
    refine mEv.stp 2 (S' := (17, [], [some (.ref 0), some (.int p1), some (.int p2), none, none], [.int (nI 0)], memN s)) rfl ?_
    exact K_X0_hasAnyWay_17 (d := d) h
  · have h := (if_neg c5).symm.trans h
    refine mEv.stp 2 (S' := (17, [], [some (.ref 0), some (.int p1), some (.int p2), none, none], [.int (nI 1)], memN s)) rfl ?_
    exact K_X0_hasAnyWay_17 (d := d) h
theorem A_X0_hasAnyWay {d : Nat} {p1 : Int32} {p2 : Int32} {s : NetS} {q : Int32} (h : F_X0_hasAnyWay p1 p2 s = some q) : mCall (d + 1) m_X0_hasAnyWay [.ref 0, .int p1, .int p2] (memN s) (some (.int q)) (memN s) := mCall.intro ok_X0_hasAnyWay pl_X0_hasAnyWay rfl (E_X0_hasAnyWay (d := d) h)
def F_X0_count (p1 : Int32) (p2 : Int32) (s : NetS) : Option (NetS) := gI p1 5 (gI p1 5 (gI ((p1 * (nI 36)) + p2) 180 (gI ((p1 * (nI 36)) + p2) 180 (some ((mkN (gN_tc s) (gN_hb s) (gN_x s) (gN_hg s) (gN_cc s) (gN_w s) (gN_r s) (gN_hd s) (gN_st s) (upd (gN_ct s) (Int32.toNatClampNeg ((p1 * (nI 36)) + p2)) (((gN_ct s) (Int32.toNatClampNeg ((p1 * (nI 36)) + p2))) + (nI 1))) (upd (gN_tt s) (Int32.toNatClampNeg p1) (((gN_tt s) (Int32.toNatClampNeg p1)) + (nI 1))) (gN_ld s) (gN_ca s)))))))
set_option maxRecDepth 100000 in
theorem E_X0_count {d : Nat} {p1 : Int32} {p2 : Int32} {s : NetS} {q : NetS} (h : F_X0_count p1 p2 s = some q) : mEv d m_X0_count none (0, [], [some (.ref 0), some (.int p1), some (.int p2)], [], memN s) none (memN q) := by
  unfold F_X0_count at h
  obtain ⟨g1, h⟩ := gI_some h
  refine mEv.gd 6 (S' := (7, _, [some (.ref 0), some (.int p1), some (.int p2)], [.int ((gN_tt s) (Int32.toNatClampNeg p1)), .int p1, .ref 6], memN s)) rfl g1 ?_
  obtain ⟨g2, h⟩ := gI_some h
  refine mEv.gd 3 (S' := (10, _, [some (.ref 0), some (.int p1), some (.int p2)], [], memNx (gN_tc s) (gN_hb s) (gN_x s) (gN_hg s) (gN_cc s) (gN_w s) (gN_r s) (gN_hd s) (gN_st s) (gN_ct s) (upd (gN_tt s) (Int32.toNatClampNeg p1) (((gN_tt s) (Int32.toNatClampNeg p1)) + (nI 1))) (gN_ld s) (gN_ca s))) rfl g2 ?_
  obtain ⟨g3, h⟩ := gI_some h
  refine mEv.gd 9 (S' := (22, _, [some (.ref 0), some (.int p1), some (.int p2)], [.int ((gN_ct s) (Int32.toNatClampNeg ((p1 * (nI 36)) + p2))), .int ((p1 * (nI 36)) + p2), .ref 5], memNx (gN_tc s) (gN_hb s) (gN_x s) (gN_hg s) (gN_cc s) (gN_w s) (gN_r s) (gN_hd s) (gN_st s) (gN_ct s) (upd (gN_tt s) (Int32.toNatClampNeg p1) (((gN_tt s) (Int32.toNatClampNeg p1)) + (nI 1))) (gN_ld s) (gN_ca s))) rfl g3 ?_
  obtain ⟨g4, h⟩ := gI_some h
  refine mEv.gd 3 (S' := (25, _, [some (.ref 0), some (.int p1), some (.int p2)], [], memNx (gN_tc s) (gN_hb s) (gN_x s) (gN_hg s) (gN_cc s) (gN_w s) (gN_r s) (gN_hd s) (gN_st s) (upd (gN_ct s) (Int32.toNatClampNeg ((p1 * (nI 36)) + p2)) (((gN_ct s) (Int32.toNatClampNeg ((p1 * (nI 36)) + p2))) + (nI 1))) (upd (gN_tt s) (Int32.toNatClampNeg p1) (((gN_tt s) (Int32.toNatClampNeg p1)) + (nI 1))) (gN_ld s) (gN_ca s))) rfl g4 ?_
  obtain rfl := Option.some.inj h
  exact mEv.tgt memN_mk (mEv.retv rfl)
theorem A_X0_count {d : Nat} {p1 : Int32} {p2 : Int32} {s : NetS} {q : NetS} (h : F_X0_count p1 p2 s = some q) : mCall d m_X0_count [.ref 0, .int p1, .int p2] (memN s) none (memN q) := mCall.intro ok_X0_count pl_X0_count rfl (E_X0_count (d := d) h)
def F_X0_advanceX  (s : NetS) : Option (NetS) := gZL (lN 2147483648) (some ((mkN (gN_tc s) (gN_hb s) (Int64.toInt32 ((((Int32.toInt64 (gN_x s)) * (lN 1103515245)) + (lN 12345)) - (((Int32.toInt64 (gN_x s)) * (lN 1103515245)) + (lN 12345)) / (lN 2147483648) * (lN 2147483648))) (gN_hg s) (gN_cc s) (gN_w s) (gN_r s) (gN_hd s) (gN_st s) (gN_ct s) (gN_tt s) (gN_ld s) (gN_ca s))))
set_option maxRecDepth 100000 in
theorem E_X0_advanceX {d : Nat}  {s : NetS} {q : NetS} (h : F_X0_advanceX s = some q) : mEv d m_X0_advanceX none (0, [], [some (.ref 0)], [], memN s) none (memN q) := by
  unfold F_X0_advanceX at h
  obtain ⟨g1, h⟩ := gZL_some h
  refine mEv.gd 11 (S' := (18, _, [some (.ref 0)], [.long ((((Int32.toInt64 (gN_x s)) * (lN 1103515245)) + (lN 12345)) - (((Int32.toInt64 (gN_x s)) * (lN 1103515245)) + (lN 12345)) / (lN 2147483648) * (lN 2147483648)), .ref 0], memN s)) rfl g1 ?_
  obtain rfl := Option.some.inj h
  exact mEv.tgt memN_mk (mEv.stp 2 (S' := (22, _, [some (.ref 0)], [], memNx (gN_tc s) (gN_hb s) (Int64.toInt32 ((((Int32.toInt64 (gN_x s)) * (lN 1103515245)) + (lN 12345)) - (((Int32.toInt64 (gN_x s)) * (lN 1103515245)) + (lN 12345)) / (lN 2147483648) * (lN 2147483648))) (gN_hg s) (gN_cc s) (gN_w s) (gN_r s) (gN_hd s) (gN_st s) (gN_ct s) (gN_tt s) (gN_ld s) (gN_ca s))) rfl (mEv.retv rfl))
theorem A_X0_advanceX {d : Nat}  {s : NetS} {q : NetS} (h : F_X0_advanceX s = some q) : mCall d m_X0_advanceX [.ref 0] (memN s) none (memN q) := mCall.intro ok_X0_advanceX pl_X0_advanceX rfl (E_X0_advanceX (d := d) h)
def J_X0_redraw_43 (x1 : Int32) (x2 : Int32) (x3 : Int32) (s : NetS) : Option (NetS) := (F_X0_pairCell x1 x2).bind (fun v11 => gI v11 36 (some ((mkN (gN_tc s) (gN_hb s) (gN_x s) (gN_hg s) (gN_cc s) (gN_w s) (gN_r s) (gN_hd s) (upd (gN_st s) (Int32.toNatClampNeg v11) x3) (gN_ct s) (gN_tt s) (gN_ld s) (gN_ca s)))))
set_option maxRecDepth 100000 in
theorem K_X0_redraw_43 {d : Nat} {x1 : Int32} {x2 : Int32} {x3 : Int32} {s : NetS} {q : NetS} (h : J_X0_redraw_43 x1 x2 x3 s = some q) : mEv (d + 1) m_X0_redraw none (43, [], [some (.ref 0), some (.int x1), some (.int x2), some (.int x3)], [], memN s) none (memN q) := by
  unfold J_X0_redraw_43 at h
  refine mEv.stp 5 (S' := (49, _, [some (.ref 0), some (.int x1), some (.int x2), some (.int x3)], [.int x2, .int x1, .ref 4], memN s)) rfl ?_
  obtain ⟨v11, e12, h⟩ := bnd h
  refine mEv.callS (As := [.int x1, .int x2]) (st := [.ref 4]) (r := (some (.int v11))) (μ1 := memN s) lk_X0_60 rfl rfl rfl (A_X0_pairCell (d := d + 0) e12) ?_
  refine mEv.stp 0 (S' := (52, _, [some (.ref 0), some (.int x1), some (.int x2), some (.int x3)], [.int v11, .ref 4], memN s)) rfl ?_
  obtain ⟨g13, h⟩ := gI_some h
  refine mEv.gd 2 (S' := (54, _, [some (.ref 0), some (.int x1), some (.int x2), some (.int x3)], [], memNx (gN_tc s) (gN_hb s) (gN_x s) (gN_hg s) (gN_cc s) (gN_w s) (gN_r s) (gN_hd s) (upd (gN_st s) (Int32.toNatClampNeg v11) x3) (gN_ct s) (gN_tt s) (gN_ld s) (gN_ca s))) rfl g13 ?_
  obtain rfl := Option.some.inj h
  exact mEv.tgt memN_mk (mEv.retv rfl)
def J_X0_redraw_31 (x1 : Int32) (x2 : Int32) (x3 : Int32) (s : NetS) : Option (NetS) := (F_J9_max_7cf53 x1 x2).bind (fun v8 => if x3 < v8 then (J_X0_redraw_43 x1 x2 x3 s) else (J_X0_redraw_43 x1 x2 (x3 + (nI 1)) s))
set_option maxRecDepth 100000 in
theorem K_X0_redraw_31 {d : Nat} {x1 : Int32} {x2 : Int32} {x3 : Int32} {s : NetS} {q : NetS} (h : J_X0_redraw_31 x1 x2 x3 s = some q) : mEv (d + 1) m_X0_redraw none (31, [], [some (.ref 0), some (.int x1), some (.int x2), some (.int x3)], [], memN s) none (memN q) := by
  unfold J_X0_redraw_31 at h
  refine mEv.stp 4 (S' := (34, _, [some (.ref 0), some (.int x1), some (.int x2), some (.int x3)], [.int x2, .int x1, .int x3], memN s)) rfl ?_
  obtain ⟨v8, e9, h⟩ := bnd h
  refine mEv.callS (As := [.int x1, .int x2]) (st := [.int x3]) (r := (some (.int v8))) (μ1 := memN s) lk_X0_116 rfl rfl rfl (A_J9_max_7cf53 (d := d + 0) e9) ?_
  refine mEv.stp 0 (S' := (37, _, [some (.ref 0), some (.int x1), some (.int x2), some (.int x3)], [.int v8, .int x3], memN s)) rfl ?_
  refine mEv.br 1 (S1 := (43, [], [some (.ref 0), some (.int x1), some (.int x2), some (.int x3)], [], memN s)) (S2 := (40, _, [some (.ref 0), some (.int x1), some (.int x2), some (.int x3)], [], memN s)) rfl (fun c10 => ?_) (fun c10 => ?_)
  · have h := (if_pos c10).symm.trans h
    exact K_X0_redraw_43 (d := d) h
  · have h := (if_neg c10).symm.trans h
    refine mEv.stp 1 (S' := (43, [], [some (.ref 0), some (.int x1), some (.int x2), some (.int (x3 + (nI 1)))], [], memN s)) rfl ?_
    exact K_X0_redraw_43 (d := d) h
def F_X0_redraw (p1 : Int32) (p2 : Int32) (s : NetS) : Option (NetS) := (F_X0_advanceX s).bind (fun v1 => gZ (nI 65536) (gZ ((gN_tc v1) - (nI 2)) ((F_J9_min_7cf53 p1 p2).bind (fun v5 => if (((gN_x v1) / (nI 65536)) - ((gN_x v1) / (nI 65536)) / ((gN_tc v1) - (nI 2)) * ((gN_tc v1) - (nI 2))) < v5 then (J_X0_redraw_31 p1 p2 (((gN_x v1) / (nI 65536)) - ((gN_x v1) / (nI 65536)) / ((gN_tc v1) - (nI 2)) * ((gN_tc v1) - (nI 2))) v1) else (J_X0_redraw_31 p1 p2 ((((gN_x v1) / (nI 65536)) - ((gN_x v1) / (nI 65536)) / ((gN_tc v1) - (nI 2)) * ((gN_tc v1) - (nI 2))) + (nI 1)) v1)))))
set_option maxRecDepth 100000 in
theorem E_X0_redraw {d : Nat} {p1 : Int32} {p2 : Int32} {s : NetS} {q : NetS} (h : F_X0_redraw p1 p2 s = some q) : mEv (d + 1) m_X0_redraw none (0, [], [some (.ref 0), some (.int p1), some (.int p2), none], [], memN s) none (memN q) := by
  unfold F_X0_redraw at h
  refine mEv.stp 2 (S' := (1, _, [some (.ref 0), some (.int p1), some (.int p2), none], [.ref 0], memN s)) rfl ?_
  obtain ⟨v1, e2, h⟩ := bnd h
  refine mEv.callV (As := []) (st := []) (h := 0) (r := none) (μ1 := memN v1) lk_X0_107 rfl rfl rfl rfl rfl (A_X0_advanceX (d := d + 0) e2) ?_
  refine mEv.stp 0 (S' := (4, _, [some (.ref 0), some (.int p1), some (.int p2), none], [], memN v1)) rfl ?_
  obtain ⟨g3, h⟩ := gZ_some h
  refine mEv.gd 4 (S' := (11, _, [some (.ref 0), some (.int p1), some (.int p2), none], [.int ((gN_x v1) / (nI 65536))], memN v1)) rfl g3 ?_
  obtain ⟨g4, h⟩ := gZ_some h
  refine mEv.gd 5 (S' := (18, _, [some (.ref 0), some (.int p1), some (.int p2), none], [.int (((gN_x v1) / (nI 65536)) - ((gN_x v1) / (nI 65536)) / ((gN_tc v1) - (nI 2)) * ((gN_tc v1) - (nI 2)))], memN v1)) rfl g4 ?_
  refine mEv.stp 4 (S' := (22, _, [some (.ref 0), some (.int p1), some (.int p2), some (.int (((gN_x v1) / (nI 65536)) - ((gN_x v1) / (nI 65536)) / ((gN_tc v1) - (nI 2)) * ((gN_tc v1) - (nI 2))))], [.int p2, .int p1, .int (((gN_x v1) / (nI 65536)) - ((gN_x v1) / (nI 65536)) / ((gN_tc v1) - (nI 2)) * ((gN_tc v1) - (nI 2)))], memN v1)) rfl ?_
  obtain ⟨v5, e6, h⟩ := bnd h
  refine mEv.callS (As := [.int p1, .int p2]) (st := [.int (((gN_x v1) / (nI 65536)) - ((gN_x v1) / (nI 65536)) / ((gN_tc v1) - (nI 2)) * ((gN_tc v1) - (nI 2)))]) (r := (some (.int v5))) (μ1 := memN v1) lk_X0_111 rfl rfl rfl (A_J9_min_7cf53 (d := d + 0) e6) ?_
  refine mEv.stp 0 (S' := (25, _, [some (.ref 0), some (.int p1), some (.int p2), some (.int (((gN_x v1) / (nI 65536)) - ((gN_x v1) / (nI 65536)) / ((gN_tc v1) - (nI 2)) * ((gN_tc v1) - (nI 2))))], [.int v5, .int (((gN_x v1) / (nI 65536)) - ((gN_x v1) / (nI 65536)) / ((gN_tc v1) - (nI 2)) * ((gN_tc v1) - (nI 2)))], memN v1)) rfl ?_
  refine mEv.br 1 (S1 := (31, [], [some (.ref 0), some (.int p1), some (.int p2), some (.int (((gN_x v1) / (nI 65536)) - ((gN_x v1) / (nI 65536)) / ((gN_tc v1) - (nI 2)) * ((gN_tc v1) - (nI 2))))], [], memN v1)) (S2 := (28, _, [some (.ref 0), some (.int p1), some (.int p2), some (.int (((gN_x v1) / (nI 65536)) - ((gN_x v1) / (nI 65536)) / ((gN_tc v1) - (nI 2)) * ((gN_tc v1) - (nI 2))))], [], memN v1)) rfl (fun c7 => ?_) (fun c7 => ?_)
  · have h := (if_pos c7).symm.trans h
    exact K_X0_redraw_31 (d := d) h
  · have h := (if_neg c7).symm.trans h
    refine mEv.stp 1 (S' := (31, [], [some (.ref 0), some (.int p1), some (.int p2), some (.int ((((gN_x v1) / (nI 65536)) - ((gN_x v1) / (nI 65536)) / ((gN_tc v1) - (nI 2)) * ((gN_tc v1) - (nI 2))) + (nI 1)))], [], memN v1)) rfl ?_
    exact K_X0_redraw_31 (d := d) h
theorem A_X0_redraw {d : Nat} {p1 : Int32} {p2 : Int32} {s : NetS} {q : NetS} (h : F_X0_redraw p1 p2 s = some q) : mCall (d + 1) m_X0_redraw [.ref 0, .int p1, .int p2] (memN s) none (memN q) := mCall.intro ok_X0_redraw pl_X0_redraw rfl (E_X0_redraw (d := d) h)
def F_X0_addCall (p1 : Int32) (p2 : Int32) (p3 : Int32) (p4 : Int32) (s : NetS) : Option (Int32 × NetS) := gI (((gN_cc s) * (nI 4)) + (nI 0)) 320 (gI (((gN_cc s) * (nI 4)) + (nI 1)) 320 (gI (((gN_cc s) * (nI 4)) + (nI 2)) 320 (gI (((gN_cc s) * (nI 4)) + (nI 3)) 320 (some ((((gN_cc s) * (nI 4)), (mkN (gN_tc s) (gN_hb s) (gN_x s) (gN_hg s) ((gN_cc s) + (nI 1)) (gN_w s) (gN_r s) (gN_hd s) (gN_st s) (gN_ct s) (gN_tt s) (gN_ld s) (upd (upd (upd (upd (gN_ca s) (Int32.toNatClampNeg (((gN_cc s) * (nI 4)) + (nI 0))) p1) (Int32.toNatClampNeg (((gN_cc s) * (nI 4)) + (nI 1))) p2) (Int32.toNatClampNeg (((gN_cc s) * (nI 4)) + (nI 2))) p3) (Int32.toNatClampNeg (((gN_cc s) * (nI 4)) + (nI 3))) p4))))))))
set_option maxRecDepth 100000 in
theorem E_X0_addCall {d : Nat} {p1 : Int32} {p2 : Int32} {p3 : Int32} {p4 : Int32} {s : NetS} {q : Int32 × NetS} (h : F_X0_addCall p1 p2 p3 p4 s = some q) : mEv d m_X0_addCall none (0, [], [some (.ref 0), some (.int p1), some (.int p2), some (.int p3), some (.int p4), none], [], memN s) (some (.int q.1)) (memN q.2) := by
  unfold F_X0_addCall at h
  obtain ⟨g1, h⟩ := gI_some h
  refine mEv.gd 13 (S' := (18, _, [some (.ref 0), some (.int p1), some (.int p2), some (.int p3), some (.int p4), some (.int ((gN_cc s) * (nI 4)))], [], memNx (gN_tc s) (gN_hb s) (gN_x s) (gN_hg s) (gN_cc s) (gN_w s) (gN_r s) (gN_hd s) (gN_st s) (gN_ct s) (gN_tt s) (gN_ld s) (upd (gN_ca s) (Int32.toNatClampNeg (((gN_cc s) * (nI 4)) + (nI 0))) p1))) rfl g1 ?_
  obtain ⟨g2, h⟩ := gI_some h
  refine mEv.gd 7 (S' := (28, _, [some (.ref 0), some (.int p1), some (.int p2), some (.int p3), some (.int p4), some (.int ((gN_cc s) * (nI 4)))], [], memNx (gN_tc s) (gN_hb s) (gN_x s) (gN_hg s) (gN_cc s) (gN_w s) (gN_r s) (gN_hd s) (gN_st s) (gN_ct s) (gN_tt s) (gN_ld s) (upd (upd (gN_ca s) (Int32.toNatClampNeg (((gN_cc s) * (nI 4)) + (nI 0))) p1) (Int32.toNatClampNeg (((gN_cc s) * (nI 4)) + (nI 1))) p2))) rfl g2 ?_
  obtain ⟨g3, h⟩ := gI_some h
  refine mEv.gd 7 (S' := (38, _, [some (.ref 0), some (.int p1), some (.int p2), some (.int p3), some (.int p4), some (.int ((gN_cc s) * (nI 4)))], [], memNx (gN_tc s) (gN_hb s) (gN_x s) (gN_hg s) (gN_cc s) (gN_w s) (gN_r s) (gN_hd s) (gN_st s) (gN_ct s) (gN_tt s) (gN_ld s) (upd (upd (upd (gN_ca s) (Int32.toNatClampNeg (((gN_cc s) * (nI 4)) + (nI 0))) p1) (Int32.toNatClampNeg (((gN_cc s) * (nI 4)) + (nI 1))) p2) (Int32.toNatClampNeg (((gN_cc s) * (nI 4)) + (nI 2))) p3))) rfl g3 ?_
  obtain ⟨g4, h⟩ := gI_some h
  refine mEv.gd 7 (S' := (49, _, [some (.ref 0), some (.int p1), some (.int p2), some (.int p3), some (.int p4), some (.int ((gN_cc s) * (nI 4)))], [], memNx (gN_tc s) (gN_hb s) (gN_x s) (gN_hg s) (gN_cc s) (gN_w s) (gN_r s) (gN_hd s) (gN_st s) (gN_ct s) (gN_tt s) (gN_ld s) (upd (upd (upd (upd (gN_ca s) (Int32.toNatClampNeg (((gN_cc s) * (nI 4)) + (nI 0))) p1) (Int32.toNatClampNeg (((gN_cc s) * (nI 4)) + (nI 1))) p2) (Int32.toNatClampNeg (((gN_cc s) * (nI 4)) + (nI 2))) p3) (Int32.toNatClampNeg (((gN_cc s) * (nI 4)) + (nI 3))) p4))) rfl g4 ?_
  obtain rfl := Option.some.inj h
  exact mEv.tgt memN_mk (mEv.stp 7 (S' := (61, _, [some (.ref 0), some (.int p1), some (.int p2), some (.int p3), some (.int p4), some (.int ((gN_cc s) * (nI 4)))], [.int ((gN_cc s) * (nI 4))], memNx (gN_tc s) (gN_hb s) (gN_x s) (gN_hg s) ((gN_cc s) + (nI 1)) (gN_w s) (gN_r s) (gN_hd s) (gN_st s) (gN_ct s) (gN_tt s) (gN_ld s) (upd (upd (upd (upd (gN_ca s) (Int32.toNatClampNeg (((gN_cc s) * (nI 4)) + (nI 0))) p1) (Int32.toNatClampNeg (((gN_cc s) * (nI 4)) + (nI 1))) p2) (Int32.toNatClampNeg (((gN_cc s) * (nI 4)) + (nI 2))) p3) (Int32.toNatClampNeg (((gN_cc s) * (nI 4)) + (nI 3))) p4))) rfl (mEv.reti ⟨_, rfl, rfl⟩))
theorem A_X0_addCall {d : Nat} {p1 : Int32} {p2 : Int32} {p3 : Int32} {p4 : Int32} {s : NetS} {q : Int32 × NetS} (h : F_X0_addCall p1 p2 p3 p4 s = some q) : mCall d m_X0_addCall [.ref 0, .int p1, .int p2, .int p3, .int p4] (memN s) (some (.int q.1)) (memN q.2) := mCall.intro ok_X0_addCall pl_X0_addCall rfl (E_X0_addCall (d := d) h)
def F_X0_hold (p1 : Int32) (p2 : Int32) (s : NetS) : Option (NetS) := gI (p1 + (nI 0)) 320 (gI (p1 + (nI 1)) 320 (gI (p1 + (nI 2)) 320 (if ¬ ((gN_ca s) (Int32.toNatClampNeg (p1 + (nI 2)))) = (-nI 1) then ((F_X0_linkCell ((gN_ca s) (Int32.toNatClampNeg (p1 + (nI 0)))) ((gN_ca s) (Int32.toNatClampNeg (p1 + (nI 2))))).bind (fun v5 => gI v5 36 (gI v5 36 ((F_X0_linkCell ((gN_ca s) (Int32.toNatClampNeg (p1 + (nI 2)))) ((gN_ca s) (Int32.toNatClampNeg (p1 + (nI 1))))).bind (fun v9 => gI v9 36 (gI v9 36 (some ((mkN (gN_tc s) (gN_hb s) (gN_x s) (gN_hg s) (gN_cc s) (gN_w s) (gN_r s) (upd (upd (gN_hd s) (Int32.toNatClampNeg v5) (((gN_hd s) (Int32.toNatClampNeg v5)) + p2)) (Int32.toNatClampNeg v9) (((upd (gN_hd s) (Int32.toNatClampNeg v5) (((gN_hd s) (Int32.toNatClampNeg v5)) + p2)) (Int32.toNatClampNeg v9)) + p2)) (gN_st s) (gN_ct s) (gN_tt s) (gN_ld s) (gN_ca s)))))))))) else ((F_X0_linkCell ((gN_ca s) (Int32.toNatClampNeg (p1 + (nI 0)))) ((gN_ca s) (Int32.toNatClampNeg (p1 + (nI 1))))).bind (fun v13 => gI v13 36 (gI v13 36 (some ((mkN (gN_tc s) (gN_hb s) (gN_x s) (gN_hg s) (gN_cc s) (gN_w s) (gN_r s) (upd (gN_hd s) (Int32.toNatClampNeg v13) (((gN_hd s) (Int32.toNatClampNeg v13)) + p2)) (gN_st s) (gN_ct s) (gN_tt s) (gN_ld s) (gN_ca s))))))))))
set_option maxRecDepth 100000 in
theorem E_X0_hold {d : Nat} {p1 : Int32} {p2 : Int32} {s : NetS} {q : NetS} (h : F_X0_hold p1 p2 s = some q) : mEv (d + 1) m_X0_hold none (0, [], [some (.ref 0), some (.int p1), some (.int p2), none, none, none], [], memN s) none (memN q) := by
  unfold F_X0_hold at h
  obtain ⟨g1, h⟩ := gI_some h
  refine mEv.gd 7 (S' := (8, _, [some (.ref 0), some (.int p1), some (.int p2), none, none, none], [.int ((gN_ca s) (Int32.toNatClampNeg (p1 + (nI 0))))], memN s)) rfl g1 ?_
  obtain ⟨g2, h⟩ := gI_some h
  refine mEv.gd 7 (S' := (17, _, [some (.ref 0), some (.int p1), some (.int p2), some (.int ((gN_ca s) (Int32.toNatClampNeg (p1 + (nI 0))))), none, none], [.int ((gN_ca s) (Int32.toNatClampNeg (p1 + (nI 1))))], memN s)) rfl g2 ?_
  obtain ⟨g3, h⟩ := gI_some h
  refine mEv.gd 7 (S' := (27, _, [some (.ref 0), some (.int p1), some (.int p2), some (.int ((gN_ca s) (Int32.toNatClampNeg (p1 + (nI 0))))), some (.int ((gN_ca s) (Int32.toNatClampNeg (p1 + (nI 1))))), none], [.int ((gN_ca s) (Int32.toNatClampNeg (p1 + (nI 2))))], memN s)) rfl g3 ?_
  refine mEv.br 4 (S1 := (53, [], [some (.ref 0), some (.int p1), some (.int p2), some (.int ((gN_ca s) (Int32.toNatClampNeg (p1 + (nI 0))))), some (.int ((gN_ca s) (Int32.toNatClampNeg (p1 + (nI 1))))), some (.int ((gN_ca s) (Int32.toNatClampNeg (p1 + (nI 2)))))], [], memN s)) (S2 := (35, _, [some (.ref 0), some (.int p1), some (.int p2), some (.int ((gN_ca s) (Int32.toNatClampNeg (p1 + (nI 0))))), some (.int ((gN_ca s) (Int32.toNatClampNeg (p1 + (nI 1))))), some (.int ((gN_ca s) (Int32.toNatClampNeg (p1 + (nI 2)))))], [], memN s)) rfl (fun c4 => ?_) (fun c4 => ?_)
  · have h := (if_pos c4).symm.trans h
    refine mEv.stp 5 (S' := (60, _, [some (.ref 0), some (.int p1), some (.int p2), some (.int ((gN_ca s) (Int32.toNatClampNeg (p1 + (nI 0))))), some (.int ((gN_ca s) (Int32.toNatClampNeg (p1 + (nI 1))))), some (.int ((gN_ca s) (Int32.toNatClampNeg (p1 + (nI 2)))))], [.int ((gN_ca s) (Int32.toNatClampNeg (p1 + (nI 2)))), .int ((gN_ca s) (Int32.toNatClampNeg (p1 + (nI 0)))), .ref 3], memN s)) rfl ?_
    obtain ⟨v5, e6, h⟩ := bnd h
    refine mEv.callS (As := [.int ((gN_ca s) (Int32.toNatClampNeg (p1 + (nI 0)))), .int ((gN_ca s) (Int32.toNatClampNeg (p1 + (nI 2))))]) (st := [.ref 3]) (r := (some (.int v5))) (μ1 := memN s) lk_X0_73 rfl rfl rfl (A_X0_linkCell (d := d + 0) e6) ?_
    refine mEv.stp 0 (S' := (63, _, [some (.ref 0), some (.int p1), some (.int p2), some (.int ((gN_ca s) (Int32.toNatClampNeg (p1 + (nI 0))))), some (.int ((gN_ca s) (Int32.toNatClampNeg (p1 + (nI 1))))), some (.int ((gN_ca s) (Int32.toNatClampNeg (p1 + (nI 2)))))], [.int v5, .ref 3], memN s)) rfl ?_
    obtain ⟨g7, h⟩ := gI_some h
    refine mEv.gd 2 (S' := (65, _, [some (.ref 0), some (.int p1), some (.int p2), some (.int ((gN_ca s) (Int32.toNatClampNeg (p1 + (nI 0))))), some (.int ((gN_ca s) (Int32.toNatClampNeg (p1 + (nI 1))))), some (.int ((gN_ca s) (Int32.toNatClampNeg (p1 + (nI 2)))))], [.int ((gN_hd s) (Int32.toNatClampNeg v5)), .int v5, .ref 3], memN s)) rfl g7 ?_
    obtain ⟨g8, h⟩ := gI_some h
    refine mEv.gd 3 (S' := (68, _, [some (.ref 0), some (.int p1), some (.int p2), some (.int ((gN_ca s) (Int32.toNatClampNeg (p1 + (nI 0))))), some (.int ((gN_ca s) (Int32.toNatClampNeg (p1 + (nI 1))))), some (.int ((gN_ca s) (Int32.toNatClampNeg (p1 + (nI 2)))))], [], memNx (gN_tc s) (gN_hb s) (gN_x s) (gN_hg s) (gN_cc s) (gN_w s) (gN_r s) (upd (gN_hd s) (Int32.toNatClampNeg v5) (((gN_hd s) (Int32.toNatClampNeg v5)) + p2)) (gN_st s) (gN_ct s) (gN_tt s) (gN_ld s) (gN_ca s))) rfl g8 ?_
    refine mEv.stp 4 (S' := (76, _, [some (.ref 0), some (.int p1), some (.int p2), some (.int ((gN_ca s) (Int32.toNatClampNeg (p1 + (nI 0))))), some (.int ((gN_ca s) (Int32.toNatClampNeg (p1 + (nI 1))))), some (.int ((gN_ca s) (Int32.toNatClampNeg (p1 + (nI 2)))))], [.int ((gN_ca s) (Int32.toNatClampNeg (p1 + (nI 1)))), .int ((gN_ca s) (Int32.toNatClampNeg (p1 + (nI 2)))), .ref 3], memNx (gN_tc s) (gN_hb s) (gN_x s) (gN_hg s) (gN_cc s) (gN_w s) (gN_r s) (upd (gN_hd s) (Int32.toNatClampNeg v5) (((gN_hd s) (Int32.toNatClampNeg v5)) + p2)) (gN_st s) (gN_ct s) (gN_tt s) (gN_ld s) (gN_ca s))) rfl ?_
    obtain ⟨v9, e10, h⟩ := bnd h
    refine mEv.callS (As := [.int ((gN_ca s) (Int32.toNatClampNeg (p1 + (nI 2)))), .int ((gN_ca s) (Int32.toNatClampNeg (p1 + (nI 1))))]) (st := [.ref 3]) (r := (some (.int v9))) (μ1 := memNx (gN_tc s) (gN_hb s) (gN_x s) (gN_hg s) (gN_cc s) (gN_w s) (gN_r s) (upd (gN_hd s) (Int32.toNatClampNeg v5) (((gN_hd s) (Int32.toNatClampNeg v5)) + p2)) (gN_st s) (gN_ct s) (gN_tt s) (gN_ld s) (gN_ca s)) lk_X0_73 rfl rfl rfl (A_X0_linkCell (d := d + 0) e10) ?_
    refine mEv.stp 0 (S' := (79, _, [some (.ref 0), some (.int p1), some (.int p2), some (.int ((gN_ca s) (Int32.toNatClampNeg (p1 + (nI 0))))), some (.int ((gN_ca s) (Int32.toNatClampNeg (p1 + (nI 1))))), some (.int ((gN_ca s) (Int32.toNatClampNeg (p1 + (nI 2)))))], [.int v9, .ref 3], memNx (gN_tc s) (gN_hb s) (gN_x s) (gN_hg s) (gN_cc s) (gN_w s) (gN_r s) (upd (gN_hd s) (Int32.toNatClampNeg v5) (((gN_hd s) (Int32.toNatClampNeg v5)) + p2)) (gN_st s) (gN_ct s) (gN_tt s) (gN_ld s) (gN_ca s))) rfl ?_
    obtain ⟨g11, h⟩ := gI_some h
    refine mEv.gd 2 (S' := (81, _, [some (.ref 0), some (.int p1), some (.int p2), some (.int ((gN_ca s) (Int32.toNatClampNeg (p1 + (nI 0))))), some (.int ((gN_ca s) (Int32.toNatClampNeg (p1 + (nI 1))))), some (.int ((gN_ca s) (Int32.toNatClampNeg (p1 + (nI 2)))))], [.int ((upd (gN_hd s) (Int32.toNatClampNeg v5) (((gN_hd s) (Int32.toNatClampNeg v5)) + p2)) (Int32.toNatClampNeg v9)), .int v9, .ref 3], memNx (gN_tc s) (gN_hb s) (gN_x s) (gN_hg s) (gN_cc s) (gN_w s) (gN_r s) (upd (gN_hd s) (Int32.toNatClampNeg v5) (((gN_hd s) (Int32.toNatClampNeg v5)) + p2)) (gN_st s) (gN_ct s) (gN_tt s) (gN_ld s) (gN_ca s))) rfl g11 ?_
    obtain ⟨g12, h⟩ := gI_some h
    refine mEv.gd 3 (S' := (84, [], [some (.ref 0), some (.int p1), some (.int p2), some (.int ((gN_ca s) (Int32.toNatClampNeg (p1 + (nI 0))))), some (.int ((gN_ca s) (Int32.toNatClampNeg (p1 + (nI 1))))), some (.int ((gN_ca s) (Int32.toNatClampNeg (p1 + (nI 2)))))], [], memNx (gN_tc s) (gN_hb s) (gN_x s) (gN_hg s) (gN_cc s) (gN_w s) (gN_r s) (upd (upd (gN_hd s) (Int32.toNatClampNeg v5) (((gN_hd s) (Int32.toNatClampNeg v5)) + p2)) (Int32.toNatClampNeg v9) (((upd (gN_hd s) (Int32.toNatClampNeg v5) (((gN_hd s) (Int32.toNatClampNeg v5)) + p2)) (Int32.toNatClampNeg v9)) + p2)) (gN_st s) (gN_ct s) (gN_tt s) (gN_ld s) (gN_ca s))) rfl g12 ?_
    obtain rfl := Option.some.inj h
    exact mEv.tgt memN_mk (mEv.stp 1 (S' := (84, _, [some (.ref 0), some (.int p1), some (.int p2), some (.int ((gN_ca s) (Int32.toNatClampNeg (p1 + (nI 0))))), some (.int ((gN_ca s) (Int32.toNatClampNeg (p1 + (nI 1))))), some (.int ((gN_ca s) (Int32.toNatClampNeg (p1 + (nI 2)))))], [], memNx (gN_tc s) (gN_hb s) (gN_x s) (gN_hg s) (gN_cc s) (gN_w s) (gN_r s) (upd (upd (gN_hd s) (Int32.toNatClampNeg v5) (((gN_hd s) (Int32.toNatClampNeg v5)) + p2)) (Int32.toNatClampNeg v9) (((upd (gN_hd s) (Int32.toNatClampNeg v5) (((gN_hd s) (Int32.toNatClampNeg v5)) + p2)) (Int32.toNatClampNeg v9)) + p2)) (gN_st s) (gN_ct s) (gN_tt s) (gN_ld s) (gN_ca s))) rfl (mEv.retv rfl))
  · have h := (if_neg c4).symm.trans h
    refine mEv.stp 4 (S' := (42, _, [some (.ref 0), some (.int p1), some (.int p2), some (.int ((gN_ca s) (Int32.toNatClampNeg (p1 + (nI 0))))), some (.int ((gN_ca s) (Int32.toNatClampNeg (p1 + (nI 1))))), some (.int ((gN_ca s) (Int32.toNatClampNeg (p1 + (nI 2)))))], [.int ((gN_ca s) (Int32.toNatClampNeg (p1 + (nI 1)))), .int ((gN_ca s) (Int32.toNatClampNeg (p1 + (nI 0)))), .ref 3], memN s)) rfl ?_
    obtain ⟨v13, e14, h⟩ := bnd h
    refine mEv.callS (As := [.int ((gN_ca s) (Int32.toNatClampNeg (p1 + (nI 0)))), .int ((gN_ca s) (Int32.toNatClampNeg (p1 + (nI 1))))]) (st := [.ref 3]) (r := (some (.int v13))) (μ1 := memN s) lk_X0_73 rfl rfl rfl (A_X0_linkCell (d := d + 0) e14) ?_
    refine mEv.stp 0 (S' := (45, _, [some (.ref 0), some (.int p1), some (.int p2), some (.int ((gN_ca s) (Int32.toNatClampNeg (p1 + (nI 0))))), some (.int ((gN_ca s) (Int32.toNatClampNeg (p1 + (nI 1))))), some (.int ((gN_ca s) (Int32.toNatClampNeg (p1 + (nI 2)))))], [.int v13, .ref 3], memN s)) rfl ?_
    obtain ⟨g15, h⟩ := gI_some h
    refine mEv.gd 2 (S' := (47, _, [some (.ref 0), some (.int p1), some (.int p2), some (.int ((gN_ca s) (Int32.toNatClampNeg (p1 + (nI 0))))), some (.int ((gN_ca s) (Int32.toNatClampNeg (p1 + (nI 1))))), some (.int ((gN_ca s) (Int32.toNatClampNeg (p1 + (nI 2)))))], [.int ((gN_hd s) (Int32.toNatClampNeg v13)), .int v13, .ref 3], memN s)) rfl g15 ?_
    obtain ⟨g16, h⟩ := gI_some h
    refine mEv.gd 3 (S' := (50, _, [some (.ref 0), some (.int p1), some (.int p2), some (.int ((gN_ca s) (Int32.toNatClampNeg (p1 + (nI 0))))), some (.int ((gN_ca s) (Int32.toNatClampNeg (p1 + (nI 1))))), some (.int ((gN_ca s) (Int32.toNatClampNeg (p1 + (nI 2)))))], [], memNx (gN_tc s) (gN_hb s) (gN_x s) (gN_hg s) (gN_cc s) (gN_w s) (gN_r s) (upd (gN_hd s) (Int32.toNatClampNeg v13) (((gN_hd s) (Int32.toNatClampNeg v13)) + p2)) (gN_st s) (gN_ct s) (gN_tt s) (gN_ld s) (gN_ca s))) rfl g16 ?_
    obtain rfl := Option.some.inj h
    exact mEv.tgt memN_mk (mEv.stp 2 (S' := (84, _, [some (.ref 0), some (.int p1), some (.int p2), some (.int ((gN_ca s) (Int32.toNatClampNeg (p1 + (nI 0))))), some (.int ((gN_ca s) (Int32.toNatClampNeg (p1 + (nI 1))))), some (.int ((gN_ca s) (Int32.toNatClampNeg (p1 + (nI 2)))))], [], memNx (gN_tc s) (gN_hb s) (gN_x s) (gN_hg s) (gN_cc s) (gN_w s) (gN_r s) (upd (gN_hd s) (Int32.toNatClampNeg v13) (((gN_hd s) (Int32.toNatClampNeg v13)) + p2)) (gN_st s) (gN_ct s) (gN_tt s) (gN_ld s) (gN_ca s))) rfl (mEv.retv rfl))
theorem A_X0_hold {d : Nat} {p1 : Int32} {p2 : Int32} {s : NetS} {q : NetS} (h : F_X0_hold p1 p2 s = some q) : mCall (d + 1) m_X0_hold [.ref 0, .int p1, .int p2] (memN s) none (memN q) := mCall.intro ok_X0_hold pl_X0_hold rfl (E_X0_hold (d := d) h)
def J_X0_ask_130 (x1 : Int32) (x2 : Int32) (x3 : Int32) (x4 : Int32) (x5 : Int32) (y0 : Int32) (s : NetS) : Option (Int32 × NetS) := (F_X0_count y0 x4 s).bind (fun v11 => (F_X0_addCall x1 x2 x5 x3 v11).bind (fun v13 => (F_X0_hold v13.1 (nI 1) v13.2).bind (fun v15 => some ((x5, v15)))))
set_option maxRecDepth 100000 in
theorem K_X0_ask_130 {d : Nat} {x1 : Int32} {x2 : Int32} {x3 : Int32} {x4 : Int32} {x5 : Int32} {y0 : Int32} {s : NetS} {q : Int32 × NetS} (h : J_X0_ask_130 x1 x2 x3 x4 x5 y0 s = some q) : mEv (d + 2) m_X0_ask none (130, [], [some (.ref 0), some (.int x1), some (.int x2), some (.int x3), some (.int x4), some (.int x5)], [.int y0, .ref 0], memN s) (some (.int q.1)) (memN q.2) := by
  unfold J_X0_ask_130 at h
  refine mEv.stp 2 (S' := (132, _, [some (.ref 0), some (.int x1), some (.int x2), some (.int x3), some (.int x4), some (.int x5)], [.int x4, .int y0, .ref 0], memN s)) rfl ?_
  obtain ⟨v11, e12, h⟩ := bnd h
  refine mEv.callV (As := [.int y0, .int x4]) (st := []) (h := 0) (r := none) (μ1 := memN v11) lk_X0_84 rfl rfl rfl rfl rfl (A_X0_count (d := d + 1) e12) ?_
  refine mEv.stp 0 (S' := (135, _, [some (.ref 0), some (.int x1), some (.int x2), some (.int x3), some (.int x4), some (.int x5)], [], memN v11)) rfl ?_
  refine mEv.stp 6 (S' := (142, _, [some (.ref 0), some (.int x1), some (.int x2), some (.int x3), some (.int x4), some (.int x5)], [.int x3, .int x5, .int x2, .int x1, .ref 0, .ref 0], memN v11)) rfl ?_
  obtain ⟨v13, e14, h⟩ := bnd h
  refine mEv.callV (As := [.int x1, .int x2, .int x5, .int x3]) (st := [.ref 0]) (h := 0) (r := (some (.int v13.1))) (μ1 := memN v13.2) lk_X0_94 rfl rfl rfl rfl rfl (A_X0_addCall (d := d + 1) e14) ?_
  refine mEv.stp 0 (S' := (145, _, [some (.ref 0), some (.int x1), some (.int x2), some (.int x3), some (.int x4), some (.int x5)], [.int v13.1, .ref 0], memN v13.2)) rfl ?_
  refine mEv.stp 1 (S' := (146, _, [some (.ref 0), some (.int x1), some (.int x2), some (.int x3), some (.int x4), some (.int x5)], [.int (nI 1), .int v13.1, .ref 0], memN v13.2)) rfl ?_
  obtain ⟨v15, e16, h⟩ := bnd h
  refine mEv.callV (As := [.int v13.1, .int (nI 1)]) (st := []) (h := 0) (r := none) (μ1 := memN v15) lk_X0_98 rfl rfl rfl rfl rfl (A_X0_hold (d := d + 0) e16) ?_
  refine mEv.stp 0 (S' := (149, _, [some (.ref 0), some (.int x1), some (.int x2), some (.int x3), some (.int x4), some (.int x5)], [], memN v15)) rfl ?_
  obtain rfl := Option.some.inj h
  exact mEv.stp 1 (S' := (151, _, [some (.ref 0), some (.int x1), some (.int x2), some (.int x3), some (.int x4), some (.int x5)], [.int x5], memN v15)) rfl (mEv.reti ⟨_, rfl, rfl⟩)
def J_X0_ask_95 (x1 : Int32) (x2 : Int32) (x3 : Int32) (x4 : Int32) (x5 : Int32) (s : NetS) : Option (Int32 × NetS) := if ¬ x5 = (-nI 5) then (if ¬ x5 = (-nI 1) then (J_X0_ask_130 x1 x2 x3 x4 x5 (nI 2) s) else (J_X0_ask_130 x1 x2 x3 x4 x5 (nI 1) s)) else ((F_X0_count (nI 4) x4 s).bind (fun v17 => (F_X0_redraw x1 x2 v17).bind (fun v19 => some (((-nI 5), v19)))))
set_option maxRecDepth 100000 in
theorem K_X0_ask_95 {d : Nat} {x1 : Int32} {x2 : Int32} {x3 : Int32} {x4 : Int32} {x5 : Int32} {s : NetS} {q : Int32 × NetS} (h : J_X0_ask_95 x1 x2 x3 x4 x5 s = some q) : mEv (d + 2) m_X0_ask none (95, [], [some (.ref 0), some (.int x1), some (.int x2), some (.int x3), some (.int x4), some (.int x5)], [], memN s) (some (.int q.1)) (memN q.2) := by
  unfold J_X0_ask_95 at h
  refine mEv.br 4 (S1 := (118, [], [some (.ref 0), some (.int x1), some (.int x2), some (.int x3), some (.int x4), some (.int x5)], [], memN s)) (S2 := (102, _, [some (.ref 0), some (.int x1), some (.int x2), some (.int x3), some (.int x4), some (.int x5)], [], memN s)) rfl (fun c9 => ?_) (fun c9 => ?_)
  · have h := (if_pos c9).symm.trans h
    refine mEv.br 5 (S1 := (129, [], [some (.ref 0), some (.int x1), some (.int x2), some (.int x3), some (.int x4), some (.int x5)], [.ref 0], memN s)) (S2 := (125, _, [some (.ref 0), some (.int x1), some (.int x2), some (.int x3), some (.int x4), some (.int x5)], [.ref 0], memN s)) rfl (fun c10 => ?_) (fun c10 => ?_)
    · have h := (if_pos c10).symm.trans h
      refine mEv.stp 2 (S' := (130, [], [some (.ref 0), some (.int x1), some (.int x2), some (.int x3), some (.int x4), some (.int x5)], [.int (nI 2), .ref 0], memN s)) rfl ?_
      exact K_X0_ask_130 (d := d) h
    · have h := (if_neg c10).symm.trans h
      refine mEv.stp 2 (S' := (130, [], [some (.ref 0), some (.int x1), some (.int x2), some (.int x3), some (.int x4), some (.int x5)], [.int (nI 1), .ref 0], memN s)) rfl ?_
      exact K_X0_ask_130 (d := d) h
  · have h := (if_neg c9).symm.trans h
    refine mEv.stp 3 (S' := (106, _, [some (.ref 0), some (.int x1), some (.int x2), some (.int x3), some (.int x4), some (.int x5)], [.int x4, .int (nI 4), .ref 0], memN s)) rfl ?_
    obtain ⟨v17, e18, h⟩ := bnd h
    refine mEv.callV (As := [.int (nI 4), .int x4]) (st := []) (h := 0) (r := none) (μ1 := memN v17) lk_X0_84 rfl rfl rfl rfl rfl (A_X0_count (d := d + 1) e18) ?_
    refine mEv.stp 0 (S' := (109, _, [some (.ref 0), some (.int x1), some (.int x2), some (.int x3), some (.int x4), some (.int x5)], [], memN v17)) rfl ?_
    refine mEv.stp 3 (S' := (112, _, [some (.ref 0), some (.int x1), some (.int x2), some (.int x3), some (.int x4), some (.int x5)], [.int x2, .int x1, .ref 0], memN v17)) rfl ?_
    obtain ⟨v19, e20, h⟩ := bnd h
    refine mEv.callV (As := [.int x1, .int x2]) (st := []) (h := 0) (r := none) (μ1 := memN v19) lk_X0_91 rfl rfl rfl rfl rfl (A_X0_redraw (d := d + 0) e20) ?_
    refine mEv.stp 0 (S' := (115, _, [some (.ref 0), some (.int x1), some (.int x2), some (.int x3), some (.int x4), some (.int x5)], [], memN v19)) rfl ?_
    obtain rfl := Option.some.inj h
    exact mEv.stp 1 (S' := (117, _, [some (.ref 0), some (.int x1), some (.int x2), some (.int x3), some (.int x4), some (.int x5)], [.int (-nI 5)], memN v19)) rfl (mEv.reti ⟨_, rfl, rfl⟩)
def F_X0_ask (p1 : Int32) (p2 : Int32) (p3 : Int32) (s : NetS) : Option (Int32 × NetS) := (F_X0_pairCell p1 p2).bind (fun v1 => (F_X0_count (nI 0) v1 s).bind (fun v3 => if (gN_cc v3) < (nI 80) then ((F_X0_wayNow p1 p2 v3).bind (fun v6 => if ¬ v6 = (-nI 5) then (J_X0_ask_95 p1 p2 p3 v1 v6 v3) else (if ¬ (gN_hb v3) = (nI 1) then (J_X0_ask_95 p1 p2 p3 v1 v6 v3) else (gI v1 36 ((F_X0_linkCell p1 ((gN_st v3) (Int32.toNatClampNeg v1))).bind (fun v23 => (F_X0_servesOver v23 v3).bind (fun v25 => if v25 = (nI 0) then (J_X0_ask_95 p1 p2 p3 v1 v6 v3) else ((F_X0_count (nI 3) v1 v3).bind (fun v28 => (F_X0_redraw p1 p2 v28).bind (fun v30 => (F_X0_wayNow p1 p2 v30).bind (fun v32 => J_X0_ask_95 p1 p2 p3 v1 v32 v30))))))))))) else ((F_X0_count (nI 4) v1 v3).bind (fun v34 => some (((-nI 5), v34))))))
set_option maxRecDepth 100000 in
theorem E_X0_ask {d : Nat} {p1 : Int32} {p2 : Int32} {p3 : Int32} {s : NetS} {q : Int32 × NetS} (h : F_X0_ask p1 p2 p3 s = some q) : mEv (d + 2) m_X0_ask none (0, [], [some (.ref 0), some (.int p1), some (.int p2), some (.int p3), none, none], [], memN s) (some (.int q.1)) (memN q.2) := by
  unfold F_X0_ask at h
  refine mEv.stp 3 (S' := (2, _, [some (.ref 0), some (.int p1), some (.int p2), some (.int p3), none, none], [.int p2, .int p1], memN s)) rfl ?_
  obtain ⟨v1, e2, h⟩ := bnd h
  refine mEv.callS (As := [.int p1, .int p2]) (st := []) (r := (some (.int v1))) (μ1 := memN s) lk_X0_60 rfl rfl rfl (A_X0_pairCell (d := d + 1) e2) ?_
  refine mEv.stp 0 (S' := (5, _, [some (.ref 0), some (.int p1), some (.int p2), some (.int p3), none, none], [.int v1], memN s)) rfl ?_
  refine mEv.stp 4 (S' := (11, _, [some (.ref 0), some (.int p1), some (.int p2), some (.int p3), some (.int v1), none], [.int v1, .int (nI 0), .ref 0], memN s)) rfl ?_
  obtain ⟨v3, e4, h⟩ := bnd h
  refine mEv.callV (As := [.int (nI 0), .int v1]) (st := []) (h := 0) (r := none) (μ1 := memN v3) lk_X0_84 rfl rfl rfl rfl rfl (A_X0_count (d := d + 1) e4) ?_
  refine mEv.stp 0 (S' := (14, _, [some (.ref 0), some (.int p1), some (.int p2), some (.int p3), some (.int v1), none], [], memN v3)) rfl ?_
  refine mEv.br 4 (S1 := (33, [], [some (.ref 0), some (.int p1), some (.int p2), some (.int p3), some (.int v1), none], [], memN v3)) (S2 := (23, _, [some (.ref 0), some (.int p1), some (.int p2), some (.int p3), some (.int v1), none], [], memN v3)) rfl (fun c5 => ?_) (fun c5 => ?_)
  · have h := (if_pos c5).symm.trans h
    refine mEv.stp 4 (S' := (36, _, [some (.ref 0), some (.int p1), some (.int p2), some (.int p3), some (.int v1), none], [.int p2, .int p1, .ref 0], memN v3)) rfl ?_
    obtain ⟨v6, e7, h⟩ := bnd h
    refine mEv.callV (As := [.int p1, .int p2]) (st := []) (h := 0) (r := (some (.int v6))) (μ1 := memN v3) lk_X0_88 rfl rfl rfl rfl rfl (A_X0_wayNow (d := d + 0) e7) ?_
    refine mEv.stp 0 (S' := (39, _, [some (.ref 0), some (.int p1), some (.int p2), some (.int p3), some (.int v1), none], [.int v6], memN v3)) rfl ?_
    refine mEv.br 4 (S1 := (95, [], [some (.ref 0), some (.int p1), some (.int p2), some (.int p3), some (.int v1), some (.int v6)], [], memN v3)) (S2 := (48, _, [some (.ref 0), some (.int p1), some (.int p2), some (.int p3), some (.int v1), some (.int v6)], [], memN v3)) rfl (fun c8 => ?_) (fun c8 => ?_)
    · have h := (if_pos c8).symm.trans h
      exact K_X0_ask_95 (d := d) h
    · have h := (if_neg c8).symm.trans h
      refine mEv.br 4 (S1 := (95, [], [some (.ref 0), some (.int p1), some (.int p2), some (.int p3), some (.int v1), some (.int v6)], [], memN v3)) (S2 := (56, _, [some (.ref 0), some (.int p1), some (.int p2), some (.int p3), some (.int v1), some (.int v6)], [], memN v3)) rfl (fun c21 => ?_) (fun c21 => ?_)
      · have h := (if_pos c21).symm.trans h
        exact K_X0_ask_95 (d := d) h
      · have h := (if_neg c21).symm.trans h
        obtain ⟨g22, h⟩ := gI_some h
        refine mEv.gd 6 (S' := (65, _, [some (.ref 0), some (.int p1), some (.int p2), some (.int p3), some (.int v1), some (.int v6)], [.int ((gN_st v3) (Int32.toNatClampNeg v1)), .int p1, .ref 0], memN v3)) rfl g22 ?_
        obtain ⟨v23, e24, h⟩ := bnd h
        refine mEv.callS (As := [.int p1, .int ((gN_st v3) (Int32.toNatClampNeg v1))]) (st := [.ref 0]) (r := (some (.int v23))) (μ1 := memN v3) lk_X0_73 rfl rfl rfl (A_X0_linkCell (d := d + 1) e24) ?_
        refine mEv.stp 0 (S' := (68, _, [some (.ref 0), some (.int p1), some (.int p2), some (.int p3), some (.int v1), some (.int v6)], [.int v23, .ref 0], memN v3)) rfl ?_
        obtain ⟨v25, e26, h⟩ := bnd h
        refine mEv.callV (As := [.int v23]) (st := []) (h := 0) (r := (some (.int v25))) (μ1 := memN v3) lk_X0_80 rfl rfl rfl rfl rfl (A_X0_servesOver (d := d + 1) e26) ?_
        refine mEv.stp 0 (S' := (71, _, [some (.ref 0), some (.int p1), some (.int p2), some (.int p3), some (.int v1), some (.int v6)], [.int v25], memN v3)) rfl ?_
        refine mEv.br 1 (S1 := (95, [], [some (.ref 0), some (.int p1), some (.int p2), some (.int p3), some (.int v1), some (.int v6)], [], memN v3)) (S2 := (74, _, [some (.ref 0), some (.int p1), some (.int p2), some (.int p3), some (.int v1), some (.int v6)], [], memN v3)) rfl (fun c27 => ?_) (fun c27 => ?_)
        · have h := (if_pos c27).symm.trans h
          exact K_X0_ask_95 (d := d) h
        · have h := (if_neg c27).symm.trans h
          refine mEv.stp 3 (S' := (78, _, [some (.ref 0), some (.int p1), some (.int p2), some (.int p3), some (.int v1), some (.int v6)], [.int v1, .int (nI 3), .ref 0], memN v3)) rfl ?_
          obtain ⟨v28, e29, h⟩ := bnd h
          refine mEv.callV (As := [.int (nI 3), .int v1]) (st := []) (h := 0) (r := none) (μ1 := memN v28) lk_X0_84 rfl rfl rfl rfl rfl (A_X0_count (d := d + 1) e29) ?_
          refine mEv.stp 0 (S' := (81, _, [some (.ref 0), some (.int p1), some (.int p2), some (.int p3), some (.int v1), some (.int v6)], [], memN v28)) rfl ?_
          refine mEv.stp 3 (S' := (84, _, [some (.ref 0), some (.int p1), some (.int p2), some (.int p3), some (.int v1), some (.int v6)], [.int p2, .int p1, .ref 0], memN v28)) rfl ?_
          obtain ⟨v30, e31, h⟩ := bnd h
          refine mEv.callV (As := [.int p1, .int p2]) (st := []) (h := 0) (r := none) (μ1 := memN v30) lk_X0_91 rfl rfl rfl rfl rfl (A_X0_redraw (d := d + 0) e31) ?_
          refine mEv.stp 0 (S' := (87, _, [some (.ref 0), some (.int p1), some (.int p2), some (.int p3), some (.int v1), some (.int v6)], [], memN v30)) rfl ?_
          refine mEv.stp 3 (S' := (90, _, [some (.ref 0), some (.int p1), some (.int p2), some (.int p3), some (.int v1), some (.int v6)], [.int p2, .int p1, .ref 0], memN v30)) rfl ?_
          obtain ⟨v32, e33, h⟩ := bnd h
          refine mEv.callV (As := [.int p1, .int p2]) (st := []) (h := 0) (r := (some (.int v32))) (μ1 := memN v30) lk_X0_88 rfl rfl rfl rfl rfl (A_X0_wayNow (d := d + 0) e33) ?_
          refine mEv.stp 0 (S' := (93, _, [some (.ref 0), some (.int p1), some (.int p2), some (.int p3), some (.int v1), some (.int v6)], [.int v32], memN v30)) rfl ?_
          refine mEv.stp 1 (S' := (95, [], [some (.ref 0), some (.int p1), some (.int p2), some (.int p3), some (.int v1), some (.int v32)], [], memN v30)) rfl ?_
          exact K_X0_ask_95 (d := d) h
  · have h := (if_neg c5).symm.trans h
    refine mEv.stp 3 (S' := (27, _, [some (.ref 0), some (.int p1), some (.int p2), some (.int p3), some (.int v1), none], [.int v1, .int (nI 4), .ref 0], memN v3)) rfl ?_
    obtain ⟨v34, e35, h⟩ := bnd h
    refine mEv.callV (As := [.int (nI 4), .int v1]) (st := []) (h := 0) (r := none) (μ1 := memN v34) lk_X0_84 rfl rfl rfl rfl rfl (A_X0_count (d := d + 1) e35) ?_
    refine mEv.stp 0 (S' := (30, _, [some (.ref 0), some (.int p1), some (.int p2), some (.int p3), some (.int v1), none], [], memN v34)) rfl ?_
    obtain rfl := Option.some.inj h
    exact mEv.stp 1 (S' := (32, _, [some (.ref 0), some (.int p1), some (.int p2), some (.int p3), some (.int v1), none], [.int (-nI 5)], memN v34)) rfl (mEv.reti ⟨_, rfl, rfl⟩)
theorem A_X0_ask {d : Nat} {p1 : Int32} {p2 : Int32} {p3 : Int32} {s : NetS} {q : Int32 × NetS} (h : F_X0_ask p1 p2 p3 s = some q) : mCall (d + 2) m_X0_ask [.ref 0, .int p1, .int p2, .int p3] (memN s) (some (.int q.1)) (memN q.2) := mCall.intro ok_X0_ask pl_X0_ask rfl (E_X0_ask (d := d) h)
def F_X0_endCall (p1 : Int32) (s : NetS) : Option (NetS) := (F_X0_hold (p1 * (nI 4)) (-nI 1) s).bind (fun v1 => gC ((p1 * (nI 4)) + (nI 4)) (p1 * (nI 4)) ((((gN_cc s) - p1) - (nI 1)) * (nI 4)) 320 320 (some ((mkN (gN_tc v1) (gN_hb v1) (gN_x v1) (gN_hg v1) ((gN_cc v1) - (nI 1)) (gN_w v1) (gN_r v1) (gN_hd v1) (gN_st v1) (gN_ct v1) (gN_tt v1) (gN_ld v1) (va_cpy (gN_ca v1) (gN_ca v1) (Int32.toNatClampNeg ((p1 * (nI 4)) + (nI 4))) (Int32.toNatClampNeg (p1 * (nI 4))) (Int32.toNatClampNeg ((((gN_cc s) - p1) - (nI 1)) * (nI 4))))))))
set_option maxRecDepth 100000 in
theorem E_X0_endCall {d : Nat} {p1 : Int32} {s : NetS} {q : NetS} (h : F_X0_endCall p1 s = some q) : mEv (d + 2) m_X0_endCall none (0, [], [some (.ref 0), some (.int p1), none, none], [], memN s) none (memN q) := by
  unfold F_X0_endCall at h
  refine mEv.stp 17 (S' := (18, _, [some (.ref 0), some (.int p1), some (.int (p1 * (nI 4))), some (.int ((((gN_cc s) - p1) - (nI 1)) * (nI 4)))], [.int (-nI 1), .int (p1 * (nI 4)), .ref 0], memN s)) rfl ?_
  obtain ⟨v1, e2, h⟩ := bnd h
  refine mEv.callV (As := [.int (p1 * (nI 4)), .int (-nI 1)]) (st := []) (h := 0) (r := none) (μ1 := memN v1) lk_X0_98 rfl rfl rfl rfl rfl (A_X0_hold (d := d + 0) e2) ?_
  refine mEv.stp 0 (S' := (21, _, [some (.ref 0), some (.int p1), some (.int (p1 * (nI 4))), some (.int ((((gN_cc s) - p1) - (nI 1)) * (nI 4)))], [], memN v1)) rfl ?_
  refine mEv.stp 9 (S' := (34, _, [some (.ref 0), some (.int p1), some (.int (p1 * (nI 4))), some (.int ((((gN_cc s) - p1) - (nI 1)) * (nI 4)))], [.int ((((gN_cc s) - p1) - (nI 1)) * (nI 4)), .int (p1 * (nI 4)), .ref 8, .int ((p1 * (nI 4)) + (nI 4)), .ref 8], memN v1)) rfl ?_
  obtain ⟨g3, h⟩ := gC_some h
  refine mEv.copy (st := []) lk_X0_67 rfl rfl rfl rfl g3 ?_
  refine mEv.stp 0 (S' := (37, _, [some (.ref 0), some (.int p1), some (.int (p1 * (nI 4))), some (.int ((((gN_cc s) - p1) - (nI 1)) * (nI 4)))], [], memNx (gN_tc v1) (gN_hb v1) (gN_x v1) (gN_hg v1) (gN_cc v1) (gN_w v1) (gN_r v1) (gN_hd v1) (gN_st v1) (gN_ct v1) (gN_tt v1) (gN_ld v1) (va_cpy (gN_ca v1) (gN_ca v1) (Int32.toNatClampNeg ((p1 * (nI 4)) + (nI 4))) (Int32.toNatClampNeg (p1 * (nI 4))) (Int32.toNatClampNeg ((((gN_cc s) - p1) - (nI 1)) * (nI 4)))))) rfl ?_
  obtain rfl := Option.some.inj h
  exact mEv.tgt memN_mk (mEv.stp 6 (S' := (47, _, [some (.ref 0), some (.int p1), some (.int (p1 * (nI 4))), some (.int ((((gN_cc s) - p1) - (nI 1)) * (nI 4)))], [], memNx (gN_tc v1) (gN_hb v1) (gN_x v1) (gN_hg v1) ((gN_cc v1) - (nI 1)) (gN_w v1) (gN_r v1) (gN_hd v1) (gN_st v1) (gN_ct v1) (gN_tt v1) (gN_ld v1) (va_cpy (gN_ca v1) (gN_ca v1) (Int32.toNatClampNeg ((p1 * (nI 4)) + (nI 4))) (Int32.toNatClampNeg (p1 * (nI 4))) (Int32.toNatClampNeg ((((gN_cc s) - p1) - (nI 1)) * (nI 4)))))) rfl (mEv.retv rfl))
theorem A_X0_endCall {d : Nat} {p1 : Int32} {s : NetS} {q : NetS} (h : F_X0_endCall p1 s = some q) : mCall (d + 2) m_X0_endCall [.ref 0, .int p1] (memN s) none (memN q) := mCall.intro ok_X0_endCall pl_X0_endCall rfl (E_X0_endCall (d := d) h)
def F_X0_moveCall (p1 : Int32) (p2 : Int32) (s : NetS) : Option (NetS) := if p2 = p1 then (some (s)) else (gC p1 p2 (nI 4) 320 320 (some ((mkN (gN_tc s) (gN_hb s) (gN_x s) (gN_hg s) (gN_cc s) (gN_w s) (gN_r s) (gN_hd s) (gN_st s) (gN_ct s) (gN_tt s) (gN_ld s) (va_cpy (gN_ca s) (gN_ca s) (Int32.toNatClampNeg p1) (Int32.toNatClampNeg p2) (Int32.toNatClampNeg (nI 4)))))))
set_option maxRecDepth 100000 in
theorem E_X0_moveCall {d : Nat} {p1 : Int32} {p2 : Int32} {s : NetS} {q : NetS} (h : F_X0_moveCall p1 p2 s = some q) : mEv (d + 1) m_X0_moveCall none (0, [], [some (.ref 0), some (.int p1), some (.int p2)], [], memN s) none (memN q) := by
  unfold F_X0_moveCall at h
  refine mEv.br 4 (S1 := (19, [], [some (.ref 0), some (.int p1), some (.int p2)], [], memN s)) (S2 := (5, _, [some (.ref 0), some (.int p1), some (.int p2)], [], memN s)) rfl (fun c1 => ?_) (fun c1 => ?_)
  · have h := (if_pos c1).symm.trans h
    obtain rfl := Option.some.inj h
    exact mEv.stp 1 (S' := (19, _, [some (.ref 0), some (.int p1), some (.int p2)], [], memN s)) rfl (mEv.retv rfl)
  · have h := (if_neg c1).symm.trans h
    refine mEv.stp 7 (S' := (16, _, [some (.ref 0), some (.int p1), some (.int p2)], [.int (nI 4), .int p2, .ref 8, .int p1, .ref 8], memN s)) rfl ?_
    obtain ⟨g2, h⟩ := gC_some h
    refine mEv.copy (st := []) lk_X0_67 rfl rfl rfl rfl g2 ?_
    refine mEv.stp 0 (S' := (19, [], [some (.ref 0), some (.int p1), some (.int p2)], [], memNx (gN_tc s) (gN_hb s) (gN_x s) (gN_hg s) (gN_cc s) (gN_w s) (gN_r s) (gN_hd s) (gN_st s) (gN_ct s) (gN_tt s) (gN_ld s) (va_cpy (gN_ca s) (gN_ca s) (Int32.toNatClampNeg p1) (Int32.toNatClampNeg p2) (Int32.toNatClampNeg (nI 4))))) rfl ?_
    obtain rfl := Option.some.inj h
    exact mEv.tgt memN_mk (mEv.stp 1 (S' := (19, _, [some (.ref 0), some (.int p1), some (.int p2)], [], memNx (gN_tc s) (gN_hb s) (gN_x s) (gN_hg s) (gN_cc s) (gN_w s) (gN_r s) (gN_hd s) (gN_st s) (gN_ct s) (gN_tt s) (gN_ld s) (va_cpy (gN_ca s) (gN_ca s) (Int32.toNatClampNeg p1) (Int32.toNatClampNeg p2) (Int32.toNatClampNeg (nI 4))))) rfl (mEv.retv rfl))
theorem A_X0_moveCall {d : Nat} {p1 : Int32} {p2 : Int32} {s : NetS} {q : NetS} (h : F_X0_moveCall p1 p2 s = some q) : mCall (d + 1) m_X0_moveCall [.ref 0, .int p1, .int p2] (memN s) none (memN q) := mCall.intro ok_X0_moveCall pl_X0_moveCall rfl (E_X0_moveCall (d := d) h)
def B_X0_endHour_9 (x1 : Int32) (x2 : Int32) (x3 : Int32) (s : NetS) : Option ((Int32 × Int32 × NetS) ⊕ (Int32 × NetS)) := if x1 ≤ x3 then (some (.inr (x2, s))) else (gI ((x3 * (nI 4)) + (nI 3)) 320 (gI ((x3 * (nI 4)) + (nI 3)) 320 (gI ((x3 * (nI 4)) + (nI 3)) 320 (if ¬ ((upd (gN_ca s) (Int32.toNatClampNeg ((x3 * (nI 4)) + (nI 3))) (((gN_ca s) (Int32.toNatClampNeg ((x3 * (nI 4)) + (nI 3)))) - (nI 1))) (Int32.toNatClampNeg ((x3 * (nI 4)) + (nI 3)))) = (nI 0) then ((F_X0_moveCall (x3 * (nI 4)) (x2 * (nI 4)) (mkN (gN_tc s) (gN_hb s) (gN_x s) (gN_hg s) (gN_cc s) (gN_w s) (gN_r s) (gN_hd s) (gN_st s) (gN_ct s) (gN_tt s) (gN_ld s) (upd (gN_ca s) (Int32.toNatClampNeg ((x3 * (nI 4)) + (nI 3))) (((gN_ca s) (Int32.toNatClampNeg ((x3 * (nI 4)) + (nI 3)))) - (nI 1))))).bind (fun v6 => some (.inl ((x2 + (nI 1)), (x3 + (nI 1)), v6)))) else ((F_X0_hold (x3 * (nI 4)) (-nI 1) (mkN (gN_tc s) (gN_hb s) (gN_x s) (gN_hg s) (gN_cc s) (gN_w s) (gN_r s) (gN_hd s) (gN_st s) (gN_ct s) (gN_tt s) (gN_ld s) (upd (gN_ca s) (Int32.toNatClampNeg ((x3 * (nI 4)) + (nI 3))) (((gN_ca s) (Int32.toNatClampNeg ((x3 * (nI 4)) + (nI 3)))) - (nI 1))))).bind (fun v8 => some (.inl (x2, (x3 + (nI 1)), v8))))))))
set_option maxRecDepth 100000 in
theorem H_X0_endHour_9 {d : Nat} {x1 : Int32} {x2 : Int32} {x3 : Int32} {s : NetS} {q : (Int32 × Int32 × NetS) ⊕ (Int32 × NetS)} {r0 : Option Value} {mu0 : MMe} (h : B_X0_endHour_9 x1 x2 x3 s = some q) (hk : Sum.elim (fun x : Int32 × Int32 × NetS => mEv (d + 2) m_X0_endHour none (9, [], [some (.ref 0), some (.int x1), some (.int x.1), some (.int x.2.1), none], [], memN x.2.2) r0 mu0) (fun z : Int32 × NetS => mEv (d + 2) m_X0_endHour none (72, [], [some (.ref 0), some (.int x1), some (.int z.1), none, none], [], memN z.2) r0 mu0) q) : mEv (d + 2) m_X0_endHour none (9, [], [some (.ref 0), some (.int x1), some (.int x2), some (.int x3), none], [], memN s) r0 mu0 := by
  unfold B_X0_endHour_9 at h
  refine mEv.br 4 (S1 := (72, [], [some (.ref 0), some (.int x1), some (.int x2), some (.int x3), none], [], memN s)) (S2 := (14, _, [some (.ref 0), some (.int x1), some (.int x2), some (.int x3), none], [], memN s)) rfl (fun c1 => ?_) (fun c1 => ?_)
  · have h := (if_pos c1).symm.trans h
    refine mEv.fg [3] (z' := [some (.ref 0), some (.int x1), some (.int x2), none, none]) rfl ?_
    obtain rfl := Option.some.inj h
    exact hk
  · have h := (if_neg c1).symm.trans h
    obtain ⟨g2, h⟩ := gI_some h
    refine mEv.gd 11 (S' := (29, _, [some (.ref 0), some (.int x1), some (.int x2), some (.int x3), some (.int (x3 * (nI 4)))], [.int ((gN_ca s) (Int32.toNatClampNeg ((x3 * (nI 4)) + (nI 3)))), .int ((x3 * (nI 4)) + (nI 3)), .ref 8], memN s)) rfl g2 ?_
    obtain ⟨g3, h⟩ := gI_some h
    refine mEv.gd 3 (S' := (32, _, [some (.ref 0), some (.int x1), some (.int x2), some (.int x3), some (.int (x3 * (nI 4)))], [], memNx (gN_tc s) (gN_hb s) (gN_x s) (gN_hg s) (gN_cc s) (gN_w s) (gN_r s) (gN_hd s) (gN_st s) (gN_ct s) (gN_tt s) (gN_ld s) (upd (gN_ca s) (Int32.toNatClampNeg ((x3 * (nI 4)) + (nI 3))) (((gN_ca s) (Int32.toNatClampNeg ((x3 * (nI 4)) + (nI 3)))) - (nI 1))))) rfl g3 ?_
    obtain ⟨g4, h⟩ := gI_some h
    refine mEv.gd 6 (S' := (41, _, [some (.ref 0), some (.int x1), some (.int x2), some (.int x3), some (.int (x3 * (nI 4)))], [.int ((upd (gN_ca s) (Int32.toNatClampNeg ((x3 * (nI 4)) + (nI 3))) (((gN_ca s) (Int32.toNatClampNeg ((x3 * (nI 4)) + (nI 3)))) - (nI 1))) (Int32.toNatClampNeg ((x3 * (nI 4)) + (nI 3))))], memNx (gN_tc s) (gN_hb s) (gN_x s) (gN_hg s) (gN_cc s) (gN_w s) (gN_r s) (gN_hd s) (gN_st s) (gN_ct s) (gN_tt s) (gN_ld s) (upd (gN_ca s) (Int32.toNatClampNeg ((x3 * (nI 4)) + (nI 3))) (((gN_ca s) (Int32.toNatClampNeg ((x3 * (nI 4)) + (nI 3)))) - (nI 1))))) rfl g4 ?_
    refine mEv.br 1 (S1 := (54, [], [some (.ref 0), some (.int x1), some (.int x2), some (.int x3), some (.int (x3 * (nI 4)))], [], memNx (gN_tc s) (gN_hb s) (gN_x s) (gN_hg s) (gN_cc s) (gN_w s) (gN_r s) (gN_hd s) (gN_st s) (gN_ct s) (gN_tt s) (gN_ld s) (upd (gN_ca s) (Int32.toNatClampNeg ((x3 * (nI 4)) + (nI 3))) (((gN_ca s) (Int32.toNatClampNeg ((x3 * (nI 4)) + (nI 3)))) - (nI 1))))) (S2 := (44, _, [some (.ref 0), some (.int x1), some (.int x2), some (.int x3), some (.int (x3 * (nI 4)))], [], memNx (gN_tc s) (gN_hb s) (gN_x s) (gN_hg s) (gN_cc s) (gN_w s) (gN_r s) (gN_hd s) (gN_st s) (gN_ct s) (gN_tt s) (gN_ld s) (upd (gN_ca s) (Int32.toNatClampNeg ((x3 * (nI 4)) + (nI 3))) (((gN_ca s) (Int32.toNatClampNeg ((x3 * (nI 4)) + (nI 3)))) - (nI 1))))) rfl (fun c5 => ?_) (fun c5 => ?_)
    · have h := (if_pos c5).symm.trans h
      refine mEv.stp 6 (S' := (60, _, [some (.ref 0), some (.int x1), some (.int x2), some (.int x3), some (.int (x3 * (nI 4)))], [.int (x2 * (nI 4)), .int (x3 * (nI 4)), .ref 0], memNx (gN_tc s) (gN_hb s) (gN_x s) (gN_hg s) (gN_cc s) (gN_w s) (gN_r s) (gN_hd s) (gN_st s) (gN_ct s) (gN_tt s) (gN_ld s) (upd (gN_ca s) (Int32.toNatClampNeg ((x3 * (nI 4)) + (nI 3))) (((gN_ca s) (Int32.toNatClampNeg ((x3 * (nI 4)) + (nI 3)))) - (nI 1))))) rfl ?_
      obtain ⟨v6, e7, h⟩ := bnd h
      refine mEv.callV (As := [.int (x3 * (nI 4)), .int (x2 * (nI 4))]) (st := []) (h := 0) (r := none) (μ1 := memN v6) lk_X0_129 rfl rfl rfl rfl rfl (mCall.cast memN_mk (A_X0_moveCall (d := d + 0) e7)) ?_
      refine mEv.stp 0 (S' := (63, _, [some (.ref 0), some (.int x1), some (.int x2), some (.int x3), some (.int (x3 * (nI 4)))], [], memN v6)) rfl ?_
      refine mEv.stp 4 (S' := (9, [], [some (.ref 0), some (.int x1), some (.int (x2 + (nI 1))), some (.int (x3 + (nI 1))), some (.int (x3 * (nI 4)))], [], memN v6)) rfl ?_
      refine mEv.fg [4] (z' := [some (.ref 0), some (.int x1), some (.int (x2 + (nI 1))), some (.int (x3 + (nI 1))), none]) rfl ?_
      obtain rfl := Option.some.inj h
      exact hk
    · have h := (if_neg c5).symm.trans h
      refine mEv.stp 3 (S' := (48, _, [some (.ref 0), some (.int x1), some (.int x2), some (.int x3), some (.int (x3 * (nI 4)))], [.int (-nI 1), .int (x3 * (nI 4)), .ref 0], memNx (gN_tc s) (gN_hb s) (gN_x s) (gN_hg s) (gN_cc s) (gN_w s) (gN_r s) (gN_hd s) (gN_st s) (gN_ct s) (gN_tt s) (gN_ld s) (upd (gN_ca s) (Int32.toNatClampNeg ((x3 * (nI 4)) + (nI 3))) (((gN_ca s) (Int32.toNatClampNeg ((x3 * (nI 4)) + (nI 3)))) - (nI 1))))) rfl ?_
      obtain ⟨v8, e9, h⟩ := bnd h
      refine mEv.callV (As := [.int (x3 * (nI 4)), .int (-nI 1)]) (st := []) (h := 0) (r := none) (μ1 := memN v8) lk_X0_98 rfl rfl rfl rfl rfl (mCall.cast memN_mk (A_X0_hold (d := d + 0) e9)) ?_
      refine mEv.stp 0 (S' := (51, _, [some (.ref 0), some (.int x1), some (.int x2), some (.int x3), some (.int (x3 * (nI 4)))], [], memN v8)) rfl ?_
      refine mEv.stp 4 (S' := (9, [], [some (.ref 0), some (.int x1), some (.int x2), some (.int (x3 + (nI 1))), some (.int (x3 * (nI 4)))], [], memN v8)) rfl ?_
      refine mEv.fg [4] (z' := [some (.ref 0), some (.int x1), some (.int x2), some (.int (x3 + (nI 1))), none]) rfl ?_
      obtain rfl := Option.some.inj h
      exact hk
def F_X0_endHour  (s : NetS) : Option (Int32 × NetS) := (mWh (fun x => B_X0_endHour_9 (gN_cc s) x.1 x.2.1 x.2.2) fuel0 ((nI 0), (nI 0), s)).bind (fun z10 => some ((((gN_cc s) - z10.1), (mkN (gN_tc z10.2) (gN_hb z10.2) (gN_x z10.2) (gN_hg z10.2) z10.1 (gN_w z10.2) (gN_r z10.2) (gN_hd z10.2) (gN_st z10.2) (gN_ct z10.2) (gN_tt z10.2) (gN_ld z10.2) (gN_ca z10.2)))))
set_option maxRecDepth 100000 in
theorem E_X0_endHour {d : Nat}  {s : NetS} {q : Int32 × NetS} (h : F_X0_endHour s = some q) : mEv (d + 2) m_X0_endHour none (0, [], [some (.ref 0), none, none, none, none], [], memN s) (some (.int q.1)) (memN q.2) := by
  unfold F_X0_endHour at h
  refine mEv.stp 8 (S' := (9, [], [some (.ref 0), some (.int (gN_cc s)), some (.int (nI 0)), some (.int (nI 0)), none], [], memN s)) rfl ?_
  obtain ⟨z10, e11, h⟩ := bnd h
  refine mWh_ind (b := (fun x => B_X0_endHour_9 (gN_cc s) x.1 x.2.1 x.2.2)) (P := fun x : Int32 × Int32 × NetS => mEv (d + 2) m_X0_endHour none (9, [], [some (.ref 0), some (.int (gN_cc s)), some (.int x.1), some (.int x.2.1), none], [], memN x.2.2) (some (.int q.1)) (memN q.2)) (K := fun z : Int32 × NetS => mEv (d + 2) m_X0_endHour none (72, [], [some (.ref 0), some (.int (gN_cc s)), some (.int z.1), none, none], [], memN z.2) (some (.int q.1)) (memN q.2)) (fun x u hq hk => H_X0_endHour_9 (d := d) (x1 := (gN_cc s)) (x2 := x.1) (x3 := x.2.1) (s := x.2.2) (q := u) (r0 := (some (.int q.1))) (mu0 := (memN q.2)) hq hk) fuel0 ((nI 0), (nI 0), s) z10 e11 ?_
  refine mEv.stp 0 (S' := (72, [], [some (.ref 0), some (.int (gN_cc s)), some (.int z10.1), none, none], [], memN z10.2)) rfl ?_
  obtain rfl := Option.some.inj h
  exact mEv.tgt memN_mk (mEv.stp 7 (S' := (80, _, [some (.ref 0), some (.int (gN_cc s)), some (.int z10.1), none, none], [.int ((gN_cc s) - z10.1)], memNx (gN_tc z10.2) (gN_hb z10.2) (gN_x z10.2) (gN_hg z10.2) z10.1 (gN_w z10.2) (gN_r z10.2) (gN_hd z10.2) (gN_st z10.2) (gN_ct z10.2) (gN_tt z10.2) (gN_ld z10.2) (gN_ca z10.2))) rfl (mEv.reti ⟨_, rfl, rfl⟩))
theorem A_X0_endHour {d : Nat}  {s : NetS} {q : Int32 × NetS} (h : F_X0_endHour s = some q) : mCall (d + 2) m_X0_endHour [.ref 0] (memN s) (some (.int q.1)) (memN q.2) := mCall.intro ok_X0_endHour pl_X0_endHour rfl (E_X0_endHour (d := d) h)
def J_X0_askByPlan_45 (x1 : Int32) (x2 : Int32) (s : NetS) : Option (NetS) := gZ (nI 4096) (gZ (nI 6) ((F_X0_ask x1 x2 ((nI 1) + (((gN_x s) / (nI 4096)) - ((gN_x s) / (nI 4096)) / (nI 6) * (nI 6))) s).bind (fun v10 => some (v10.2))))
set_option maxRecDepth 100000 in
theorem K_X0_askByPlan_45 {d : Nat} {x1 : Int32} {x2 : Int32} {s : NetS} {q : NetS} (h : J_X0_askByPlan_45 x1 x2 s = some q) : mEv (d + 3) m_X0_askByPlan none (45, [], [some (.ref 0), some (.int x1), some (.int x2)], [], memN s) none (memN q) := by
  unfold J_X0_askByPlan_45 at h
  obtain ⟨g8, h⟩ := gZ_some h
  refine mEv.gd 9 (S' := (57, _, [some (.ref 0), some (.int x1), some (.int x2)], [.int ((gN_x s) / (nI 4096)), .int (nI 1), .int x2, .int x1, .ref 0], memN s)) rfl g8 ?_
  obtain ⟨g9, h⟩ := gZ_some h
  refine mEv.gd 2 (S' := (60, _, [some (.ref 0), some (.int x1), some (.int x2)], [.int (((gN_x s) / (nI 4096)) - ((gN_x s) / (nI 4096)) / (nI 6) * (nI 6)), .int (nI 1), .int x2, .int x1, .ref 0], memN s)) rfl g9 ?_
  refine mEv.stp 1 (S' := (61, _, [some (.ref 0), some (.int x1), some (.int x2)], [.int ((nI 1) + (((gN_x s) / (nI 4096)) - ((gN_x s) / (nI 4096)) / (nI 6) * (nI 6))), .int x2, .int x1, .ref 0], memN s)) rfl ?_
  obtain ⟨v10, e11, h⟩ := bnd h
  refine mEv.callV (As := [.int x1, .int x2, .int ((nI 1) + (((gN_x s) / (nI 4096)) - ((gN_x s) / (nI 4096)) / (nI 6) * (nI 6)))]) (st := []) (h := 0) (r := (some (.int v10.1))) (μ1 := memN v10.2) lk_X0_132 rfl rfl rfl rfl rfl (A_X0_ask (d := d + 0) e11) ?_
  refine mEv.stp 0 (S' := (64, _, [some (.ref 0), some (.int x1), some (.int x2)], [.int v10.1], memN v10.2)) rfl ?_
  obtain rfl := Option.some.inj h
  exact mEv.stp 1 (S' := (65, _, [some (.ref 0), some (.int x1), some (.int x2)], [], memN v10.2)) rfl (mEv.retv rfl)
def F_X0_askByPlan  (s : NetS) : Option (NetS) := (F_X0_advanceX s).bind (fun v1 => gZ (nI 65536) (gZ (gN_tc v1) (gZ (nI 1024) (gZ (gN_tc v1) (if ¬ (((gN_x v1) / (nI 1024)) - ((gN_x v1) / (nI 1024)) / (gN_tc v1) * (gN_tc v1)) = (((gN_x v1) / (nI 65536)) - ((gN_x v1) / (nI 65536)) / (gN_tc v1) * (gN_tc v1)) then (J_X0_askByPlan_45 (((gN_x v1) / (nI 65536)) - ((gN_x v1) / (nI 65536)) / (gN_tc v1) * (gN_tc v1)) (((gN_x v1) / (nI 1024)) - ((gN_x v1) / (nI 1024)) / (gN_tc v1) * (gN_tc v1)) v1) else (gZ (gN_tc v1) (J_X0_askByPlan_45 (((gN_x v1) / (nI 65536)) - ((gN_x v1) / (nI 65536)) / (gN_tc v1) * (gN_tc v1)) (((((gN_x v1) / (nI 1024)) - ((gN_x v1) / (nI 1024)) / (gN_tc v1) * (gN_tc v1)) + (nI 1)) - ((((gN_x v1) / (nI 1024)) - ((gN_x v1) / (nI 1024)) / (gN_tc v1) * (gN_tc v1)) + (nI 1)) / (gN_tc v1) * (gN_tc v1)) v1)))))))
set_option maxRecDepth 100000 in
theorem E_X0_askByPlan {d : Nat}  {s : NetS} {q : NetS} (h : F_X0_askByPlan s = some q) : mEv (d + 3) m_X0_askByPlan none (0, [], [some (.ref 0), none, none], [], memN s) none (memN q) := by
  unfold F_X0_askByPlan at h
  refine mEv.stp 2 (S' := (1, _, [some (.ref 0), none, none], [.ref 0], memN s)) rfl ?_
  obtain ⟨v1, e2, h⟩ := bnd h
  refine mEv.callV (As := []) (st := []) (h := 0) (r := none) (μ1 := memN v1) lk_X0_107 rfl rfl rfl rfl rfl (A_X0_advanceX (d := d + 2) e2) ?_
  refine mEv.stp 0 (S' := (4, _, [some (.ref 0), none, none], [], memN v1)) rfl ?_
  obtain ⟨g3, h⟩ := gZ_some h
  refine mEv.gd 4 (S' := (11, _, [some (.ref 0), none, none], [.int ((gN_x v1) / (nI 65536))], memN v1)) rfl g3 ?_
  obtain ⟨g4, h⟩ := gZ_some h
  refine mEv.gd 3 (S' := (16, _, [some (.ref 0), none, none], [.int (((gN_x v1) / (nI 65536)) - ((gN_x v1) / (nI 65536)) / (gN_tc v1) * (gN_tc v1))], memN v1)) rfl g4 ?_
  obtain ⟨g5, h⟩ := gZ_some h
  refine mEv.gd 5 (S' := (25, _, [some (.ref 0), some (.int (((gN_x v1) / (nI 65536)) - ((gN_x v1) / (nI 65536)) / (gN_tc v1) * (gN_tc v1))), none], [.int ((gN_x v1) / (nI 1024))], memN v1)) rfl g5 ?_
  obtain ⟨g6, h⟩ := gZ_some h
  refine mEv.gd 3 (S' := (30, _, [some (.ref 0), some (.int (((gN_x v1) / (nI 65536)) - ((gN_x v1) / (nI 65536)) / (gN_tc v1) * (gN_tc v1))), none], [.int (((gN_x v1) / (nI 1024)) - ((gN_x v1) / (nI 1024)) / (gN_tc v1) * (gN_tc v1))], memN v1)) rfl g6 ?_
  refine mEv.br 4 (S1 := (45, [], [some (.ref 0), some (.int (((gN_x v1) / (nI 65536)) - ((gN_x v1) / (nI 65536)) / (gN_tc v1) * (gN_tc v1))), some (.int (((gN_x v1) / (nI 1024)) - ((gN_x v1) / (nI 1024)) / (gN_tc v1) * (gN_tc v1)))], [], memN v1)) (S2 := (36, _, [some (.ref 0), some (.int (((gN_x v1) / (nI 65536)) - ((gN_x v1) / (nI 65536)) / (gN_tc v1) * (gN_tc v1))), some (.int (((gN_x v1) / (nI 1024)) - ((gN_x v1) / (nI 1024)) / (gN_tc v1) * (gN_tc v1)))], [], memN v1)) rfl (fun c7 => ?_) (fun c7 => ?_)
  · have h := (if_pos c7).symm.trans h
    exact K_X0_askByPlan_45 (d := d) h
  · have h := (if_neg c7).symm.trans h
    obtain ⟨g12, h⟩ := gZ_some h
    refine mEv.gd 6 (S' := (44, _, [some (.ref 0), some (.int (((gN_x v1) / (nI 65536)) - ((gN_x v1) / (nI 65536)) / (gN_tc v1) * (gN_tc v1))), some (.int (((gN_x v1) / (nI 1024)) - ((gN_x v1) / (nI 1024)) / (gN_tc v1) * (gN_tc v1)))], [.int (((((gN_x v1) / (nI 1024)) - ((gN_x v1) / (nI 1024)) / (gN_tc v1) * (gN_tc v1)) + (nI 1)) - ((((gN_x v1) / (nI 1024)) - ((gN_x v1) / (nI 1024)) / (gN_tc v1) * (gN_tc v1)) + (nI 1)) / (gN_tc v1) * (gN_tc v1))], memN v1)) rfl g12 ?_
    refine mEv.stp 1 (S' := (45, [], [some (.ref 0), some (.int (((gN_x v1) / (nI 65536)) - ((gN_x v1) / (nI 65536)) / (gN_tc v1) * (gN_tc v1))), some (.int (((((gN_x v1) / (nI 1024)) - ((gN_x v1) / (nI 1024)) / (gN_tc v1) * (gN_tc v1)) + (nI 1)) - ((((gN_x v1) / (nI 1024)) - ((gN_x v1) / (nI 1024)) / (gN_tc v1) * (gN_tc v1)) + (nI 1)) / (gN_tc v1) * (gN_tc v1)))], [], memN v1)) rfl ?_
    exact K_X0_askByPlan_45 (d := d) h
theorem A_X0_askByPlan {d : Nat}  {s : NetS} {q : NetS} (h : F_X0_askByPlan s = some q) : mCall (d + 3) m_X0_askByPlan [.ref 0] (memN s) none (memN q) := mCall.intro ok_X0_askByPlan pl_X0_askByPlan rfl (E_X0_askByPlan (d := d) h)
def B_X0_passHours_45 (x1 : Int32) (x2 : Int32) (x3 : Int32) (x4 : Int32) (x5 : Int32) (s : NetS) : Option ((Int32 × NetS) ⊕ (NetS)) := if x4 ≤ x5 then (some (.inr (s))) else ((F_X0_askByPlan s).bind (fun v8 => some (.inl ((x5 + (nI 1)), v8))))
set_option maxRecDepth 100000 in
theorem H_X0_passHours_45 {d : Nat} {x1 : Int32} {x2 : Int32} {x3 : Int32} {x4 : Int32} {x5 : Int32} {s : NetS} {q : (Int32 × NetS) ⊕ (NetS)} {r0 : Option Value} {mu0 : MMe} (h : B_X0_passHours_45 x1 x2 x3 x4 x5 s = some q) (hk : Sum.elim (fun x : Int32 × NetS => mEv (d + 4) m_X0_passHours none (45, [], [some (.ref 0), some (.int x1), some (.int x2), some (.int x3), some (.int x4), some (.int x.1)], [], memN x.2) r0 mu0) (fun z : NetS => mEv (d + 4) m_X0_passHours none (62, [], [some (.ref 0), some (.int x1), some (.int x2), some (.int x3), none, none], [], memN z) r0 mu0) q) : mEv (d + 4) m_X0_passHours none (45, [], [some (.ref 0), some (.int x1), some (.int x2), some (.int x3), some (.int x4), some (.int x5)], [], memN s) r0 mu0 := by
  unfold B_X0_passHours_45 at h
  refine mEv.br 4 (S1 := (62, [], [some (.ref 0), some (.int x1), some (.int x2), some (.int x3), some (.int x4), some (.int x5)], [], memN s)) (S2 := (52, _, [some (.ref 0), some (.int x1), some (.int x2), some (.int x3), some (.int x4), some (.int x5)], [], memN s)) rfl (fun c7 => ?_) (fun c7 => ?_)
  · have h := (if_pos c7).symm.trans h
    refine mEv.fg [4, 5] (z' := [some (.ref 0), some (.int x1), some (.int x2), some (.int x3), none, none]) rfl ?_
    obtain rfl := Option.some.inj h
    exact hk
  · have h := (if_neg c7).symm.trans h
    refine mEv.stp 1 (S' := (53, _, [some (.ref 0), some (.int x1), some (.int x2), some (.int x3), some (.int x4), some (.int x5)], [.ref 0], memN s)) rfl ?_
    obtain ⟨v8, e9, h⟩ := bnd h
    refine mEv.callV (As := []) (st := []) (h := 0) (r := none) (μ1 := memN v8) lk_X0_126 rfl rfl rfl rfl rfl (A_X0_askByPlan (d := d + 0) e9) ?_
    refine mEv.stp 0 (S' := (56, _, [some (.ref 0), some (.int x1), some (.int x2), some (.int x3), some (.int x4), some (.int x5)], [], memN v8)) rfl ?_
    refine mEv.stp 2 (S' := (45, [], [some (.ref 0), some (.int x1), some (.int x2), some (.int x3), some (.int x4), some (.int (x5 + (nI 1)))], [], memN v8)) rfl ?_
    obtain rfl := Option.some.inj h
    exact hk
def B_X0_passHours_4 (x1 : Int32) (x2 : Int32) (x3 : Int32) (s : NetS) : Option ((Int32 × Int32 × NetS) ⊕ (Int32 × NetS)) := if x1 ≤ x3 then (some (.inr (x2, s))) else ((F_X0_endHour s).bind (fun v2 => (F_J9_floorMod_7cf53 ((gN_hg v2.2) + (nI 1)) (nI 24)).bind (fun v4 => gI v4 24 ((mWh (fun x => B_X0_passHours_45 x1 (x2 + v2.1) x3 ((gN_ld v2.2) (Int32.toNatClampNeg v4)) x.1 x.2) fuel0 ((nI 0), (mkN (gN_tc v2.2) (gN_hb v2.2) (gN_x v2.2) ((gN_hg v2.2) + (nI 1)) (gN_cc v2.2) (gN_w v2.2) (gN_r v2.2) (gN_hd v2.2) (gN_st v2.2) (gN_ct v2.2) (gN_tt v2.2) (gN_ld v2.2) (gN_ca v2.2)))).bind (fun z10 => some (.inl ((x2 + v2.1), (x3 + (nI 1)), z10)))))))
set_option maxRecDepth 100000 in
theorem H_X0_passHours_4 {d : Nat} {x1 : Int32} {x2 : Int32} {x3 : Int32} {s : NetS} {q : (Int32 × Int32 × NetS) ⊕ (Int32 × NetS)} {r0 : Option Value} {mu0 : MMe} (h : B_X0_passHours_4 x1 x2 x3 s = some q) (hk : Sum.elim (fun x : Int32 × Int32 × NetS => mEv (d + 4) m_X0_passHours none (4, [], [some (.ref 0), some (.int x1), some (.int x.1), some (.int x.2.1), none, none], [], memN x.2.2) r0 mu0) (fun z : Int32 × NetS => mEv (d + 4) m_X0_passHours none (68, [], [none, none, some (.int z.1), none, none, none], [], memN z.2) r0 mu0) q) : mEv (d + 4) m_X0_passHours none (4, [], [some (.ref 0), some (.int x1), some (.int x2), some (.int x3), none, none], [], memN s) r0 mu0 := by
  unfold B_X0_passHours_4 at h
  refine mEv.br 4 (S1 := (68, [], [some (.ref 0), some (.int x1), some (.int x2), some (.int x3), none, none], [], memN s)) (S2 := (9, _, [some (.ref 0), some (.int x1), some (.int x2), some (.int x3), none, none], [], memN s)) rfl (fun c1 => ?_) (fun c1 => ?_)
  · have h := (if_pos c1).symm.trans h
    refine mEv.fg [0, 1, 3] (z' := [none, none, some (.int x2), none, none, none]) rfl ?_
    obtain rfl := Option.some.inj h
    exact hk
  · have h := (if_neg c1).symm.trans h
    refine mEv.stp 2 (S' := (11, _, [some (.ref 0), some (.int x1), some (.int x2), some (.int x3), none, none], [.ref 0, .int x2], memN s)) rfl ?_
    obtain ⟨v2, e3, h⟩ := bnd h
    refine mEv.callV (As := []) (st := [.int x2]) (h := 0) (r := (some (.int v2.1))) (μ1 := memN v2.2) lk_X0_119 rfl rfl rfl rfl rfl (A_X0_endHour (d := d + 1) e3) ?_
    refine mEv.stp 0 (S' := (14, _, [some (.ref 0), some (.int x1), some (.int x2), some (.int x3), none, none], [.int v2.1, .int x2], memN v2.2)) rfl ?_
    refine mEv.stp 13 (S' := (36, _, [some (.ref 0), some (.int x1), some (.int (x2 + v2.1)), some (.int x3), none, none], [.int (nI 24), .int ((gN_hg v2.2) + (nI 1)), .ref 7], memNx (gN_tc v2.2) (gN_hb v2.2) (gN_x v2.2) ((gN_hg v2.2) + (nI 1)) (gN_cc v2.2) (gN_w v2.2) (gN_r v2.2) (gN_hd v2.2) (gN_st v2.2) (gN_ct v2.2) (gN_tt v2.2) (gN_ld v2.2) (gN_ca v2.2))) rfl ?_
    obtain ⟨v4, e5, h⟩ := bnd h
    refine mEv.callS (As := [.int ((gN_hg v2.2) + (nI 1)), .int (nI 24)]) (st := [.ref 7]) (r := (some (.int v4))) (μ1 := memNx (gN_tc v2.2) (gN_hb v2.2) (gN_x v2.2) ((gN_hg v2.2) + (nI 1)) (gN_cc v2.2) (gN_w v2.2) (gN_r v2.2) (gN_hd v2.2) (gN_st v2.2) (gN_ct v2.2) (gN_tt v2.2) (gN_ld v2.2) (gN_ca v2.2)) lk_X0_123 rfl rfl rfl (A_J9_floorMod_7cf53 (d := d + 3) e5) ?_
    refine mEv.stp 0 (S' := (39, _, [some (.ref 0), some (.int x1), some (.int (x2 + v2.1)), some (.int x3), none, none], [.int v4, .ref 7], memNx (gN_tc v2.2) (gN_hb v2.2) (gN_x v2.2) ((gN_hg v2.2) + (nI 1)) (gN_cc v2.2) (gN_w v2.2) (gN_r v2.2) (gN_hd v2.2) (gN_st v2.2) (gN_ct v2.2) (gN_tt v2.2) (gN_ld v2.2) (gN_ca v2.2))) rfl ?_
    obtain ⟨g6, h⟩ := gI_some h
    refine mEv.gd 1 (S' := (40, _, [some (.ref 0), some (.int x1), some (.int (x2 + v2.1)), some (.int x3), none, none], [.int ((gN_ld v2.2) (Int32.toNatClampNeg v4))], memNx (gN_tc v2.2) (gN_hb v2.2) (gN_x v2.2) ((gN_hg v2.2) + (nI 1)) (gN_cc v2.2) (gN_w v2.2) (gN_r v2.2) (gN_hd v2.2) (gN_st v2.2) (gN_ct v2.2) (gN_tt v2.2) (gN_ld v2.2) (gN_ca v2.2))) rfl g6 ?_
    refine mEv.stp 3 (S' := (45, [], [some (.ref 0), some (.int x1), some (.int (x2 + v2.1)), some (.int x3), some (.int ((gN_ld v2.2) (Int32.toNatClampNeg v4))), some (.int (nI 0))], [], memNx (gN_tc v2.2) (gN_hb v2.2) (gN_x v2.2) ((gN_hg v2.2) + (nI 1)) (gN_cc v2.2) (gN_w v2.2) (gN_r v2.2) (gN_hd v2.2) (gN_st v2.2) (gN_ct v2.2) (gN_tt v2.2) (gN_ld v2.2) (gN_ca v2.2))) rfl ?_
    refine mEv.mem memN_mk ?_
    obtain ⟨z10, e11, h⟩ := bnd h
    refine mWh_ind (b := (fun x => B_X0_passHours_45 x1 (x2 + v2.1) x3 ((gN_ld v2.2) (Int32.toNatClampNeg v4)) x.1 x.2)) (P := fun x : Int32 × NetS => mEv (d + 4) m_X0_passHours none (45, [], [some (.ref 0), some (.int x1), some (.int (x2 + v2.1)), some (.int x3), some (.int ((gN_ld v2.2) (Int32.toNatClampNeg v4))), some (.int x.1)], [], memN x.2) r0 mu0) (K := fun z : NetS => mEv (d + 4) m_X0_passHours none (62, [], [some (.ref 0), some (.int x1), some (.int (x2 + v2.1)), some (.int x3), none, none], [], memN z) r0 mu0) (fun x u hq hk => H_X0_passHours_45 (d := d) (x1 := x1) (x2 := (x2 + v2.1)) (x3 := x3) (x4 := ((gN_ld v2.2) (Int32.toNatClampNeg v4))) (x5 := x.1) (s := x.2) (q := u) (r0 := r0) (mu0 := mu0) hq hk) fuel0 ((nI 0), (mkN (gN_tc v2.2) (gN_hb v2.2) (gN_x v2.2) ((gN_hg v2.2) + (nI 1)) (gN_cc v2.2) (gN_w v2.2) (gN_r v2.2) (gN_hd v2.2) (gN_st v2.2) (gN_ct v2.2) (gN_tt v2.2) (gN_ld v2.2) (gN_ca v2.2))) z10 e11 ?_
    refine mEv.stp 0 (S' := (62, [], [some (.ref 0), some (.int x1), some (.int (x2 + v2.1)), some (.int x3), none, none], [], memN z10)) rfl ?_
    refine mEv.stp 3 (S' := (4, [], [some (.ref 0), some (.int x1), some (.int (x2 + v2.1)), some (.int (x3 + (nI 1))), none, none], [], memN z10)) rfl ?_
    obtain rfl := Option.some.inj h
    exact hk
def F_X0_passHours (p1 : Int32) (s : NetS) : Option (Int32 × NetS) := (mWh (fun x => B_X0_passHours_4 p1 x.1 x.2.1 x.2.2) fuel0 ((nI 0), (nI 0), s)).bind (fun z12 => some ((z12.1, z12.2)))
set_option maxRecDepth 100000 in
theorem E_X0_passHours {d : Nat} {p1 : Int32} {s : NetS} {q : Int32 × NetS} (h : F_X0_passHours p1 s = some q) : mEv (d + 4) m_X0_passHours none (0, [], [some (.ref 0), some (.int p1), none, none, none, none], [], memN s) (some (.int q.1)) (memN q.2) := by
  unfold F_X0_passHours at h
  refine mEv.stp 5 (S' := (4, [], [some (.ref 0), some (.int p1), some (.int (nI 0)), some (.int (nI 0)), none, none], [], memN s)) rfl ?_
  obtain ⟨z12, e13, h⟩ := bnd h
  refine mWh_ind (b := (fun x => B_X0_passHours_4 p1 x.1 x.2.1 x.2.2)) (P := fun x : Int32 × Int32 × NetS => mEv (d + 4) m_X0_passHours none (4, [], [some (.ref 0), some (.int p1), some (.int x.1), some (.int x.2.1), none, none], [], memN x.2.2) (some (.int q.1)) (memN q.2)) (K := fun z : Int32 × NetS => mEv (d + 4) m_X0_passHours none (68, [], [none, none, some (.int z.1), none, none, none], [], memN z.2) (some (.int q.1)) (memN q.2)) (fun x u hq hk => H_X0_passHours_4 (d := d) (x1 := p1) (x2 := x.1) (x3 := x.2.1) (s := x.2.2) (q := u) (r0 := (some (.int q.1))) (mu0 := (memN q.2)) hq hk) fuel0 ((nI 0), (nI 0), s) z12 e13 ?_
  refine mEv.stp 0 (S' := (68, [], [none, none, some (.int z12.1), none, none, none], [], memN z12.2)) rfl ?_
  obtain rfl := Option.some.inj h
  exact mEv.stp 2 (S' := (69, _, [none, none, some (.int z12.1), none, none, none], [.int z12.1], memN z12.2)) rfl (mEv.reti ⟨_, rfl, rfl⟩)
theorem A_X0_passHours {d : Nat} {p1 : Int32} {s : NetS} {q : Int32 × NetS} (h : F_X0_passHours p1 s = some q) : mCall (d + 4) m_X0_passHours [.ref 0, .int p1] (memN s) (some (.int q.1)) (memN q.2) := mCall.intro ok_X0_passHours pl_X0_passHours rfl (E_X0_passHours (d := d) h)
def F_X0_doOrder (p2 : Int32) (od : Nat → Int32) (s : NetS) : Option (Int32 × NetS) := gI (p2 + (nI 1)) 160 (gI (p2 + (nI 2)) 160 (gI (p2 + (nI 3)) 160 (gI (p2 + (nI 0)) 160 (if (od (Int32.toNatClampNeg (p2 + (nI 0)))) = (nI 43) then ((F_X0_passHours (od (Int32.toNatClampNeg (p2 + (nI 3)))) s).bind (fun v6 => some (((nI 0), v6.2)))) else (if (od (Int32.toNatClampNeg (p2 + (nI 0)))) = (nI 48) then ((F_X0_ask (od (Int32.toNatClampNeg (p2 + (nI 1)))) (od (Int32.toNatClampNeg (p2 + (nI 2)))) (od (Int32.toNatClampNeg (p2 + (nI 3)))) s).bind (fun v9 => if v9.1 = (-nI 5) then (some (((nI 0), v9.2))) else (some (((nI 1), v9.2))))) else (if (od (Int32.toNatClampNeg (p2 + (nI 0)))) = (nI 112) then (gI (od (Int32.toNatClampNeg (p2 + (nI 1)))) 24 (some (((nI 0), (mkN (gN_tc s) (gN_hb s) (gN_x s) (gN_hg s) (gN_cc s) (gN_w s) (gN_r s) (gN_hd s) (gN_st s) (gN_ct s) (gN_tt s) (upd (gN_ld s) (Int32.toNatClampNeg (od (Int32.toNatClampNeg (p2 + (nI 1))))) (od (Int32.toNatClampNeg (p2 + (nI 3))))) (gN_ca s)))))) else (if (od (Int32.toNatClampNeg (p2 + (nI 0)))) = (nI 114) then ((F_X0_linkCell (od (Int32.toNatClampNeg (p2 + (nI 1)))) (od (Int32.toNatClampNeg (p2 + (nI 2))))).bind (fun v15 => gI v15 36 (some (((nI 0), (mkN (gN_tc s) (gN_hb s) (gN_x s) (gN_hg s) (gN_cc s) (gN_w s) (upd (gN_r s) (Int32.toNatClampNeg v15) (od (Int32.toNatClampNeg (p2 + (nI 3))))) (gN_hd s) (gN_st s) (gN_ct s) (gN_tt s) (gN_ld s) (gN_ca s))))))) else (if (od (Int32.toNatClampNeg (p2 + (nI 0)))) = (nI 119) then ((F_X0_linkCell (od (Int32.toNatClampNeg (p2 + (nI 1)))) (od (Int32.toNatClampNeg (p2 + (nI 2))))).bind (fun v19 => gI v19 36 (some (((nI 0), (mkN (gN_tc s) (gN_hb s) (gN_x s) (gN_hg s) (gN_cc s) (upd (gN_w s) (Int32.toNatClampNeg v19) (od (Int32.toNatClampNeg (p2 + (nI 3))))) (gN_r s) (gN_hd s) (gN_st s) (gN_ct s) (gN_tt s) (gN_ld s) (gN_ca s))))))) else (some (((nI 0), (mkN (gN_tc s) (od (Int32.toNatClampNeg (p2 + (nI 3)))) (gN_x s) (gN_hg s) (gN_cc s) (gN_w s) (gN_r s) (gN_hd s) (gN_st s) (gN_ct s) (gN_tt s) (gN_ld s) (gN_ca s)))))))))))))
set_option maxRecDepth 100000 in
theorem E_X0_doOrder {d : Nat} {p2 : Int32} {od : Nat → Int32} {s : NetS} {q : Int32 × NetS} (h : F_X0_doOrder p2 od s = some q) : mEv (d + 5) m_X0_doOrder none (0, [], [some (.ref 0), some (.ref 9), some (.int p2), none, none, none], [], memNO s od) (some (.int q.1)) (memNO q.2 od) := by
  unfold F_X0_doOrder at h
  obtain ⟨g1, h⟩ := gI_some h
  refine mEv.gd 6 (S' := (5, _, [some (.ref 0), some (.ref 9), some (.int p2), none, none, none], [.int (od (Int32.toNatClampNeg (p2 + (nI 1))))], memNO s od)) rfl g1 ?_
  obtain ⟨g2, h⟩ := gI_some h
  refine mEv.gd 6 (S' := (11, _, [some (.ref 0), some (.ref 9), some (.int p2), some (.int (od (Int32.toNatClampNeg (p2 + (nI 1))))), none, none], [.int (od (Int32.toNatClampNeg (p2 + (nI 2))))], memNO s od)) rfl g2 ?_
  obtain ⟨g3, h⟩ := gI_some h
  refine mEv.gd 6 (S' := (18, _, [some (.ref 0), some (.ref 9), some (.int p2), some (.int (od (Int32.toNatClampNeg (p2 + (nI 1))))), some (.int (od (Int32.toNatClampNeg (p2 + (nI 2))))), none], [.int (od (Int32.toNatClampNeg (p2 + (nI 3))))], memNO s od)) rfl g3 ?_
  obtain ⟨g4, h⟩ := gI_some h
  refine mEv.gd 6 (S' := (25, _, [some (.ref 0), some (.ref 9), some (.int p2), some (.int (od (Int32.toNatClampNeg (p2 + (nI 1))))), some (.int (od (Int32.toNatClampNeg (p2 + (nI 2))))), some (.int (od (Int32.toNatClampNeg (p2 + (nI 3)))))], [.int (od (Int32.toNatClampNeg (p2 + (nI 0))))], memNO s od)) rfl g4 ?_
  refine mEv.stp 1 (S' := (mSw (od (Int32.toNatClampNeg (p2 + (nI 0)))) [(nI 43, 96), (nI 48, 76), (nI 112, 135), (nI 114, 120), (nI 119, 105)] 145, [], [some (.ref 0), some (.ref 9), some (.int p2), some (.int (od (Int32.toNatClampNeg (p2 + (nI 1))))), some (.int (od (Int32.toNatClampNeg (p2 + (nI 2))))), some (.int (od (Int32.toNatClampNeg (p2 + (nI 3)))))], [], memNO s od)) rfl ?_
  refine mEv.sw (fun c5 => ?_) (fun c5 => ?_)
  · have h := (if_pos c5).symm.trans h
    refine mEv.stp 3 (S' := (99, _, [some (.ref 0), some (.ref 9), some (.int p2), some (.int (od (Int32.toNatClampNeg (p2 + (nI 1))))), some (.int (od (Int32.toNatClampNeg (p2 + (nI 2))))), some (.int (od (Int32.toNatClampNeg (p2 + (nI 3)))))], [.int (od (Int32.toNatClampNeg (p2 + (nI 3)))), .ref 0], memNO s od)) rfl ?_
    obtain ⟨v6, e7, h⟩ := bnd h
    refine mEv.callV (As := [.int (od (Int32.toNatClampNeg (p2 + (nI 3))))]) (st := []) (h := 0) (r := (some (.int v6.1))) (μ1 := memNO v6.2 od) lk_X0_138 rfl rfl rfl rfl rfl (mCall.lift [0, 1, 2, 3, 4, 5, 6, 7, 8] (A_X0_passHours (d := d + 0) e7) rfl rfl rfl) ?_
    refine mEv.stp 0 (S' := (102, _, [some (.ref 0), some (.ref 9), some (.int p2), some (.int (od (Int32.toNatClampNeg (p2 + (nI 1))))), some (.int (od (Int32.toNatClampNeg (p2 + (nI 2))))), some (.int (od (Int32.toNatClampNeg (p2 + (nI 3)))))], [.int v6.1], memNO v6.2 od)) rfl ?_
    obtain rfl := Option.some.inj h
    exact mEv.stp 2 (S' := (104, _, [some (.ref 0), some (.ref 9), some (.int p2), some (.int (od (Int32.toNatClampNeg (p2 + (nI 1))))), some (.int (od (Int32.toNatClampNeg (p2 + (nI 2))))), some (.int (od (Int32.toNatClampNeg (p2 + (nI 3)))))], [.int (nI 0)], memNO v6.2 od)) rfl (mEv.reti ⟨_, rfl, rfl⟩)
  · have h := (if_neg c5).symm.trans h
    refine mEv.sw (fun c8 => ?_) (fun c8 => ?_)
    · have h := (if_pos c8).symm.trans h
      refine mEv.stp 5 (S' := (82, _, [some (.ref 0), some (.ref 9), some (.int p2), some (.int (od (Int32.toNatClampNeg (p2 + (nI 1))))), some (.int (od (Int32.toNatClampNeg (p2 + (nI 2))))), some (.int (od (Int32.toNatClampNeg (p2 + (nI 3)))))], [.int (od (Int32.toNatClampNeg (p2 + (nI 3)))), .int (od (Int32.toNatClampNeg (p2 + (nI 2)))), .int (od (Int32.toNatClampNeg (p2 + (nI 1)))), .ref 0], memNO s od)) rfl ?_
      obtain ⟨v9, e10, h⟩ := bnd h
      refine mEv.callV (As := [.int (od (Int32.toNatClampNeg (p2 + (nI 1)))), .int (od (Int32.toNatClampNeg (p2 + (nI 2)))), .int (od (Int32.toNatClampNeg (p2 + (nI 3))))]) (st := []) (h := 0) (r := (some (.int v9.1))) (μ1 := memNO v9.2 od) lk_X0_132 rfl rfl rfl rfl rfl (mCall.lift [0, 1, 2, 3, 4, 5, 6, 7, 8] (A_X0_ask (d := d + 2) e10) rfl rfl rfl) ?_
      refine mEv.stp 0 (S' := (85, _, [some (.ref 0), some (.ref 9), some (.int p2), some (.int (od (Int32.toNatClampNeg (p2 + (nI 1))))), some (.int (od (Int32.toNatClampNeg (p2 + (nI 2))))), some (.int (od (Int32.toNatClampNeg (p2 + (nI 3)))))], [.int v9.1], memNO v9.2 od)) rfl ?_
      refine mEv.br 2 (S1 := (94, [], [some (.ref 0), some (.ref 9), some (.int p2), some (.int (od (Int32.toNatClampNeg (p2 + (nI 1))))), some (.int (od (Int32.toNatClampNeg (p2 + (nI 2))))), some (.int (od (Int32.toNatClampNeg (p2 + (nI 3)))))], [], memNO v9.2 od)) (S2 := (90, _, [some (.ref 0), some (.ref 9), some (.int p2), some (.int (od (Int32.toNatClampNeg (p2 + (nI 1))))), some (.int (od (Int32.toNatClampNeg (p2 + (nI 2))))), some (.int (od (Int32.toNatClampNeg (p2 + (nI 3)))))], [], memNO v9.2 od)) rfl (fun c11 => ?_) (fun c11 => ?_)
      · have h := (if_pos c11).symm.trans h
        obtain rfl := Option.some.inj h
        exact mEv.stp 3 (S' := (95, _, [some (.ref 0), some (.ref 9), some (.int p2), some (.int (od (Int32.toNatClampNeg (p2 + (nI 1))))), some (.int (od (Int32.toNatClampNeg (p2 + (nI 2))))), some (.int (od (Int32.toNatClampNeg (p2 + (nI 3)))))], [.int (nI 0)], memNO v9.2 od)) rfl (mEv.reti ⟨_, rfl, rfl⟩)
      · have h := (if_neg c11).symm.trans h
        obtain rfl := Option.some.inj h
        exact mEv.stp 3 (S' := (95, _, [some (.ref 0), some (.ref 9), some (.int p2), some (.int (od (Int32.toNatClampNeg (p2 + (nI 1))))), some (.int (od (Int32.toNatClampNeg (p2 + (nI 2))))), some (.int (od (Int32.toNatClampNeg (p2 + (nI 3)))))], [.int (nI 1)], memNO v9.2 od)) rfl (mEv.reti ⟨_, rfl, rfl⟩)
    · have h := (if_neg c8).symm.trans h
      refine mEv.sw (fun c12 => ?_) (fun c12 => ?_)
      · have h := (if_pos c12).symm.trans h
        obtain ⟨g13, h⟩ := gI_some h
        refine mEv.gd 6 (S' := (143, _, [some (.ref 0), some (.ref 9), some (.int p2), some (.int (od (Int32.toNatClampNeg (p2 + (nI 1))))), some (.int (od (Int32.toNatClampNeg (p2 + (nI 2))))), some (.int (od (Int32.toNatClampNeg (p2 + (nI 3)))))], [], memNOx (gN_tc s) (gN_hb s) (gN_x s) (gN_hg s) (gN_cc s) (gN_w s) (gN_r s) (gN_hd s) (gN_st s) (gN_ct s) (gN_tt s) (upd (gN_ld s) (Int32.toNatClampNeg (od (Int32.toNatClampNeg (p2 + (nI 1))))) (od (Int32.toNatClampNeg (p2 + (nI 3))))) (gN_ca s) od)) rfl g13 ?_
        obtain rfl := Option.some.inj h
        exact mEv.tgt memNO_mk (mEv.stp 1 (S' := (144, _, [some (.ref 0), some (.ref 9), some (.int p2), some (.int (od (Int32.toNatClampNeg (p2 + (nI 1))))), some (.int (od (Int32.toNatClampNeg (p2 + (nI 2))))), some (.int (od (Int32.toNatClampNeg (p2 + (nI 3)))))], [.int (nI 0)], memNOx (gN_tc s) (gN_hb s) (gN_x s) (gN_hg s) (gN_cc s) (gN_w s) (gN_r s) (gN_hd s) (gN_st s) (gN_ct s) (gN_tt s) (upd (gN_ld s) (Int32.toNatClampNeg (od (Int32.toNatClampNeg (p2 + (nI 1))))) (od (Int32.toNatClampNeg (p2 + (nI 3))))) (gN_ca s) od)) rfl (mEv.reti ⟨_, rfl, rfl⟩))
      · have h := (if_neg c12).symm.trans h
        refine mEv.sw (fun c14 => ?_) (fun c14 => ?_)
        · have h := (if_pos c14).symm.trans h
          refine mEv.stp 5 (S' := (127, _, [some (.ref 0), some (.ref 9), some (.int p2), some (.int (od (Int32.toNatClampNeg (p2 + (nI 1))))), some (.int (od (Int32.toNatClampNeg (p2 + (nI 2))))), some (.int (od (Int32.toNatClampNeg (p2 + (nI 3)))))], [.int (od (Int32.toNatClampNeg (p2 + (nI 2)))), .int (od (Int32.toNatClampNeg (p2 + (nI 1)))), .ref 2], memNO s od)) rfl ?_
          obtain ⟨v15, e16, h⟩ := bnd h
          refine mEv.callS (As := [.int (od (Int32.toNatClampNeg (p2 + (nI 1)))), .int (od (Int32.toNatClampNeg (p2 + (nI 2))))]) (st := [.ref 2]) (r := (some (.int v15))) (μ1 := memNO s od) lk_X0_73 rfl rfl rfl (A_X0_linkCell (d := d + 4) e16) ?_
          refine mEv.stp 0 (S' := (130, _, [some (.ref 0), some (.ref 9), some (.int p2), some (.int (od (Int32.toNatClampNeg (p2 + (nI 1))))), some (.int (od (Int32.toNatClampNeg (p2 + (nI 2))))), some (.int (od (Int32.toNatClampNeg (p2 + (nI 3)))))], [.int v15, .ref 2], memNO s od)) rfl ?_
          obtain ⟨g17, h⟩ := gI_some h
          refine mEv.gd 2 (S' := (133, _, [some (.ref 0), some (.ref 9), some (.int p2), some (.int (od (Int32.toNatClampNeg (p2 + (nI 1))))), some (.int (od (Int32.toNatClampNeg (p2 + (nI 2))))), some (.int (od (Int32.toNatClampNeg (p2 + (nI 3)))))], [], memNOx (gN_tc s) (gN_hb s) (gN_x s) (gN_hg s) (gN_cc s) (gN_w s) (upd (gN_r s) (Int32.toNatClampNeg v15) (od (Int32.toNatClampNeg (p2 + (nI 3))))) (gN_hd s) (gN_st s) (gN_ct s) (gN_tt s) (gN_ld s) (gN_ca s) od)) rfl g17 ?_
          obtain rfl := Option.some.inj h
          exact mEv.tgt memNO_mk (mEv.stp 1 (S' := (134, _, [some (.ref 0), some (.ref 9), some (.int p2), some (.int (od (Int32.toNatClampNeg (p2 + (nI 1))))), some (.int (od (Int32.toNatClampNeg (p2 + (nI 2))))), some (.int (od (Int32.toNatClampNeg (p2 + (nI 3)))))], [.int (nI 0)], memNOx (gN_tc s) (gN_hb s) (gN_x s) (gN_hg s) (gN_cc s) (gN_w s) (upd (gN_r s) (Int32.toNatClampNeg v15) (od (Int32.toNatClampNeg (p2 + (nI 3))))) (gN_hd s) (gN_st s) (gN_ct s) (gN_tt s) (gN_ld s) (gN_ca s) od)) rfl (mEv.reti ⟨_, rfl, rfl⟩))
        · have h := (if_neg c14).symm.trans h
          refine mEv.sw (fun c18 => ?_) (fun c18 => ?_)
          · have h := (if_pos c18).symm.trans h
            refine mEv.stp 5 (S' := (112, _, [some (.ref 0), some (.ref 9), some (.int p2), some (.int (od (Int32.toNatClampNeg (p2 + (nI 1))))), some (.int (od (Int32.toNatClampNeg (p2 + (nI 2))))), some (.int (od (Int32.toNatClampNeg (p2 + (nI 3)))))], [.int (od (Int32.toNatClampNeg (p2 + (nI 2)))), .int (od (Int32.toNatClampNeg (p2 + (nI 1)))), .ref 1], memNO s od)) rfl ?_
            obtain ⟨v19, e20, h⟩ := bnd h
            refine mEv.callS (As := [.int (od (Int32.toNatClampNeg (p2 + (nI 1)))), .int (od (Int32.toNatClampNeg (p2 + (nI 2))))]) (st := [.ref 1]) (r := (some (.int v19))) (μ1 := memNO s od) lk_X0_73 rfl rfl rfl (A_X0_linkCell (d := d + 4) e20) ?_
            refine mEv.stp 0 (S' := (115, _, [some (.ref 0), some (.ref 9), some (.int p2), some (.int (od (Int32.toNatClampNeg (p2 + (nI 1))))), some (.int (od (Int32.toNatClampNeg (p2 + (nI 2))))), some (.int (od (Int32.toNatClampNeg (p2 + (nI 3)))))], [.int v19, .ref 1], memNO s od)) rfl ?_
            obtain ⟨g21, h⟩ := gI_some h
            refine mEv.gd 2 (S' := (118, _, [some (.ref 0), some (.ref 9), some (.int p2), some (.int (od (Int32.toNatClampNeg (p2 + (nI 1))))), some (.int (od (Int32.toNatClampNeg (p2 + (nI 2))))), some (.int (od (Int32.toNatClampNeg (p2 + (nI 3)))))], [], memNOx (gN_tc s) (gN_hb s) (gN_x s) (gN_hg s) (gN_cc s) (upd (gN_w s) (Int32.toNatClampNeg v19) (od (Int32.toNatClampNeg (p2 + (nI 3))))) (gN_r s) (gN_hd s) (gN_st s) (gN_ct s) (gN_tt s) (gN_ld s) (gN_ca s) od)) rfl g21 ?_
            obtain rfl := Option.some.inj h
            exact mEv.tgt memNO_mk (mEv.stp 1 (S' := (119, _, [some (.ref 0), some (.ref 9), some (.int p2), some (.int (od (Int32.toNatClampNeg (p2 + (nI 1))))), some (.int (od (Int32.toNatClampNeg (p2 + (nI 2))))), some (.int (od (Int32.toNatClampNeg (p2 + (nI 3)))))], [.int (nI 0)], memNOx (gN_tc s) (gN_hb s) (gN_x s) (gN_hg s) (gN_cc s) (upd (gN_w s) (Int32.toNatClampNeg v19) (od (Int32.toNatClampNeg (p2 + (nI 3))))) (gN_r s) (gN_hd s) (gN_st s) (gN_ct s) (gN_tt s) (gN_ld s) (gN_ca s) od)) rfl (mEv.reti ⟨_, rfl, rfl⟩))
          · have h := (if_neg c18).symm.trans h
            refine mEv.stp 0 (S' := (145, [], [some (.ref 0), some (.ref 9), some (.int p2), some (.int (od (Int32.toNatClampNeg (p2 + (nI 1))))), some (.int (od (Int32.toNatClampNeg (p2 + (nI 2))))), some (.int (od (Int32.toNatClampNeg (p2 + (nI 3)))))], [], memNO s od)) rfl ?_
            obtain rfl := Option.some.inj h
            exact mEv.tgt memNO_mk (mEv.stp 5 (S' := (152, _, [some (.ref 0), some (.ref 9), some (.int p2), some (.int (od (Int32.toNatClampNeg (p2 + (nI 1))))), some (.int (od (Int32.toNatClampNeg (p2 + (nI 2))))), some (.int (od (Int32.toNatClampNeg (p2 + (nI 3)))))], [.int (nI 0)], memNOx (gN_tc s) (od (Int32.toNatClampNeg (p2 + (nI 3)))) (gN_x s) (gN_hg s) (gN_cc s) (gN_w s) (gN_r s) (gN_hd s) (gN_st s) (gN_ct s) (gN_tt s) (gN_ld s) (gN_ca s) od)) rfl (mEv.reti ⟨_, rfl, rfl⟩))
theorem A_X0_doOrder {d : Nat} {p2 : Int32} {od : Nat → Int32} {s : NetS} {q : Int32 × NetS} (h : F_X0_doOrder p2 od s = some q) : mCall (d + 5) m_X0_doOrder [.ref 0, .ref 9, .int p2] (memNO s od) (some (.int q.1)) (memNO q.2 od) := mCall.intro ok_X0_doOrder pl_X0_doOrder rfl (E_X0_doOrder (d := d) h)
def B_X0_callsOverLink_4 (x1 : Int32) (x2 : Int32) (x3 : Int32) (s : NetS) : Option ((Int32 × Int32) ⊕ (Int32)) := if (gN_cc s) ≤ x3 then (some (.inr (x2))) else (gI ((x3 * (nI 4)) + (nI 2)) 320 (if ((gN_ca s) (Int32.toNatClampNeg ((x3 * (nI 4)) + (nI 2)))) = (-nI 1) then (some (.inl (x2, (x3 + (nI 1))))) else (gI ((x3 * (nI 4)) + (nI 0)) 320 ((F_X0_linkCell ((gN_ca s) (Int32.toNatClampNeg ((x3 * (nI 4)) + (nI 0)))) ((gN_ca s) (Int32.toNatClampNeg ((x3 * (nI 4)) + (nI 2))))).bind (fun v5 => if v5 = x1 then (some (.inl ((x2 + (nI 1)), (x3 + (nI 1))))) else (gI ((x3 * (nI 4)) + (nI 1)) 320 ((F_X0_linkCell ((gN_ca s) (Int32.toNatClampNeg ((x3 * (nI 4)) + (nI 2)))) ((gN_ca s) (Int32.toNatClampNeg ((x3 * (nI 4)) + (nI 1))))).bind (fun v9 => if ¬ v9 = x1 then (some (.inl (x2, (x3 + (nI 1))))) else (some (.inl ((x2 + (nI 1)), (x3 + (nI 1)))))))))))))
set_option maxRecDepth 100000 in
theorem H_X0_callsOverLink_4 {d : Nat} {x1 : Int32} {x2 : Int32} {x3 : Int32} {s : NetS} {q : (Int32 × Int32) ⊕ (Int32)} {r0 : Option Value} {mu0 : MMe} (h : B_X0_callsOverLink_4 x1 x2 x3 s = some q) (hk : Sum.elim (fun x : Int32 × Int32 => mEv (d + 1) m_X0_callsOverLink none (4, [], [some (.ref 0), some (.int x1), some (.int x.1), some (.int x.2), none, none], [], memN s) r0 mu0) (fun z : Int32 => mEv (d + 1) m_X0_callsOverLink none (79, [], [none, none, some (.int z), none, none, none], [], memN s) r0 mu0) q) : mEv (d + 1) m_X0_callsOverLink none (4, [], [some (.ref 0), some (.int x1), some (.int x2), some (.int x3), none, none], [], memN s) r0 mu0 := by
  unfold B_X0_callsOverLink_4 at h
  refine mEv.br 5 (S1 := (79, [], [some (.ref 0), some (.int x1), some (.int x2), some (.int x3), none, none], [], memN s)) (S2 := (12, _, [some (.ref 0), some (.int x1), some (.int x2), some (.int x3), none, none], [], memN s)) rfl (fun c1 => ?_) (fun c1 => ?_)
  · have h := (if_pos c1).symm.trans h
    refine mEv.fg [0, 1, 3] (z' := [none, none, some (.int x2), none, none, none]) rfl ?_
    obtain rfl := Option.some.inj h
    exact hk
  · have h := (if_neg c1).symm.trans h
    obtain ⟨g2, h⟩ := gI_some h
    refine mEv.gd 10 (S' := (26, _, [some (.ref 0), some (.int x1), some (.int x2), some (.int x3), some (.int (x3 * (nI 4))), none], [.int ((gN_ca s) (Int32.toNatClampNeg ((x3 * (nI 4)) + (nI 2))))], memN s)) rfl g2 ?_
    refine mEv.br 4 (S1 := (73, [], [some (.ref 0), some (.int x1), some (.int x2), some (.int x3), some (.int (x3 * (nI 4))), some (.int ((gN_ca s) (Int32.toNatClampNeg ((x3 * (nI 4)) + (nI 2)))))], [], memN s)) (S2 := (34, _, [some (.ref 0), some (.int x1), some (.int x2), some (.int x3), some (.int (x3 * (nI 4))), some (.int ((gN_ca s) (Int32.toNatClampNeg ((x3 * (nI 4)) + (nI 2)))))], [], memN s)) rfl (fun c3 => ?_) (fun c3 => ?_)
    · have h := (if_pos c3).symm.trans h
      refine mEv.stp 3 (S' := (4, [], [some (.ref 0), some (.int x1), some (.int x2), some (.int (x3 + (nI 1))), some (.int (x3 * (nI 4))), some (.int ((gN_ca s) (Int32.toNatClampNeg ((x3 * (nI 4)) + (nI 2)))))], [], memN s)) rfl ?_
      refine mEv.fg [4, 5] (z' := [some (.ref 0), some (.int x1), some (.int x2), some (.int (x3 + (nI 1))), none, none]) rfl ?_
      obtain rfl := Option.some.inj h
      exact hk
    · have h := (if_neg c3).symm.trans h
      obtain ⟨g4, h⟩ := gI_some h
      refine mEv.gd 6 (S' := (43, _, [some (.ref 0), some (.int x1), some (.int x2), some (.int x3), some (.int (x3 * (nI 4))), some (.int ((gN_ca s) (Int32.toNatClampNeg ((x3 * (nI 4)) + (nI 2)))))], [.int ((gN_ca s) (Int32.toNatClampNeg ((x3 * (nI 4)) + (nI 0))))], memN s)) rfl g4 ?_
      refine mEv.stp 1 (S' := (45, _, [some (.ref 0), some (.int x1), some (.int x2), some (.int x3), some (.int (x3 * (nI 4))), some (.int ((gN_ca s) (Int32.toNatClampNeg ((x3 * (nI 4)) + (nI 2)))))], [.int ((gN_ca s) (Int32.toNatClampNeg ((x3 * (nI 4)) + (nI 2)))), .int ((gN_ca s) (Int32.toNatClampNeg ((x3 * (nI 4)) + (nI 0))))], memN s)) rfl ?_
      obtain ⟨v5, e6, h⟩ := bnd h
      refine mEv.callS (As := [.int ((gN_ca s) (Int32.toNatClampNeg ((x3 * (nI 4)) + (nI 0)))), .int ((gN_ca s) (Int32.toNatClampNeg ((x3 * (nI 4)) + (nI 2))))]) (st := []) (r := (some (.int v5))) (μ1 := memN s) lk_X0_73 rfl rfl rfl (A_X0_linkCell (d := d + 0) e6) ?_
      refine mEv.stp 0 (S' := (48, _, [some (.ref 0), some (.int x1), some (.int x2), some (.int x3), some (.int (x3 * (nI 4))), some (.int ((gN_ca s) (Int32.toNatClampNeg ((x3 * (nI 4)) + (nI 2)))))], [.int v5], memN s)) rfl ?_
      refine mEv.br 2 (S1 := (70, [], [some (.ref 0), some (.int x1), some (.int x2), some (.int x3), some (.int (x3 * (nI 4))), some (.int ((gN_ca s) (Int32.toNatClampNeg ((x3 * (nI 4)) + (nI 2)))))], [], memN s)) (S2 := (52, _, [some (.ref 0), some (.int x1), some (.int x2), some (.int x3), some (.int (x3 * (nI 4))), some (.int ((gN_ca s) (Int32.toNatClampNeg ((x3 * (nI 4)) + (nI 2)))))], [], memN s)) rfl (fun c7 => ?_) (fun c7 => ?_)
      · have h := (if_pos c7).symm.trans h
        refine mEv.stp 5 (S' := (4, [], [some (.ref 0), some (.int x1), some (.int (x2 + (nI 1))), some (.int (x3 + (nI 1))), some (.int (x3 * (nI 4))), some (.int ((gN_ca s) (Int32.toNatClampNeg ((x3 * (nI 4)) + (nI 2)))))], [], memN s)) rfl ?_
        refine mEv.fg [4, 5] (z' := [some (.ref 0), some (.int x1), some (.int (x2 + (nI 1))), some (.int (x3 + (nI 1))), none, none]) rfl ?_
        obtain rfl := Option.some.inj h
        exact hk
      · have h := (if_neg c7).symm.trans h
        obtain ⟨g8, h⟩ := gI_some h
        refine mEv.gd 7 (S' := (63, _, [some (.ref 0), some (.int x1), some (.int x2), some (.int x3), some (.int (x3 * (nI 4))), some (.int ((gN_ca s) (Int32.toNatClampNeg ((x3 * (nI 4)) + (nI 2)))))], [.int ((gN_ca s) (Int32.toNatClampNeg ((x3 * (nI 4)) + (nI 1)))), .int ((gN_ca s) (Int32.toNatClampNeg ((x3 * (nI 4)) + (nI 2))))], memN s)) rfl g8 ?_
        obtain ⟨v9, e10, h⟩ := bnd h
        refine mEv.callS (As := [.int ((gN_ca s) (Int32.toNatClampNeg ((x3 * (nI 4)) + (nI 2)))), .int ((gN_ca s) (Int32.toNatClampNeg ((x3 * (nI 4)) + (nI 1))))]) (st := []) (r := (some (.int v9))) (μ1 := memN s) lk_X0_73 rfl rfl rfl (A_X0_linkCell (d := d + 0) e10) ?_
        refine mEv.stp 0 (S' := (66, _, [some (.ref 0), some (.int x1), some (.int x2), some (.int x3), some (.int (x3 * (nI 4))), some (.int ((gN_ca s) (Int32.toNatClampNeg ((x3 * (nI 4)) + (nI 2)))))], [.int v9], memN s)) rfl ?_
        refine mEv.br 2 (S1 := (73, [], [some (.ref 0), some (.int x1), some (.int x2), some (.int x3), some (.int (x3 * (nI 4))), some (.int ((gN_ca s) (Int32.toNatClampNeg ((x3 * (nI 4)) + (nI 2)))))], [], memN s)) (S2 := (70, [], [some (.ref 0), some (.int x1), some (.int x2), some (.int x3), some (.int (x3 * (nI 4))), some (.int ((gN_ca s) (Int32.toNatClampNeg ((x3 * (nI 4)) + (nI 2)))))], [], memN s)) rfl (fun c11 => ?_) (fun c11 => ?_)
        · have h := (if_pos c11).symm.trans h
          refine mEv.stp 3 (S' := (4, [], [some (.ref 0), some (.int x1), some (.int x2), some (.int (x3 + (nI 1))), some (.int (x3 * (nI 4))), some (.int ((gN_ca s) (Int32.toNatClampNeg ((x3 * (nI 4)) + (nI 2)))))], [], memN s)) rfl ?_
          refine mEv.fg [4, 5] (z' := [some (.ref 0), some (.int x1), some (.int x2), some (.int (x3 + (nI 1))), none, none]) rfl ?_
          obtain rfl := Option.some.inj h
          exact hk
        · have h := (if_neg c11).symm.trans h
          refine mEv.stp 5 (S' := (4, [], [some (.ref 0), some (.int x1), some (.int (x2 + (nI 1))), some (.int (x3 + (nI 1))), some (.int (x3 * (nI 4))), some (.int ((gN_ca s) (Int32.toNatClampNeg ((x3 * (nI 4)) + (nI 2)))))], [], memN s)) rfl ?_
          refine mEv.fg [4, 5] (z' := [some (.ref 0), some (.int x1), some (.int (x2 + (nI 1))), some (.int (x3 + (nI 1))), none, none]) rfl ?_
          obtain rfl := Option.some.inj h
          exact hk
def F_X0_callsOverLink (p1 : Int32) (s : NetS) : Option (Int32) := (mWh (fun x => B_X0_callsOverLink_4 p1 x.1 x.2 s) fuel0 ((nI 0), (nI 0))).bind (fun z12 => some (z12))
set_option maxRecDepth 100000 in
theorem E_X0_callsOverLink {d : Nat} {p1 : Int32} {s : NetS} {q : Int32} (h : F_X0_callsOverLink p1 s = some q) : mEv (d + 1) m_X0_callsOverLink none (0, [], [some (.ref 0), some (.int p1), none, none, none, none], [], memN s) (some (.int q)) (memN s) := by
  unfold F_X0_callsOverLink at h
  refine mEv.stp 5 (S' := (4, [], [some (.ref 0), some (.int p1), some (.int (nI 0)), some (.int (nI 0)), none, none], [], memN s)) rfl ?_
  obtain ⟨z12, e13, h⟩ := bnd h
  refine mWh_ind (b := (fun x => B_X0_callsOverLink_4 p1 x.1 x.2 s)) (P := fun x : Int32 × Int32 => mEv (d + 1) m_X0_callsOverLink none (4, [], [some (.ref 0), some (.int p1), some (.int x.1), some (.int x.2), none, none], [], memN s) (some (.int q)) (memN s)) (K := fun z : Int32 => mEv (d + 1) m_X0_callsOverLink none (79, [], [none, none, some (.int z), none, none, none], [], memN s) (some (.int q)) (memN s)) (fun x u hq hk => H_X0_callsOverLink_4 (d := d) (x1 := p1) (x2 := x.1) (x3 := x.2) (s := s) (q := u) (r0 := (some (.int q))) (mu0 := (memN s)) hq hk) fuel0 ((nI 0), (nI 0)) z12 e13 ?_
  refine mEv.stp 0 (S' := (79, [], [none, none, some (.int z12), none, none, none], [], memN s)) rfl ?_
  obtain rfl := Option.some.inj h
  exact mEv.stp 2 (S' := (80, _, [none, none, some (.int z12), none, none, none], [.int z12], memN s)) rfl (mEv.reti ⟨_, rfl, rfl⟩)
theorem A_X0_callsOverLink {d : Nat} {p1 : Int32} {s : NetS} {q : Int32} (h : F_X0_callsOverLink p1 s = some q) : mCall (d + 1) m_X0_callsOverLink [.ref 0, .int p1] (memN s) (some (.int q)) (memN s) := mCall.intro ok_X0_callsOverLink pl_X0_callsOverLink rfl (E_X0_callsOverLink (d := d) h)
def B_X0_wiresHeld_4 (x1 : Int32) (x2 : Int32) (s : NetS) : Option ((Int32 × Int32) ⊕ (Int32)) := if (gN_cc s) ≤ x2 then (some (.inr (x1))) else (gI ((x2 * (nI 4)) + (nI 2)) 320 (if ¬ ((gN_ca s) (Int32.toNatClampNeg ((x2 * (nI 4)) + (nI 2)))) = (-nI 1) then (some (.inl ((x1 + (nI 2)), (x2 + (nI 1))))) else (some (.inl ((x1 + (nI 1)), (x2 + (nI 1)))))))
set_option maxRecDepth 100000 in
theorem H_X0_wiresHeld_4 {d : Nat} {x1 : Int32} {x2 : Int32} {s : NetS} {q : (Int32 × Int32) ⊕ (Int32)} {r0 : Option Value} {mu0 : MMe} (h : B_X0_wiresHeld_4 x1 x2 s = some q) (hk : Sum.elim (fun x : Int32 × Int32 => mEv d m_X0_wiresHeld none (4, [], [some (.ref 0), some (.int x.1), some (.int x.2)], [], memN s) r0 mu0) (fun z : Int32 => mEv d m_X0_wiresHeld none (40, [], [none, some (.int z), none], [], memN s) r0 mu0) q) : mEv d m_X0_wiresHeld none (4, [], [some (.ref 0), some (.int x1), some (.int x2)], [], memN s) r0 mu0 := by
  unfold B_X0_wiresHeld_4 at h
  refine mEv.br 5 (S1 := (40, [], [some (.ref 0), some (.int x1), some (.int x2)], [], memN s)) (S2 := (12, _, [some (.ref 0), some (.int x1), some (.int x2)], [], memN s)) rfl (fun c1 => ?_) (fun c1 => ?_)
  · have h := (if_pos c1).symm.trans h
    refine mEv.fg [0, 2] (z' := [none, some (.int x1), none]) rfl ?_
    obtain rfl := Option.some.inj h
    exact hk
  · have h := (if_neg c1).symm.trans h
    obtain ⟨g2, h⟩ := gI_some h
    refine mEv.gd 9 (S' := (23, _, [some (.ref 0), some (.int x1), some (.int x2)], [.int ((gN_ca s) (Int32.toNatClampNeg ((x2 * (nI 4)) + (nI 2)))), .int x1], memN s)) rfl g2 ?_
    refine mEv.br 2 (S1 := (31, [], [some (.ref 0), some (.int x1), some (.int x2)], [.int x1], memN s)) (S2 := (27, _, [some (.ref 0), some (.int x1), some (.int x2)], [.int x1], memN s)) rfl (fun c3 => ?_) (fun c3 => ?_)
    · have h := (if_pos c3).symm.trans h
      refine mEv.stp 7 (S' := (4, [], [some (.ref 0), some (.int (x1 + (nI 2))), some (.int (x2 + (nI 1)))], [], memN s)) rfl ?_
      obtain rfl := Option.some.inj h
      exact hk
    · have h := (if_neg c3).symm.trans h
      refine mEv.stp 7 (S' := (4, [], [some (.ref 0), some (.int (x1 + (nI 1))), some (.int (x2 + (nI 1)))], [], memN s)) rfl ?_
      obtain rfl := Option.some.inj h
      exact hk
def F_X0_wiresHeld  (s : NetS) : Option (Int32) := (mWh (fun x => B_X0_wiresHeld_4 x.1 x.2 s) fuel0 ((nI 0), (nI 0))).bind (fun z4 => some (z4))
set_option maxRecDepth 100000 in
theorem E_X0_wiresHeld {d : Nat}  {s : NetS} {q : Int32} (h : F_X0_wiresHeld s = some q) : mEv d m_X0_wiresHeld none (0, [], [some (.ref 0), none, none], [], memN s) (some (.int q)) (memN s) := by
  unfold F_X0_wiresHeld at h
  refine mEv.stp 5 (S' := (4, [], [some (.ref 0), some (.int (nI 0)), some (.int (nI 0))], [], memN s)) rfl ?_
  obtain ⟨z4, e5, h⟩ := bnd h
  refine mWh_ind (b := (fun x => B_X0_wiresHeld_4 x.1 x.2 s)) (P := fun x : Int32 × Int32 => mEv d m_X0_wiresHeld none (4, [], [some (.ref 0), some (.int x.1), some (.int x.2)], [], memN s) (some (.int q)) (memN s)) (K := fun z : Int32 => mEv d m_X0_wiresHeld none (40, [], [none, some (.int z), none], [], memN s) (some (.int q)) (memN s)) (fun x u hq hk => H_X0_wiresHeld_4 (d := d) (x1 := x.1) (x2 := x.2) (s := s) (q := u) (r0 := (some (.int q))) (mu0 := (memN s)) hq hk) fuel0 ((nI 0), (nI 0)) z4 e5 ?_
  refine mEv.stp 0 (S' := (40, [], [none, some (.int z4), none], [], memN s)) rfl ?_
  obtain rfl := Option.some.inj h
  exact mEv.stp 2 (S' := (41, _, [none, some (.int z4), none], [.int z4], memN s)) rfl (mEv.reti ⟨_, rfl, rfl⟩)
theorem A_X0_wiresHeld {d : Nat}  {s : NetS} {q : Int32} (h : F_X0_wiresHeld s = some q) : mCall d m_X0_wiresHeld [.ref 0] (memN s) (some (.int q)) (memN s) := mCall.intro ok_X0_wiresHeld pl_X0_wiresHeld rfl (E_X0_wiresHeld (d := d) h)
def F_X0_refusedAt (p1 : Int32) (s : NetS) : Option (Int32) := gI ((nI 144) + p1) 180 (some (((gN_ct s) (Int32.toNatClampNeg ((nI 144) + p1)))))
set_option maxRecDepth 100000 in
theorem E_X0_refusedAt {d : Nat} {p1 : Int32} {s : NetS} {q : Int32} (h : F_X0_refusedAt p1 s = some q) : mEv d m_X0_refusedAt none (0, [], [some (.ref 0), some (.int p1)], [], memN s) (some (.int q)) (memN s) := by
  unfold F_X0_refusedAt at h
  obtain ⟨g1, h⟩ := gI_some h
  refine mEv.gd 7 (S' := (10, _, [some (.ref 0), some (.int p1)], [.int ((gN_ct s) (Int32.toNatClampNeg ((nI 144) + p1)))], memN s)) rfl g1 ?_
  obtain rfl := Option.some.inj h
  exact mEv.reti ⟨_, rfl, rfl⟩
theorem A_X0_refusedAt {d : Nat} {p1 : Int32} {s : NetS} {q : Int32} (h : F_X0_refusedAt p1 s = some q) : mCall d m_X0_refusedAt [.ref 0, .int p1] (memN s) (some (.int q)) (memN s) := mCall.intro ok_X0_refusedAt pl_X0_refusedAt rfl (E_X0_refusedAt (d := d) h)
def B_X0_mostRefusedPair_18 (x2 : Int32) (x1 : Int32) (x3 : Int32) (s : NetS) : Option ((Int32 × Int32) ⊕ (Int32)) := if (gN_tc s) ≤ x3 then (some (.inr (x1))) else (if x2 = x3 then (some (.inl (x1, (x3 + (nI 1))))) else ((F_X0_pairCell x2 x3).bind (fun v6 => (F_X0_refusedAt v6 s).bind (fun v8 => (F_X0_refusedAt x1 s).bind (fun v10 => if v8 ≤ v10 then (some (.inl (x1, (x3 + (nI 1))))) else ((F_X0_pairCell x2 x3).bind (fun v13 => some (.inl (v13, (x3 + (nI 1)))))))))))
set_option maxRecDepth 100000 in
theorem H_X0_mostRefusedPair_18 {d : Nat} {x2 : Int32} {x1 : Int32} {x3 : Int32} {s : NetS} {q : (Int32 × Int32) ⊕ (Int32)} {r0 : Option Value} {mu0 : MMe} (h : B_X0_mostRefusedPair_18 x2 x1 x3 s = some q) (hk : Sum.elim (fun x : Int32 × Int32 => mEv (d + 1) m_X0_mostRefusedPair none (18, [], [some (.ref 0), some (.int x.1), some (.int x2), some (.int x.2)], [], memN s) r0 mu0) (fun z : Int32 => mEv (d + 1) m_X0_mostRefusedPair none (60, [], [some (.ref 0), some (.int z), some (.int x2), none], [], memN s) r0 mu0) q) : mEv (d + 1) m_X0_mostRefusedPair none (18, [], [some (.ref 0), some (.int x1), some (.int x2), some (.int x3)], [], memN s) r0 mu0 := by
  unfold B_X0_mostRefusedPair_18 at h
  refine mEv.br 5 (S1 := (60, [], [some (.ref 0), some (.int x1), some (.int x2), some (.int x3)], [], memN s)) (S2 := (26, _, [some (.ref 0), some (.int x1), some (.int x2), some (.int x3)], [], memN s)) rfl (fun c4 => ?_) (fun c4 => ?_)
  · have h := (if_pos c4).symm.trans h
    refine mEv.fg [3] (z' := [some (.ref 0), some (.int x1), some (.int x2), none]) rfl ?_
    obtain rfl := Option.some.inj h
    exact hk
  · have h := (if_neg c4).symm.trans h
    refine mEv.br 3 (S1 := (54, [], [some (.ref 0), some (.int x1), some (.int x2), some (.int x3)], [], memN s)) (S2 := (31, _, [some (.ref 0), some (.int x1), some (.int x2), some (.int x3)], [], memN s)) rfl (fun c5 => ?_) (fun c5 => ?_)
    · have h := (if_pos c5).symm.trans h
      refine mEv.stp 3 (S' := (18, [], [some (.ref 0), some (.int x1), some (.int x2), some (.int (x3 + (nI 1)))], [], memN s)) rfl ?_
      obtain rfl := Option.some.inj h
      exact hk
    · have h := (if_neg c5).symm.trans h
      refine mEv.stp 3 (S' := (34, _, [some (.ref 0), some (.int x1), some (.int x2), some (.int x3)], [.int x3, .int x2, .ref 0], memN s)) rfl ?_
      obtain ⟨v6, e7, h⟩ := bnd h
      refine mEv.callS (As := [.int x2, .int x3]) (st := [.ref 0]) (r := (some (.int v6))) (μ1 := memN s) lk_X0_60 rfl rfl rfl (A_X0_pairCell (d := d + 0) e7) ?_
      refine mEv.stp 0 (S' := (37, _, [some (.ref 0), some (.int x1), some (.int x2), some (.int x3)], [.int v6, .ref 0], memN s)) rfl ?_
      obtain ⟨v8, e9, h⟩ := bnd h
      refine mEv.callV (As := [.int v6]) (st := []) (h := 0) (r := (some (.int v8))) (μ1 := memN s) lk_X0_141 rfl rfl rfl rfl rfl (A_X0_refusedAt (d := d + 0) e9) ?_
      refine mEv.stp 0 (S' := (40, _, [some (.ref 0), some (.int x1), some (.int x2), some (.int x3)], [.int v8], memN s)) rfl ?_
      refine mEv.stp 2 (S' := (42, _, [some (.ref 0), some (.int x1), some (.int x2), some (.int x3)], [.int x1, .ref 0, .int v8], memN s)) rfl ?_
      obtain ⟨v10, e11, h⟩ := bnd h
      refine mEv.callV (As := [.int x1]) (st := [.int v8]) (h := 0) (r := (some (.int v10))) (μ1 := memN s) lk_X0_141 rfl rfl rfl rfl rfl (A_X0_refusedAt (d := d + 0) e11) ?_
      refine mEv.stp 0 (S' := (45, _, [some (.ref 0), some (.int x1), some (.int x2), some (.int x3)], [.int v10, .int v8], memN s)) rfl ?_
      refine mEv.br 1 (S1 := (54, [], [some (.ref 0), some (.int x1), some (.int x2), some (.int x3)], [], memN s)) (S2 := (48, _, [some (.ref 0), some (.int x1), some (.int x2), some (.int x3)], [], memN s)) rfl (fun c12 => ?_) (fun c12 => ?_)
      · have h := (if_pos c12).symm.trans h
        refine mEv.stp 3 (S' := (18, [], [some (.ref 0), some (.int x1), some (.int x2), some (.int (x3 + (nI 1)))], [], memN s)) rfl ?_
        obtain rfl := Option.some.inj h
        exact hk
      · have h := (if_neg c12).symm.trans h
        refine mEv.stp 2 (S' := (50, _, [some (.ref 0), some (.int x1), some (.int x2), some (.int x3)], [.int x3, .int x2], memN s)) rfl ?_
        obtain ⟨v13, e14, h⟩ := bnd h
        refine mEv.callS (As := [.int x2, .int x3]) (st := []) (r := (some (.int v13))) (μ1 := memN s) lk_X0_60 rfl rfl rfl (A_X0_pairCell (d := d + 0) e14) ?_
        refine mEv.stp 0 (S' := (53, _, [some (.ref 0), some (.int x1), some (.int x2), some (.int x3)], [.int v13], memN s)) rfl ?_
        refine mEv.stp 4 (S' := (18, [], [some (.ref 0), some (.int v13), some (.int x2), some (.int (x3 + (nI 1)))], [], memN s)) rfl ?_
        obtain rfl := Option.some.inj h
        exact hk
def B_X0_mostRefusedPair_8 (x1 : Int32) (x2 : Int32) (s : NetS) : Option ((Int32 × Int32) ⊕ (Int32)) := if (gN_tc s) ≤ x2 then (some (.inr (x1))) else ((mWh (fun x => B_X0_mostRefusedPair_18 x2 x.1 x.2 s) fuel0 (x1, (nI 0))).bind (fun z15 => some (.inl (z15, (x2 + (nI 1))))))
set_option maxRecDepth 100000 in
theorem H_X0_mostRefusedPair_8 {d : Nat} {x1 : Int32} {x2 : Int32} {s : NetS} {q : (Int32 × Int32) ⊕ (Int32)} {r0 : Option Value} {mu0 : MMe} (h : B_X0_mostRefusedPair_8 x1 x2 s = some q) (hk : Sum.elim (fun x : Int32 × Int32 => mEv (d + 1) m_X0_mostRefusedPair none (8, [], [some (.ref 0), some (.int x.1), some (.int x.2), none], [], memN s) r0 mu0) (fun z : Int32 => mEv (d + 1) m_X0_mostRefusedPair none (66, [], [none, some (.int z), none, none], [], memN s) r0 mu0) q) : mEv (d + 1) m_X0_mostRefusedPair none (8, [], [some (.ref 0), some (.int x1), some (.int x2), none], [], memN s) r0 mu0 := by
  unfold B_X0_mostRefusedPair_8 at h
  refine mEv.br 5 (S1 := (66, [], [some (.ref 0), some (.int x1), some (.int x2), none], [], memN s)) (S2 := (16, _, [some (.ref 0), some (.int x1), some (.int x2), none], [], memN s)) rfl (fun c3 => ?_) (fun c3 => ?_)
  · have h := (if_pos c3).symm.trans h
    refine mEv.fg [0, 2] (z' := [none, some (.int x1), none, none]) rfl ?_
    obtain rfl := Option.some.inj h
    exact hk
  · have h := (if_neg c3).symm.trans h
    refine mEv.stp 2 (S' := (18, [], [some (.ref 0), some (.int x1), some (.int x2), some (.int (nI 0))], [], memN s)) rfl ?_
    obtain ⟨z15, e16, h⟩ := bnd h
    refine mWh_ind (b := (fun x => B_X0_mostRefusedPair_18 x2 x.1 x.2 s)) (P := fun x : Int32 × Int32 => mEv (d + 1) m_X0_mostRefusedPair none (18, [], [some (.ref 0), some (.int x.1), some (.int x2), some (.int x.2)], [], memN s) r0 mu0) (K := fun z : Int32 => mEv (d + 1) m_X0_mostRefusedPair none (60, [], [some (.ref 0), some (.int z), some (.int x2), none], [], memN s) r0 mu0) (fun x u hq hk => H_X0_mostRefusedPair_18 (d := d) (x2 := x2) (x1 := x.1) (x3 := x.2) (s := s) (q := u) (r0 := r0) (mu0 := mu0) hq hk) fuel0 (x1, (nI 0)) z15 e16 ?_
    refine mEv.stp 0 (S' := (60, [], [some (.ref 0), some (.int z15), some (.int x2), none], [], memN s)) rfl ?_
    refine mEv.stp 3 (S' := (8, [], [some (.ref 0), some (.int z15), some (.int (x2 + (nI 1))), none], [], memN s)) rfl ?_
    obtain rfl := Option.some.inj h
    exact hk
def F_X0_mostRefusedPair  (s : NetS) : Option (Int32) := (F_X0_pairCell (nI 0) (nI 1)).bind (fun v1 => (mWh (fun x => B_X0_mostRefusedPair_8 x.1 x.2 s) fuel0 (v1, (nI 0))).bind (fun z17 => some (z17)))
set_option maxRecDepth 100000 in
theorem E_X0_mostRefusedPair {d : Nat}  {s : NetS} {q : Int32} (h : F_X0_mostRefusedPair s = some q) : mEv (d + 1) m_X0_mostRefusedPair none (0, [], [some (.ref 0), none, none, none], [], memN s) (some (.int q)) (memN s) := by
  unfold F_X0_mostRefusedPair at h
  refine mEv.stp 3 (S' := (2, _, [some (.ref 0), none, none, none], [.int (nI 1), .int (nI 0)], memN s)) rfl ?_
  obtain ⟨v1, e2, h⟩ := bnd h
  refine mEv.callS (As := [.int (nI 0), .int (nI 1)]) (st := []) (r := (some (.int v1))) (μ1 := memN s) lk_X0_60 rfl rfl rfl (A_X0_pairCell (d := d + 0) e2) ?_
  refine mEv.stp 0 (S' := (5, _, [some (.ref 0), none, none, none], [.int v1], memN s)) rfl ?_
  refine mEv.stp 3 (S' := (8, [], [some (.ref 0), some (.int v1), some (.int (nI 0)), none], [], memN s)) rfl ?_
  obtain ⟨z17, e18, h⟩ := bnd h
  refine mWh_ind (b := (fun x => B_X0_mostRefusedPair_8 x.1 x.2 s)) (P := fun x : Int32 × Int32 => mEv (d + 1) m_X0_mostRefusedPair none (8, [], [some (.ref 0), some (.int x.1), some (.int x.2), none], [], memN s) (some (.int q)) (memN s)) (K := fun z : Int32 => mEv (d + 1) m_X0_mostRefusedPair none (66, [], [none, some (.int z), none, none], [], memN s) (some (.int q)) (memN s)) (fun x u hq hk => H_X0_mostRefusedPair_8 (d := d) (x1 := x.1) (x2 := x.2) (s := s) (q := u) (r0 := (some (.int q))) (mu0 := (memN s)) hq hk) fuel0 (v1, (nI 0)) z17 e18 ?_
  refine mEv.stp 0 (S' := (66, [], [none, some (.int z17), none, none], [], memN s)) rfl ?_
  obtain rfl := Option.some.inj h
  exact mEv.stp 2 (S' := (67, _, [none, some (.int z17), none, none], [.int z17], memN s)) rfl (mEv.reti ⟨_, rfl, rfl⟩)
theorem A_X0_mostRefusedPair {d : Nat}  {s : NetS} {q : Int32} (h : F_X0_mostRefusedPair s = some q) : mCall (d + 1) m_X0_mostRefusedPair [.ref 0] (memN s) (some (.int q)) (memN s) := mCall.intro ok_X0_mostRefusedPair pl_X0_mostRefusedPair rfl (E_X0_mostRefusedPair (d := d) h)
def B_X0_scarcestLink_20 (x2 : Int32) (x1 : Int32) (x3 : Int32) (s : NetS) : Option ((Int32 × Int32) ⊕ (Int32)) := if (gN_tc s) ≤ x3 then (some (.inr (x1))) else ((F_X0_linkCell x2 x3).bind (fun v5 => (F_X0_freeWires v5 s).bind (fun v7 => (F_X0_freeWires x1 s).bind (fun v9 => if v9 ≤ v7 then (some (.inl (x1, (x3 + (nI 1))))) else ((F_X0_linkCell x2 x3).bind (fun v12 => some (.inl (v12, (x3 + (nI 1))))))))))
set_option maxRecDepth 100000 in
theorem H_X0_scarcestLink_20 {d : Nat} {x2 : Int32} {x1 : Int32} {x3 : Int32} {s : NetS} {q : (Int32 × Int32) ⊕ (Int32)} {r0 : Option Value} {mu0 : MMe} (h : B_X0_scarcestLink_20 x2 x1 x3 s = some q) (hk : Sum.elim (fun x : Int32 × Int32 => mEv (d + 1) m_X0_scarcestLink none (20, [], [some (.ref 0), some (.int x.1), some (.int x2), some (.int x.2)], [], memN s) r0 mu0) (fun z : Int32 => mEv (d + 1) m_X0_scarcestLink none (57, [], [some (.ref 0), some (.int z), some (.int x2), none], [], memN s) r0 mu0) q) : mEv (d + 1) m_X0_scarcestLink none (20, [], [some (.ref 0), some (.int x1), some (.int x2), some (.int x3)], [], memN s) r0 mu0 := by
  unfold B_X0_scarcestLink_20 at h
  refine mEv.br 5 (S1 := (57, [], [some (.ref 0), some (.int x1), some (.int x2), some (.int x3)], [], memN s)) (S2 := (28, _, [some (.ref 0), some (.int x1), some (.int x2), some (.int x3)], [], memN s)) rfl (fun c4 => ?_) (fun c4 => ?_)
  · have h := (if_pos c4).symm.trans h
    refine mEv.fg [3] (z' := [some (.ref 0), some (.int x1), some (.int x2), none]) rfl ?_
    obtain rfl := Option.some.inj h
    exact hk
  · have h := (if_neg c4).symm.trans h
    refine mEv.stp 3 (S' := (31, _, [some (.ref 0), some (.int x1), some (.int x2), some (.int x3)], [.int x3, .int x2, .ref 0], memN s)) rfl ?_
    obtain ⟨v5, e6, h⟩ := bnd h
    refine mEv.callS (As := [.int x2, .int x3]) (st := [.ref 0]) (r := (some (.int v5))) (μ1 := memN s) lk_X0_73 rfl rfl rfl (A_X0_linkCell (d := d + 0) e6) ?_
    refine mEv.stp 0 (S' := (34, _, [some (.ref 0), some (.int x1), some (.int x2), some (.int x3)], [.int v5, .ref 0], memN s)) rfl ?_
    obtain ⟨v7, e8, h⟩ := bnd h
    refine mEv.callV (As := [.int v5]) (st := []) (h := 0) (r := (some (.int v7))) (μ1 := memN s) lk_X0_76 rfl rfl rfl rfl rfl (A_X0_freeWires (d := d + 0) e8) ?_
    refine mEv.stp 0 (S' := (37, _, [some (.ref 0), some (.int x1), some (.int x2), some (.int x3)], [.int v7], memN s)) rfl ?_
    refine mEv.stp 2 (S' := (39, _, [some (.ref 0), some (.int x1), some (.int x2), some (.int x3)], [.int x1, .ref 0, .int v7], memN s)) rfl ?_
    obtain ⟨v9, e10, h⟩ := bnd h
    refine mEv.callV (As := [.int x1]) (st := [.int v7]) (h := 0) (r := (some (.int v9))) (μ1 := memN s) lk_X0_76 rfl rfl rfl rfl rfl (A_X0_freeWires (d := d + 0) e10) ?_
    refine mEv.stp 0 (S' := (42, _, [some (.ref 0), some (.int x1), some (.int x2), some (.int x3)], [.int v9, .int v7], memN s)) rfl ?_
    refine mEv.br 1 (S1 := (51, [], [some (.ref 0), some (.int x1), some (.int x2), some (.int x3)], [], memN s)) (S2 := (45, _, [some (.ref 0), some (.int x1), some (.int x2), some (.int x3)], [], memN s)) rfl (fun c11 => ?_) (fun c11 => ?_)
    · have h := (if_pos c11).symm.trans h
      refine mEv.stp 3 (S' := (20, [], [some (.ref 0), some (.int x1), some (.int x2), some (.int (x3 + (nI 1)))], [], memN s)) rfl ?_
      obtain rfl := Option.some.inj h
      exact hk
    · have h := (if_neg c11).symm.trans h
      refine mEv.stp 2 (S' := (47, _, [some (.ref 0), some (.int x1), some (.int x2), some (.int x3)], [.int x3, .int x2], memN s)) rfl ?_
      obtain ⟨v12, e13, h⟩ := bnd h
      refine mEv.callS (As := [.int x2, .int x3]) (st := []) (r := (some (.int v12))) (μ1 := memN s) lk_X0_73 rfl rfl rfl (A_X0_linkCell (d := d + 0) e13) ?_
      refine mEv.stp 0 (S' := (50, _, [some (.ref 0), some (.int x1), some (.int x2), some (.int x3)], [.int v12], memN s)) rfl ?_
      refine mEv.stp 4 (S' := (20, [], [some (.ref 0), some (.int v12), some (.int x2), some (.int (x3 + (nI 1)))], [], memN s)) rfl ?_
      obtain rfl := Option.some.inj h
      exact hk
def B_X0_scarcestLink_8 (x1 : Int32) (x2 : Int32) (s : NetS) : Option ((Int32 × Int32) ⊕ (Int32)) := if (gN_tc s) ≤ x2 then (some (.inr (x1))) else ((mWh (fun x => B_X0_scarcestLink_20 x2 x.1 x.2 s) fuel0 (x1, (x2 + (nI 1)))).bind (fun z14 => some (.inl (z14, (x2 + (nI 1))))))
set_option maxRecDepth 100000 in
theorem H_X0_scarcestLink_8 {d : Nat} {x1 : Int32} {x2 : Int32} {s : NetS} {q : (Int32 × Int32) ⊕ (Int32)} {r0 : Option Value} {mu0 : MMe} (h : B_X0_scarcestLink_8 x1 x2 s = some q) (hk : Sum.elim (fun x : Int32 × Int32 => mEv (d + 1) m_X0_scarcestLink none (8, [], [some (.ref 0), some (.int x.1), some (.int x.2), none], [], memN s) r0 mu0) (fun z : Int32 => mEv (d + 1) m_X0_scarcestLink none (63, [], [none, some (.int z), none, none], [], memN s) r0 mu0) q) : mEv (d + 1) m_X0_scarcestLink none (8, [], [some (.ref 0), some (.int x1), some (.int x2), none], [], memN s) r0 mu0 := by
  unfold B_X0_scarcestLink_8 at h
  refine mEv.br 5 (S1 := (63, [], [some (.ref 0), some (.int x1), some (.int x2), none], [], memN s)) (S2 := (16, _, [some (.ref 0), some (.int x1), some (.int x2), none], [], memN s)) rfl (fun c3 => ?_) (fun c3 => ?_)
  · have h := (if_pos c3).symm.trans h
    refine mEv.fg [0, 2] (z' := [none, some (.int x1), none, none]) rfl ?_
    obtain rfl := Option.some.inj h
    exact hk
  · have h := (if_neg c3).symm.trans h
    refine mEv.stp 4 (S' := (20, [], [some (.ref 0), some (.int x1), some (.int x2), some (.int (x2 + (nI 1)))], [], memN s)) rfl ?_
    obtain ⟨z14, e15, h⟩ := bnd h
    refine mWh_ind (b := (fun x => B_X0_scarcestLink_20 x2 x.1 x.2 s)) (P := fun x : Int32 × Int32 => mEv (d + 1) m_X0_scarcestLink none (20, [], [some (.ref 0), some (.int x.1), some (.int x2), some (.int x.2)], [], memN s) r0 mu0) (K := fun z : Int32 => mEv (d + 1) m_X0_scarcestLink none (57, [], [some (.ref 0), some (.int z), some (.int x2), none], [], memN s) r0 mu0) (fun x u hq hk => H_X0_scarcestLink_20 (d := d) (x2 := x2) (x1 := x.1) (x3 := x.2) (s := s) (q := u) (r0 := r0) (mu0 := mu0) hq hk) fuel0 (x1, (x2 + (nI 1))) z14 e15 ?_
    refine mEv.stp 0 (S' := (57, [], [some (.ref 0), some (.int z14), some (.int x2), none], [], memN s)) rfl ?_
    refine mEv.stp 3 (S' := (8, [], [some (.ref 0), some (.int z14), some (.int (x2 + (nI 1))), none], [], memN s)) rfl ?_
    obtain rfl := Option.some.inj h
    exact hk
def F_X0_scarcestLink  (s : NetS) : Option (Int32) := (F_X0_linkCell (nI 0) (nI 1)).bind (fun v1 => (mWh (fun x => B_X0_scarcestLink_8 x.1 x.2 s) fuel0 (v1, (nI 0))).bind (fun z16 => some (z16)))
set_option maxRecDepth 100000 in
theorem E_X0_scarcestLink {d : Nat}  {s : NetS} {q : Int32} (h : F_X0_scarcestLink s = some q) : mEv (d + 1) m_X0_scarcestLink none (0, [], [some (.ref 0), none, none, none], [], memN s) (some (.int q)) (memN s) := by
  unfold F_X0_scarcestLink at h
  refine mEv.stp 3 (S' := (2, _, [some (.ref 0), none, none, none], [.int (nI 1), .int (nI 0)], memN s)) rfl ?_
  obtain ⟨v1, e2, h⟩ := bnd h
  refine mEv.callS (As := [.int (nI 0), .int (nI 1)]) (st := []) (r := (some (.int v1))) (μ1 := memN s) lk_X0_73 rfl rfl rfl (A_X0_linkCell (d := d + 0) e2) ?_
  refine mEv.stp 0 (S' := (5, _, [some (.ref 0), none, none, none], [.int v1], memN s)) rfl ?_
  refine mEv.stp 3 (S' := (8, [], [some (.ref 0), some (.int v1), some (.int (nI 0)), none], [], memN s)) rfl ?_
  obtain ⟨z16, e17, h⟩ := bnd h
  refine mWh_ind (b := (fun x => B_X0_scarcestLink_8 x.1 x.2 s)) (P := fun x : Int32 × Int32 => mEv (d + 1) m_X0_scarcestLink none (8, [], [some (.ref 0), some (.int x.1), some (.int x.2), none], [], memN s) (some (.int q)) (memN s)) (K := fun z : Int32 => mEv (d + 1) m_X0_scarcestLink none (63, [], [none, some (.int z), none, none], [], memN s) (some (.int q)) (memN s)) (fun x u hq hk => H_X0_scarcestLink_8 (d := d) (x1 := x.1) (x2 := x.2) (s := s) (q := u) (r0 := (some (.int q))) (mu0 := (memN s)) hq hk) fuel0 (v1, (nI 0)) z16 e17 ?_
  refine mEv.stp 0 (S' := (63, [], [none, some (.int z16), none, none], [], memN s)) rfl ?_
  obtain rfl := Option.some.inj h
  exact mEv.stp 2 (S' := (64, _, [none, some (.int z16), none, none], [.int z16], memN s)) rfl (mEv.reti ⟨_, rfl, rfl⟩)
theorem A_X0_scarcestLink {d : Nat}  {s : NetS} {q : Int32} (h : F_X0_scarcestLink s = some q) : mCall (d + 1) m_X0_scarcestLink [.ref 0] (memN s) (some (.int q)) (memN s) := mCall.intro ok_X0_scarcestLink pl_X0_scarcestLink rfl (E_X0_scarcestLink (d := d) h)
def B_X0_mixLinks_20 (x5 : Int32) (x3 : Int64) (x6 : Int32) (s : NetS) : Option ((Int64 × Int32) ⊕ (Int64)) := if (gN_tc s) ≤ x6 then (some (.inr (x3))) else ((F_X0_linkCell x5 x6).bind (fun v3 => gI v3 36 (gI v3 36 ((F_X0_freeWires v3 s).bind (fun v7 => some (.inl ((((lN 31) * (((lN 31) * (((lN 31) * x3) + (Int32.toInt64 ((gN_w s) (Int32.toNatClampNeg v3))))) + (Int32.toInt64 ((gN_r s) (Int32.toNatClampNeg v3))))) + (Int32.toInt64 v7)), (x6 + (nI 1)))))))))
set_option maxRecDepth 100000 in
theorem H_X0_mixLinks_20 {d : Nat} {x5 : Int32} {x3 : Int64} {x6 : Int32} {s : NetS} {q : (Int64 × Int32) ⊕ (Int64)} {r0 : Option Value} {mu0 : MMe} (h : B_X0_mixLinks_20 x5 x3 x6 s = some q) (hk : Sum.elim (fun x : Int64 × Int32 => mEv (d + 1) m_X0_mixLinks none (20, [], [some (.ref 0), none, none, some (.long x.1), none, some (.int x5), some (.int x.2), none], [], memN s) r0 mu0) (fun z : Int64 => mEv (d + 1) m_X0_mixLinks none (88, [], [some (.ref 0), none, none, some (.long z), none, some (.int x5), none, none], [], memN s) r0 mu0) q) : mEv (d + 1) m_X0_mixLinks none (20, [], [some (.ref 0), none, none, some (.long x3), none, some (.int x5), some (.int x6), none], [], memN s) r0 mu0 := by
  unfold B_X0_mixLinks_20 at h
  refine mEv.br 5 (S1 := (88, [], [some (.ref 0), none, none, some (.long x3), none, some (.int x5), some (.int x6), none], [], memN s)) (S2 := (29, _, [some (.ref 0), none, none, some (.long x3), none, some (.int x5), some (.int x6), none], [], memN s)) rfl (fun c2 => ?_) (fun c2 => ?_)
  · have h := (if_pos c2).symm.trans h
    refine mEv.fg [6] (z' := [some (.ref 0), none, none, some (.long x3), none, some (.int x5), none, none]) rfl ?_
    obtain rfl := Option.some.inj h
    exact hk
  · have h := (if_neg c2).symm.trans h
    refine mEv.stp 2 (S' := (33, _, [some (.ref 0), none, none, some (.long x3), none, some (.int x5), some (.int x6), none], [.int x6, .int x5], memN s)) rfl ?_
    obtain ⟨v3, e4, h⟩ := bnd h
    refine mEv.callS (As := [.int x5, .int x6]) (st := []) (r := (some (.int v3))) (μ1 := memN s) lk_X0_73 rfl rfl rfl (A_X0_linkCell (d := d + 0) e4) ?_
    refine mEv.stp 0 (S' := (36, _, [some (.ref 0), none, none, some (.long x3), none, some (.int x5), some (.int x6), none], [.int v3], memN s)) rfl ?_
    obtain ⟨g5, h⟩ := gI_some h
    refine mEv.gd 8 (S' := (50, _, [some (.ref 0), none, none, some (.long x3), none, some (.int x5), some (.int x6), some (.int v3)], [.int ((gN_w s) (Int32.toNatClampNeg v3)), .long ((lN 31) * x3)], memN s)) rfl g5 ?_
    obtain ⟨g6, h⟩ := gI_some h
    refine mEv.gd 10 (S' := (65, _, [some (.ref 0), none, none, some (.long (((lN 31) * x3) + (Int32.toInt64 ((gN_w s) (Int32.toNatClampNeg v3))))), none, some (.int x5), some (.int x6), some (.int v3)], [.int ((gN_r s) (Int32.toNatClampNeg v3)), .long ((lN 31) * (((lN 31) * x3) + (Int32.toInt64 ((gN_w s) (Int32.toNatClampNeg v3)))))], memN s)) rfl g6 ?_
    refine mEv.stp 8 (S' := (76, _, [some (.ref 0), none, none, some (.long (((lN 31) * (((lN 31) * x3) + (Int32.toInt64 ((gN_w s) (Int32.toNatClampNeg v3))))) + (Int32.toInt64 ((gN_r s) (Int32.toNatClampNeg v3))))), none, some (.int x5), some (.int x6), some (.int v3)], [.int v3, .ref 0, .long ((lN 31) * (((lN 31) * (((lN 31) * x3) + (Int32.toInt64 ((gN_w s) (Int32.toNatClampNeg v3))))) + (Int32.toInt64 ((gN_r s) (Int32.toNatClampNeg v3)))))], memN s)) rfl ?_
    obtain ⟨v7, e8, h⟩ := bnd h
    refine mEv.callV (As := [.int v3]) (st := [.long ((lN 31) * (((lN 31) * (((lN 31) * x3) + (Int32.toInt64 ((gN_w s) (Int32.toNatClampNeg v3))))) + (Int32.toInt64 ((gN_r s) (Int32.toNatClampNeg v3)))))]) (h := 0) (r := (some (.int v7))) (μ1 := memN s) lk_X0_76 rfl rfl rfl rfl rfl (A_X0_freeWires (d := d + 0) e8) ?_
    refine mEv.stp 0 (S' := (79, _, [some (.ref 0), none, none, some (.long (((lN 31) * (((lN 31) * x3) + (Int32.toInt64 ((gN_w s) (Int32.toNatClampNeg v3))))) + (Int32.toInt64 ((gN_r s) (Int32.toNatClampNeg v3))))), none, some (.int x5), some (.int x6), some (.int v3)], [.int v7, .long ((lN 31) * (((lN 31) * (((lN 31) * x3) + (Int32.toInt64 ((gN_w s) (Int32.toNatClampNeg v3))))) + (Int32.toInt64 ((gN_r s) (Int32.toNatClampNeg v3)))))], memN s)) rfl ?_
    refine mEv.stp 5 (S' := (20, [], [some (.ref 0), none, none, some (.long (((lN 31) * (((lN 31) * (((lN 31) * x3) + (Int32.toInt64 ((gN_w s) (Int32.toNatClampNeg v3))))) + (Int32.toInt64 ((gN_r s) (Int32.toNatClampNeg v3))))) + (Int32.toInt64 v7))), none, some (.int x5), some (.int (x6 + (nI 1))), some (.int v3)], [], memN s)) rfl ?_
    refine mEv.fg [7] (z' := [some (.ref 0), none, none, some (.long (((lN 31) * (((lN 31) * (((lN 31) * x3) + (Int32.toInt64 ((gN_w s) (Int32.toNatClampNeg v3))))) + (Int32.toInt64 ((gN_r s) (Int32.toNatClampNeg v3))))) + (Int32.toInt64 v7))), none, some (.int x5), some (.int (x6 + (nI 1))), none]) rfl ?_
    obtain rfl := Option.some.inj h
    exact hk
def B_X0_mixLinks_5 (x3 : Int64) (x5 : Int32) (s : NetS) : Option ((Int64 × Int32) ⊕ (Int64)) := if (gN_tc s) ≤ x5 then (some (.inr (x3))) else ((mWh (fun x => B_X0_mixLinks_20 x5 x.1 x.2 s) fuel0 (x3, (x5 + (nI 1)))).bind (fun z9 => some (.inl (z9, (x5 + (nI 1))))))
set_option maxRecDepth 100000 in
theorem H_X0_mixLinks_5 {d : Nat} {x3 : Int64} {x5 : Int32} {s : NetS} {q : (Int64 × Int32) ⊕ (Int64)} {r0 : Option Value} {mu0 : MMe} (h : B_X0_mixLinks_5 x3 x5 s = some q) (hk : Sum.elim (fun x : Int64 × Int32 => mEv (d + 1) m_X0_mixLinks none (5, [], [some (.ref 0), none, none, some (.long x.1), none, some (.int x.2), none, none], [], memN s) r0 mu0) (fun z : Int64 => mEv (d + 1) m_X0_mixLinks none (94, [], [none, none, none, some (.long z), none, none, none, none], [], memN s) r0 mu0) q) : mEv (d + 1) m_X0_mixLinks none (5, [], [some (.ref 0), none, none, some (.long x3), none, some (.int x5), none, none], [], memN s) r0 mu0 := by
  unfold B_X0_mixLinks_5 at h
  refine mEv.br 5 (S1 := (94, [], [some (.ref 0), none, none, some (.long x3), none, some (.int x5), none, none], [], memN s)) (S2 := (14, _, [some (.ref 0), none, none, some (.long x3), none, some (.int x5), none, none], [], memN s)) rfl (fun c1 => ?_) (fun c1 => ?_)
  · have h := (if_pos c1).symm.trans h
    refine mEv.fg [0, 5] (z' := [none, none, none, some (.long x3), none, none, none, none]) rfl ?_
    obtain rfl := Option.some.inj h
    exact hk
  · have h := (if_neg c1).symm.trans h
    refine mEv.stp 4 (S' := (20, [], [some (.ref 0), none, none, some (.long x3), none, some (.int x5), some (.int (x5 + (nI 1))), none], [], memN s)) rfl ?_
    obtain ⟨z9, e10, h⟩ := bnd h
    refine mWh_ind (b := (fun x => B_X0_mixLinks_20 x5 x.1 x.2 s)) (P := fun x : Int64 × Int32 => mEv (d + 1) m_X0_mixLinks none (20, [], [some (.ref 0), none, none, some (.long x.1), none, some (.int x5), some (.int x.2), none], [], memN s) r0 mu0) (K := fun z : Int64 => mEv (d + 1) m_X0_mixLinks none (88, [], [some (.ref 0), none, none, some (.long z), none, some (.int x5), none, none], [], memN s) r0 mu0) (fun x u hq hk => H_X0_mixLinks_20 (d := d) (x5 := x5) (x3 := x.1) (x6 := x.2) (s := s) (q := u) (r0 := r0) (mu0 := mu0) hq hk) fuel0 (x3, (x5 + (nI 1))) z9 e10 ?_
    refine mEv.stp 0 (S' := (88, [], [some (.ref 0), none, none, some (.long z9), none, some (.int x5), none, none], [], memN s)) rfl ?_
    refine mEv.stp 3 (S' := (5, [], [some (.ref 0), none, none, some (.long z9), none, some (.int (x5 + (nI 1))), none, none], [], memN s)) rfl ?_
    obtain rfl := Option.some.inj h
    exact hk
def F_X0_mixLinks (p1 : Int64) (s : NetS) : Option (Int64) := (mWh (fun x => B_X0_mixLinks_5 x.1 x.2 s) fuel0 (p1, (nI 0))).bind (fun z11 => some (z11))
set_option maxRecDepth 100000 in
theorem E_X0_mixLinks {d : Nat} {p1 : Int64} {s : NetS} {q : Int64} (h : F_X0_mixLinks p1 s = some q) : mEv (d + 1) m_X0_mixLinks none (0, [], [some (.ref 0), some (.long p1), none, none, none, none, none, none], [], memN s) (some (.long q)) (memN s) := by
  unfold F_X0_mixLinks at h
  refine mEv.stp 5 (S' := (5, [], [some (.ref 0), some (.long p1), none, some (.long p1), none, some (.int (nI 0)), none, none], [], memN s)) rfl ?_
  refine mEv.fg [1] (z' := [some (.ref 0), none, none, some (.long p1), none, some (.int (nI 0)), none, none]) rfl ?_
  obtain ⟨z11, e12, h⟩ := bnd h
  refine mWh_ind (b := (fun x => B_X0_mixLinks_5 x.1 x.2 s)) (P := fun x : Int64 × Int32 => mEv (d + 1) m_X0_mixLinks none (5, [], [some (.ref 0), none, none, some (.long x.1), none, some (.int x.2), none, none], [], memN s) (some (.long q)) (memN s)) (K := fun z : Int64 => mEv (d + 1) m_X0_mixLinks none (94, [], [none, none, none, some (.long z), none, none, none, none], [], memN s) (some (.long q)) (memN s)) (fun x u hq hk => H_X0_mixLinks_5 (d := d) (x3 := x.1) (x5 := x.2) (s := s) (q := u) (r0 := (some (.long q))) (mu0 := (memN s)) hq hk) fuel0 (p1, (nI 0)) z11 e12 ?_
  refine mEv.stp 0 (S' := (94, [], [none, none, none, some (.long z11), none, none, none, none], [], memN s)) rfl ?_
  obtain rfl := Option.some.inj h
  exact mEv.stp 2 (S' := (95, _, [none, none, none, some (.long z11), none, none, none, none], [.long z11], memN s)) rfl (mEv.retl rfl)
theorem A_X0_mixLinks {d : Nat} {p1 : Int64} {s : NetS} {q : Int64} (h : F_X0_mixLinks p1 s = some q) : mCall (d + 1) m_X0_mixLinks [.ref 0, .long p1] (memN s) (some (.long q)) (memN s) := mCall.intro ok_X0_mixLinks pl_X0_mixLinks rfl (E_X0_mixLinks (d := d) h)
def B_X0_mixPairs_17 (x5 : Int32) (x3 : Int64) (x6 : Int32) (s : NetS) : Option ((Int64 × Int32) ⊕ (Int64)) := if (gN_tc s) ≤ x6 then (some (.inr (x3))) else (if x5 = x6 then (some (.inl (x3, (x6 + (nI 1))))) else ((F_X0_pairCell x5 x6).bind (fun v4 => gI v4 36 ((F_X0_pairCell x5 x6).bind (fun v7 => (F_X0_refusedAt v7 s).bind (fun v9 => some (.inl ((((lN 31) * (((lN 31) * x3) + (Int32.toInt64 ((gN_st s) (Int32.toNatClampNeg v4))))) + (Int32.toInt64 v9)), (x6 + (nI 1))))))))))
set_option maxRecDepth 100000 in
theorem H_X0_mixPairs_17 {d : Nat} {x5 : Int32} {x3 : Int64} {x6 : Int32} {s : NetS} {q : (Int64 × Int32) ⊕ (Int64)} {r0 : Option Value} {mu0 : MMe} (h : B_X0_mixPairs_17 x5 x3 x6 s = some q) (hk : Sum.elim (fun x : Int64 × Int32 => mEv (d + 1) m_X0_mixPairs none (17, [], [some (.ref 0), none, none, some (.long x.1), none, some (.int x5), some (.int x.2)], [], memN s) r0 mu0) (fun z : Int64 => mEv (d + 1) m_X0_mixPairs none (78, [], [some (.ref 0), none, none, some (.long z), none, some (.int x5), none], [], memN s) r0 mu0) q) : mEv (d + 1) m_X0_mixPairs none (17, [], [some (.ref 0), none, none, some (.long x3), none, some (.int x5), some (.int x6)], [], memN s) r0 mu0 := by
  unfold B_X0_mixPairs_17 at h
  refine mEv.br 5 (S1 := (78, [], [some (.ref 0), none, none, some (.long x3), none, some (.int x5), some (.int x6)], [], memN s)) (S2 := (26, _, [some (.ref 0), none, none, some (.long x3), none, some (.int x5), some (.int x6)], [], memN s)) rfl (fun c2 => ?_) (fun c2 => ?_)
  · have h := (if_pos c2).symm.trans h
    refine mEv.fg [6] (z' := [some (.ref 0), none, none, some (.long x3), none, some (.int x5), none]) rfl ?_
    obtain rfl := Option.some.inj h
    exact hk
  · have h := (if_neg c2).symm.trans h
    refine mEv.br 3 (S1 := (72, [], [some (.ref 0), none, none, some (.long x3), none, some (.int x5), some (.int x6)], [], memN s)) (S2 := (33, _, [some (.ref 0), none, none, some (.long x3), none, some (.int x5), some (.int x6)], [], memN s)) rfl (fun c3 => ?_) (fun c3 => ?_)
    · have h := (if_pos c3).symm.trans h
      refine mEv.stp 3 (S' := (17, [], [some (.ref 0), none, none, some (.long x3), none, some (.int x5), some (.int (x6 + (nI 1)))], [], memN s)) rfl ?_
      obtain rfl := Option.some.inj h
      exact hk
    · have h := (if_neg c3).symm.trans h
      refine mEv.stp 7 (S' := (46, _, [some (.ref 0), none, none, some (.long x3), none, some (.int x5), some (.int x6)], [.int x6, .int x5, .ref 4, .long ((lN 31) * x3)], memN s)) rfl ?_
      obtain ⟨v4, e5, h⟩ := bnd h
      refine mEv.callS (As := [.int x5, .int x6]) (st := [.ref 4, .long ((lN 31) * x3)]) (r := (some (.int v4))) (μ1 := memN s) lk_X0_60 rfl rfl rfl (A_X0_pairCell (d := d + 0) e5) ?_
      refine mEv.stp 0 (S' := (49, _, [some (.ref 0), none, none, some (.long x3), none, some (.int x5), some (.int x6)], [.int v4, .ref 4, .long ((lN 31) * x3)], memN s)) rfl ?_
      obtain ⟨g6, h⟩ := gI_some h
      refine mEv.gd 1 (S' := (50, _, [some (.ref 0), none, none, some (.long x3), none, some (.int x5), some (.int x6)], [.int ((gN_st s) (Int32.toNatClampNeg v4)), .long ((lN 31) * x3)], memN s)) rfl g6 ?_
      refine mEv.stp 9 (S' := (63, _, [some (.ref 0), none, none, some (.long (((lN 31) * x3) + (Int32.toInt64 ((gN_st s) (Int32.toNatClampNeg v4))))), none, some (.int x5), some (.int x6)], [.int x6, .int x5, .ref 0, .long ((lN 31) * (((lN 31) * x3) + (Int32.toInt64 ((gN_st s) (Int32.toNatClampNeg v4)))))], memN s)) rfl ?_
      obtain ⟨v7, e8, h⟩ := bnd h
      refine mEv.callS (As := [.int x5, .int x6]) (st := [.ref 0, .long ((lN 31) * (((lN 31) * x3) + (Int32.toInt64 ((gN_st s) (Int32.toNatClampNeg v4)))))]) (r := (some (.int v7))) (μ1 := memN s) lk_X0_60 rfl rfl rfl (A_X0_pairCell (d := d + 0) e8) ?_
      refine mEv.stp 0 (S' := (66, _, [some (.ref 0), none, none, some (.long (((lN 31) * x3) + (Int32.toInt64 ((gN_st s) (Int32.toNatClampNeg v4))))), none, some (.int x5), some (.int x6)], [.int v7, .ref 0, .long ((lN 31) * (((lN 31) * x3) + (Int32.toInt64 ((gN_st s) (Int32.toNatClampNeg v4)))))], memN s)) rfl ?_
      obtain ⟨v9, e10, h⟩ := bnd h
      refine mEv.callV (As := [.int v7]) (st := [.long ((lN 31) * (((lN 31) * x3) + (Int32.toInt64 ((gN_st s) (Int32.toNatClampNeg v4)))))]) (h := 0) (r := (some (.int v9))) (μ1 := memN s) lk_X0_141 rfl rfl rfl rfl rfl (A_X0_refusedAt (d := d + 0) e10) ?_
      refine mEv.stp 0 (S' := (69, _, [some (.ref 0), none, none, some (.long (((lN 31) * x3) + (Int32.toInt64 ((gN_st s) (Int32.toNatClampNeg v4))))), none, some (.int x5), some (.int x6)], [.int v9, .long ((lN 31) * (((lN 31) * x3) + (Int32.toInt64 ((gN_st s) (Int32.toNatClampNeg v4)))))], memN s)) rfl ?_
      refine mEv.stp 6 (S' := (17, [], [some (.ref 0), none, none, some (.long (((lN 31) * (((lN 31) * x3) + (Int32.toInt64 ((gN_st s) (Int32.toNatClampNeg v4))))) + (Int32.toInt64 v9))), none, some (.int x5), some (.int (x6 + (nI 1)))], [], memN s)) rfl ?_
      obtain rfl := Option.some.inj h
      exact hk
def B_X0_mixPairs_5 (x3 : Int64) (x5 : Int32) (s : NetS) : Option ((Int64 × Int32) ⊕ (Int64)) := if (gN_tc s) ≤ x5 then (some (.inr (x3))) else ((mWh (fun x => B_X0_mixPairs_17 x5 x.1 x.2 s) fuel0 (x3, (nI 0))).bind (fun z11 => some (.inl (z11, (x5 + (nI 1))))))
set_option maxRecDepth 100000 in
theorem H_X0_mixPairs_5 {d : Nat} {x3 : Int64} {x5 : Int32} {s : NetS} {q : (Int64 × Int32) ⊕ (Int64)} {r0 : Option Value} {mu0 : MMe} (h : B_X0_mixPairs_5 x3 x5 s = some q) (hk : Sum.elim (fun x : Int64 × Int32 => mEv (d + 1) m_X0_mixPairs none (5, [], [some (.ref 0), none, none, some (.long x.1), none, some (.int x.2), none], [], memN s) r0 mu0) (fun z : Int64 => mEv (d + 1) m_X0_mixPairs none (84, [], [none, none, none, some (.long z), none, none, none], [], memN s) r0 mu0) q) : mEv (d + 1) m_X0_mixPairs none (5, [], [some (.ref 0), none, none, some (.long x3), none, some (.int x5), none], [], memN s) r0 mu0 := by
  unfold B_X0_mixPairs_5 at h
  refine mEv.br 5 (S1 := (84, [], [some (.ref 0), none, none, some (.long x3), none, some (.int x5), none], [], memN s)) (S2 := (14, _, [some (.ref 0), none, none, some (.long x3), none, some (.int x5), none], [], memN s)) rfl (fun c1 => ?_) (fun c1 => ?_)
  · have h := (if_pos c1).symm.trans h
    refine mEv.fg [0, 5] (z' := [none, none, none, some (.long x3), none, none, none]) rfl ?_
    obtain rfl := Option.some.inj h
    exact hk
  · have h := (if_neg c1).symm.trans h
    refine mEv.stp 2 (S' := (17, [], [some (.ref 0), none, none, some (.long x3), none, some (.int x5), some (.int (nI 0))], [], memN s)) rfl ?_
    obtain ⟨z11, e12, h⟩ := bnd h
    refine mWh_ind (b := (fun x => B_X0_mixPairs_17 x5 x.1 x.2 s)) (P := fun x : Int64 × Int32 => mEv (d + 1) m_X0_mixPairs none (17, [], [some (.ref 0), none, none, some (.long x.1), none, some (.int x5), some (.int x.2)], [], memN s) r0 mu0) (K := fun z : Int64 => mEv (d + 1) m_X0_mixPairs none (78, [], [some (.ref 0), none, none, some (.long z), none, some (.int x5), none], [], memN s) r0 mu0) (fun x u hq hk => H_X0_mixPairs_17 (d := d) (x5 := x5) (x3 := x.1) (x6 := x.2) (s := s) (q := u) (r0 := r0) (mu0 := mu0) hq hk) fuel0 (x3, (nI 0)) z11 e12 ?_
    refine mEv.stp 0 (S' := (78, [], [some (.ref 0), none, none, some (.long z11), none, some (.int x5), none], [], memN s)) rfl ?_
    refine mEv.stp 3 (S' := (5, [], [some (.ref 0), none, none, some (.long z11), none, some (.int (x5 + (nI 1))), none], [], memN s)) rfl ?_
    obtain rfl := Option.some.inj h
    exact hk
def F_X0_mixPairs (p1 : Int64) (s : NetS) : Option (Int64) := (mWh (fun x => B_X0_mixPairs_5 x.1 x.2 s) fuel0 (p1, (nI 0))).bind (fun z13 => some (z13))
set_option maxRecDepth 100000 in
theorem E_X0_mixPairs {d : Nat} {p1 : Int64} {s : NetS} {q : Int64} (h : F_X0_mixPairs p1 s = some q) : mEv (d + 1) m_X0_mixPairs none (0, [], [some (.ref 0), some (.long p1), none, none, none, none, none], [], memN s) (some (.long q)) (memN s) := by
  unfold F_X0_mixPairs at h
  refine mEv.stp 5 (S' := (5, [], [some (.ref 0), some (.long p1), none, some (.long p1), none, some (.int (nI 0)), none], [], memN s)) rfl ?_
  refine mEv.fg [1] (z' := [some (.ref 0), none, none, some (.long p1), none, some (.int (nI 0)), none]) rfl ?_
  obtain ⟨z13, e14, h⟩ := bnd h
  refine mWh_ind (b := (fun x => B_X0_mixPairs_5 x.1 x.2 s)) (P := fun x : Int64 × Int32 => mEv (d + 1) m_X0_mixPairs none (5, [], [some (.ref 0), none, none, some (.long x.1), none, some (.int x.2), none], [], memN s) (some (.long q)) (memN s)) (K := fun z : Int64 => mEv (d + 1) m_X0_mixPairs none (84, [], [none, none, none, some (.long z), none, none, none], [], memN s) (some (.long q)) (memN s)) (fun x u hq hk => H_X0_mixPairs_5 (d := d) (x3 := x.1) (x5 := x.2) (s := s) (q := u) (r0 := (some (.long q))) (mu0 := (memN s)) hq hk) fuel0 (p1, (nI 0)) z13 e14 ?_
  refine mEv.stp 0 (S' := (84, [], [none, none, none, some (.long z13), none, none, none], [], memN s)) rfl ?_
  obtain rfl := Option.some.inj h
  exact mEv.stp 2 (S' := (85, _, [none, none, none, some (.long z13), none, none, none], [.long z13], memN s)) rfl (mEv.retl rfl)
theorem A_X0_mixPairs {d : Nat} {p1 : Int64} {s : NetS} {q : Int64} (h : F_X0_mixPairs p1 s = some q) : mCall (d + 1) m_X0_mixPairs [.ref 0, .long p1] (memN s) (some (.long q)) (memN s) := mCall.intro ok_X0_mixPairs pl_X0_mixPairs rfl (E_X0_mixPairs (d := d) h)
def B_X0_mixLoadsAndCalls_5 (x3 : Int64) (x5 : Int32) (s : NetS) : Option ((Int64 × Int32) ⊕ (Int64)) := if (nI 24) ≤ x5 then (some (.inr (x3))) else (gI x5 24 (some (.inl ((((lN 31) * x3) + (Int32.toInt64 ((gN_ld s) (Int32.toNatClampNeg x5)))), (x5 + (nI 1))))))
set_option maxRecDepth 100000 in
theorem H_X0_mixLoadsAndCalls_5 {d : Nat} {x3 : Int64} {x5 : Int32} {s : NetS} {q : (Int64 × Int32) ⊕ (Int64)} {r0 : Option Value} {mu0 : MMe} (h : B_X0_mixLoadsAndCalls_5 x3 x5 s = some q) (hk : Sum.elim (fun x : Int64 × Int32 => mEv d m_X0_mixLoadsAndCalls none (5, [], [some (.ref 0), none, none, some (.long x.1), none, some (.int x.2)], [], memN s) r0 mu0) (fun z : Int64 => mEv d m_X0_mixLoadsAndCalls none (33, [], [some (.ref 0), none, none, some (.long z), none, none], [], memN s) r0 mu0) q) : mEv d m_X0_mixLoadsAndCalls none (5, [], [some (.ref 0), none, none, some (.long x3), none, some (.int x5)], [], memN s) r0 mu0 := by
  unfold B_X0_mixLoadsAndCalls_5 at h
  refine mEv.br 4 (S1 := (33, [], [some (.ref 0), none, none, some (.long x3), none, some (.int x5)], [], memN s)) (S2 := (12, _, [some (.ref 0), none, none, some (.long x3), none, some (.int x5)], [], memN s)) rfl (fun c1 => ?_) (fun c1 => ?_)
  · have h := (if_pos c1).symm.trans h
    refine mEv.fg [5] (z' := [some (.ref 0), none, none, some (.long x3), none, none]) rfl ?_
    obtain rfl := Option.some.inj h
    exact hk
  · have h := (if_neg c1).symm.trans h
    obtain ⟨g2, h⟩ := gI_some h
    refine mEv.gd 7 (S' := (24, _, [some (.ref 0), none, none, some (.long x3), none, some (.int x5)], [.int ((gN_ld s) (Int32.toNatClampNeg x5)), .long ((lN 31) * x3)], memN s)) rfl g2 ?_
    refine mEv.stp 5 (S' := (5, [], [some (.ref 0), none, none, some (.long (((lN 31) * x3) + (Int32.toInt64 ((gN_ld s) (Int32.toNatClampNeg x5))))), none, some (.int (x5 + (nI 1)))], [], memN s)) rfl ?_
    obtain rfl := Option.some.inj h
    exact hk
def B_X0_mixLoadsAndCalls_36 (x3 : Int64) (x5 : Int32) (s : NetS) : Option ((Int64 × Int32) ⊕ (Int64)) := if ((gN_cc s) * (nI 4)) ≤ x5 then (some (.inr (x3))) else (gI x5 320 (some (.inl ((((lN 31) * x3) + (Int32.toInt64 ((gN_ca s) (Int32.toNatClampNeg x5)))), (x5 + (nI 1))))))
set_option maxRecDepth 100000 in
theorem H_X0_mixLoadsAndCalls_36 {d : Nat} {x3 : Int64} {x5 : Int32} {s : NetS} {q : (Int64 × Int32) ⊕ (Int64)} {r0 : Option Value} {mu0 : MMe} (h : B_X0_mixLoadsAndCalls_36 x3 x5 s = some q) (hk : Sum.elim (fun x : Int64 × Int32 => mEv d m_X0_mixLoadsAndCalls none (36, [], [some (.ref 0), none, none, some (.long x.1), none, some (.int x.2)], [], memN s) r0 mu0) (fun z : Int64 => mEv d m_X0_mixLoadsAndCalls none (68, [], [none, none, none, some (.long z), none, none], [], memN s) r0 mu0) q) : mEv d m_X0_mixLoadsAndCalls none (36, [], [some (.ref 0), none, none, some (.long x3), none, some (.int x5)], [], memN s) r0 mu0 := by
  unfold B_X0_mixLoadsAndCalls_36 at h
  refine mEv.br 7 (S1 := (68, [], [some (.ref 0), none, none, some (.long x3), none, some (.int x5)], [], memN s)) (S2 := (47, _, [some (.ref 0), none, none, some (.long x3), none, some (.int x5)], [], memN s)) rfl (fun c5 => ?_) (fun c5 => ?_)
  · have h := (if_pos c5).symm.trans h
    refine mEv.fg [0, 5] (z' := [none, none, none, some (.long x3), none, none]) rfl ?_
    obtain rfl := Option.some.inj h
    exact hk
  · have h := (if_neg c5).symm.trans h
    obtain ⟨g6, h⟩ := gI_some h
    refine mEv.gd 7 (S' := (59, _, [some (.ref 0), none, none, some (.long x3), none, some (.int x5)], [.int ((gN_ca s) (Int32.toNatClampNeg x5)), .long ((lN 31) * x3)], memN s)) rfl g6 ?_
    refine mEv.stp 5 (S' := (36, [], [some (.ref 0), none, none, some (.long (((lN 31) * x3) + (Int32.toInt64 ((gN_ca s) (Int32.toNatClampNeg x5))))), none, some (.int (x5 + (nI 1)))], [], memN s)) rfl ?_
    obtain rfl := Option.some.inj h
    exact hk
def F_X0_mixLoadsAndCalls (p1 : Int64) (s : NetS) : Option (Int64) := (mWh (fun x => B_X0_mixLoadsAndCalls_5 x.1 x.2 s) fuel0 (p1, (nI 0))).bind (fun z3 => (mWh (fun x => B_X0_mixLoadsAndCalls_36 x.1 x.2 s) fuel0 (z3, (nI 0))).bind (fun z7 => some (z7)))
set_option maxRecDepth 100000 in
theorem E_X0_mixLoadsAndCalls {d : Nat} {p1 : Int64} {s : NetS} {q : Int64} (h : F_X0_mixLoadsAndCalls p1 s = some q) : mEv d m_X0_mixLoadsAndCalls none (0, [], [some (.ref 0), some (.long p1), none, none, none, none], [], memN s) (some (.long q)) (memN s) := by
  unfold F_X0_mixLoadsAndCalls at h
  refine mEv.stp 5 (S' := (5, [], [some (.ref 0), some (.long p1), none, some (.long p1), none, some (.int (nI 0))], [], memN s)) rfl ?_
  refine mEv.fg [1] (z' := [some (.ref 0), none, none, some (.long p1), none, some (.int (nI 0))]) rfl ?_
  obtain ⟨z3, e4, h⟩ := bnd h
  refine mWh_ind (b := (fun x => B_X0_mixLoadsAndCalls_5 x.1 x.2 s)) (P := fun x : Int64 × Int32 => mEv d m_X0_mixLoadsAndCalls none (5, [], [some (.ref 0), none, none, some (.long x.1), none, some (.int x.2)], [], memN s) (some (.long q)) (memN s)) (K := fun z : Int64 => mEv d m_X0_mixLoadsAndCalls none (33, [], [some (.ref 0), none, none, some (.long z), none, none], [], memN s) (some (.long q)) (memN s)) (fun x u hq hk => H_X0_mixLoadsAndCalls_5 (d := d) (x3 := x.1) (x5 := x.2) (s := s) (q := u) (r0 := (some (.long q))) (mu0 := (memN s)) hq hk) fuel0 (p1, (nI 0)) z3 e4 ?_
  refine mEv.stp 0 (S' := (33, [], [some (.ref 0), none, none, some (.long z3), none, none], [], memN s)) rfl ?_
  refine mEv.stp 3 (S' := (36, [], [some (.ref 0), none, none, some (.long z3), none, some (.int (nI 0))], [], memN s)) rfl ?_
  obtain ⟨z7, e8, h⟩ := bnd h
  refine mWh_ind (b := (fun x => B_X0_mixLoadsAndCalls_36 x.1 x.2 s)) (P := fun x : Int64 × Int32 => mEv d m_X0_mixLoadsAndCalls none (36, [], [some (.ref 0), none, none, some (.long x.1), none, some (.int x.2)], [], memN s) (some (.long q)) (memN s)) (K := fun z : Int64 => mEv d m_X0_mixLoadsAndCalls none (68, [], [none, none, none, some (.long z), none, none], [], memN s) (some (.long q)) (memN s)) (fun x u hq hk => H_X0_mixLoadsAndCalls_36 (d := d) (x3 := x.1) (x5 := x.2) (s := s) (q := u) (r0 := (some (.long q))) (mu0 := (memN s)) hq hk) fuel0 (z3, (nI 0)) z7 e8 ?_
  refine mEv.stp 0 (S' := (68, [], [none, none, none, some (.long z7), none, none], [], memN s)) rfl ?_
  obtain rfl := Option.some.inj h
  exact mEv.stp 2 (S' := (69, _, [none, none, none, some (.long z7), none, none], [.long z7], memN s)) rfl (mEv.retl rfl)
theorem A_X0_mixLoadsAndCalls {d : Nat} {p1 : Int64} {s : NetS} {q : Int64} (h : F_X0_mixLoadsAndCalls p1 s = some q) : mCall d m_X0_mixLoadsAndCalls [.ref 0, .long p1] (memN s) (some (.long q)) (memN s) := mCall.intro ok_X0_mixLoadsAndCalls pl_X0_mixLoadsAndCalls rfl (E_X0_mixLoadsAndCalls (d := d) h)
end
section
def F_X1_append (p1 : Int32) (s : TextS) : Option (Int32 × TextS) := if (gT_ln s) < (nI 120) then (gI (gT_ln s) 120 (some (((nI 1), (mkT ((gT_ln s) + (nI 1)) (gT_oc s) (gT_tn s) (gT_pl s) (gT_ft s) (upd (gT_by s) (Int32.toNatClampNeg (gT_ln s)) p1) (gT_od s)))))) else (some (((nI 0), s)))
set_option maxRecDepth 100000 in
theorem E_X1_append {d : Nat} {p1 : Int32} {s : TextS} {q : Int32 × TextS} (h : F_X1_append p1 s = some q) : mEv d m_X1_append none (0, [], [some (.ref 0), some (.int p1)], [], memT s) (some (.int q.1)) (memT q.2) := by
  unfold F_X1_append at h
  refine mEv.br 5 (S1 := (11, [], [some (.ref 0), some (.int p1)], [], memT s)) (S2 := (9, _, [some (.ref 0), some (.int p1)], [], memT s)) rfl (fun c1 => ?_) (fun c1 => ?_)
  · have h := (if_pos c1).symm.trans h
    obtain ⟨g2, h⟩ := gI_some h
    refine mEv.gd 7 (S' := (21, _, [some (.ref 0), some (.int p1)], [], memTx (gT_ln s) (gT_oc s) (gT_tn s) (gT_pl s) (gT_ft s) (upd (gT_by s) (Int32.toNatClampNeg (gT_ln s)) p1) (gT_od s))) rfl g2 ?_
    obtain rfl := Option.some.inj h
    exact mEv.tgt memT_mk (mEv.stp 7 (S' := (32, _, [some (.ref 0), some (.int p1)], [.int (nI 1)], memTx ((gT_ln s) + (nI 1)) (gT_oc s) (gT_tn s) (gT_pl s) (gT_ft s) (upd (gT_by s) (Int32.toNatClampNeg (gT_ln s)) p1) (gT_od s))) rfl (mEv.reti ⟨_, rfl, rfl⟩))
  · have h := (if_neg c1).symm.trans h
    obtain rfl := Option.some.inj h
    exact mEv.stp 1 (S' := (10, _, [some (.ref 0), some (.int p1)], [.int (nI 0)], memT s)) rfl (mEv.reti ⟨_, rfl, rfl⟩)
theorem A_X1_append {d : Nat} {p1 : Int32} {s : TextS} {q : Int32 × TextS} (h : F_X1_append p1 s = some q) : mCall d m_X1_append [.ref 0, .int p1] (memT s) (some (.int q.1)) (memT q.2) := mCall.intro ok_X1_append pl_X1_append rfl (E_X1_append (d := d) h)
def B_X1_skipBlanks_0  (s : TextS) : Option ((TextS) ⊕ (TextS)) := if (gT_ln s) ≤ (gT_pl s) then (some (.inr (s))) else (gI (gT_pl s) 120 (if ¬ ((gT_by s) (Int32.toNatClampNeg (gT_pl s))) = (nI 32) then (some (.inr (s))) else (some (.inl ((mkT (gT_ln s) (gT_oc s) (gT_tn s) ((gT_pl s) + (nI 1)) (gT_ft s) (gT_by s) (gT_od s)))))))
set_option maxRecDepth 100000 in
theorem H_X1_skipBlanks_0 {d : Nat}  {s : TextS} {q : (TextS) ⊕ (TextS)} {r0 : Option Value} {mu0 : MMe} (h : B_X1_skipBlanks_0 s = some q) (hk : Sum.elim (fun x : TextS => mEv d m_X1_skipBlanks none (0, [], [some (.ref 0)], [], memT x) r0 mu0) (fun z : TextS => mEv d m_X1_skipBlanks none (38, [], [none], [], memT z) r0 mu0) q) : mEv d m_X1_skipBlanks none (0, [], [some (.ref 0)], [], memT s) r0 mu0 := by
  unfold B_X1_skipBlanks_0 at h
  refine mEv.br 6 (S1 := (38, [], [some (.ref 0)], [], memT s)) (S2 := (11, _, [some (.ref 0)], [], memT s)) rfl (fun c1 => ?_) (fun c1 => ?_)
  · have h := (if_pos c1).symm.trans h
    refine mEv.fg [0] (z' := [none]) rfl ?_
    obtain rfl := Option.some.inj h
    exact hk
  · have h := (if_neg c1).symm.trans h
    obtain ⟨g2, h⟩ := gI_some h
    refine mEv.gd 5 (S' := (20, _, [some (.ref 0)], [.int ((gT_by s) (Int32.toNatClampNeg (gT_pl s)))], memT s)) rfl g2 ?_
    refine mEv.br 2 (S1 := (38, [], [some (.ref 0)], [], memT s)) (S2 := (25, _, [some (.ref 0)], [], memT s)) rfl (fun c3 => ?_) (fun c3 => ?_)
    · have h := (if_pos c3).symm.trans h
      refine mEv.fg [0] (z' := [none]) rfl ?_
      obtain rfl := Option.some.inj h
      exact hk
    · have h := (if_neg c3).symm.trans h
      refine mEv.stp 7 (S' := (0, [], [some (.ref 0)], [], memTx (gT_ln s) (gT_oc s) (gT_tn s) ((gT_pl s) + (nI 1)) (gT_ft s) (gT_by s) (gT_od s))) rfl ?_
      refine mEv.mem memT_mk ?_
      obtain rfl := Option.some.inj h
      exact hk
def F_X1_skipBlanks  (s : TextS) : Option (TextS) := (mWh (fun x => B_X1_skipBlanks_0 x) fuel0 (s)).bind (fun z4 => some (z4))
set_option maxRecDepth 100000 in
theorem E_X1_skipBlanks {d : Nat}  {s : TextS} {q : TextS} (h : F_X1_skipBlanks s = some q) : mEv d m_X1_skipBlanks none (0, [], [some (.ref 0)], [], memT s) none (memT q) := by
  unfold F_X1_skipBlanks at h
  obtain ⟨z4, e5, h⟩ := bnd h
  refine mWh_ind (b := (fun x => B_X1_skipBlanks_0 x)) (P := fun x : TextS => mEv d m_X1_skipBlanks none (0, [], [some (.ref 0)], [], memT x) none (memT q)) (K := fun z : TextS => mEv d m_X1_skipBlanks none (38, [], [none], [], memT z) none (memT q)) (fun x u hq hk => H_X1_skipBlanks_0 (d := d) (s := x) (q := u) (r0 := none) (mu0 := (memT q)) hq hk) fuel0 (s) z4 e5 ?_
  refine mEv.stp 0 (S' := (38, [], [none], [], memT z4)) rfl ?_
  obtain rfl := Option.some.inj h
  exact mEv.stp 1 (S' := (38, _, [none], [], memT z4)) rfl (mEv.retv rfl)
theorem A_X1_skipBlanks {d : Nat}  {s : TextS} {q : TextS} (h : F_X1_skipBlanks s = some q) : mCall d m_X1_skipBlanks [.ref 0] (memT s) none (memT q) := mCall.intro ok_X1_skipBlanks pl_X1_skipBlanks rfl (E_X1_skipBlanks (d := d) h)
def F_X1_isFigure (p0 : Int32)  : Option (Int32) := if p0 < (nI 48) then (some ((nI 0))) else (if (nI 57) < p0 then (some ((nI 0))) else (some ((nI 1))))
set_option maxRecDepth 100000 in
theorem E_X1_isFigure {d : Nat} {p0 : Int32} {μ : MMe} {q : Int32} (h : F_X1_isFigure p0 = some q) : mEv d m_X1_isFigure none (0, [], [some (.int p0)], [], μ) (some (.int q)) (μ) := by
  unfold F_X1_isFigure at h
  refine mEv.br 4 (S1 := (16, [], [some (.int p0)], [], μ)) (S2 := (6, _, [some (.int p0)], [], μ)) rfl (fun c1 => ?_) (fun c1 => ?_)
  · have h := (if_pos c1).symm.trans h
    obtain rfl := Option.some.inj h
    exact mEv.stp 3 (S' := (17, _, [some (.int p0)], [.int (nI 0)], μ)) rfl (mEv.reti ⟨_, rfl, rfl⟩)
  · have h := (if_neg c1).symm.trans h
    refine mEv.br 3 (S1 := (16, [], [some (.int p0)], [], μ)) (S2 := (12, _, [some (.int p0)], [], μ)) rfl (fun c2 => ?_) (fun c2 => ?_)
    · have h := (if_pos c2).symm.trans h
      obtain rfl := Option.some.inj h
      exact mEv.stp 3 (S' := (17, _, [some (.int p0)], [.int (nI 0)], μ)) rfl (mEv.reti ⟨_, rfl, rfl⟩)
    · have h := (if_neg c2).symm.trans h
      obtain rfl := Option.some.inj h
      exact mEv.stp 3 (S' := (17, _, [some (.int p0)], [.int (nI 1)], μ)) rfl (mEv.reti ⟨_, rfl, rfl⟩)
theorem A_X1_isFigure {d : Nat} {p0 : Int32} {μ : MMe} {q : Int32} (h : F_X1_isFigure p0 = some q) : mCall d m_X1_isFigure [.int p0] (μ) (some (.int q)) (μ) := mCall.intro ok_X1_isFigure pl_X1_isFigure rfl (E_X1_isFigure (d := d) h)
def F_X1_readKind  (s : TextS) : Option (Int32 × TextS) := gI (gT_pl s) 120 ((F_X1_isFigure ((gT_by s) (Int32.toNatClampNeg (gT_pl s)))).bind (fun v2 => if v2 = (nI 0) then (some ((((gT_by s) (Int32.toNatClampNeg (gT_pl s))), (mkT (gT_ln s) (gT_oc s) (gT_tn s) ((gT_pl s) + (nI 1)) (gT_ft s) (gT_by s) (gT_od s))))) else (some (((nI 48), s)))))
set_option maxRecDepth 100000 in
theorem E_X1_readKind {d : Nat}  {s : TextS} {q : Int32 × TextS} (h : F_X1_readKind s = some q) : mEv (d + 1) m_X1_readKind none (0, [], [some (.ref 0), none], [], memT s) (some (.int q.1)) (memT q.2) := by
  unfold F_X1_readKind at h
  obtain ⟨g1, h⟩ := gI_some h
  refine mEv.gd 6 (S' := (9, _, [some (.ref 0), none], [.int ((gT_by s) (Int32.toNatClampNeg (gT_pl s)))], memT s)) rfl g1 ?_
  refine mEv.stp 2 (S' := (11, _, [some (.ref 0), some (.int ((gT_by s) (Int32.toNatClampNeg (gT_pl s))))], [.int ((gT_by s) (Int32.toNatClampNeg (gT_pl s)))], memT s)) rfl ?_
  obtain ⟨v2, e3, h⟩ := bnd h
  refine mEv.callS (As := [.int ((gT_by s) (Int32.toNatClampNeg (gT_pl s)))]) (st := []) (r := (some (.int v2))) (μ1 := memT s) lk_X1_61 rfl rfl rfl (A_X1_isFigure (d := d + 0) e3) ?_
  refine mEv.stp 0 (S' := (14, _, [some (.ref 0), some (.int ((gT_by s) (Int32.toNatClampNeg (gT_pl s))))], [.int v2], memT s)) rfl ?_
  refine mEv.br 1 (S1 := (20, [], [some (.ref 0), some (.int ((gT_by s) (Int32.toNatClampNeg (gT_pl s))))], [], memT s)) (S2 := (17, _, [some (.ref 0), some (.int ((gT_by s) (Int32.toNatClampNeg (gT_pl s))))], [], memT s)) rfl (fun c4 => ?_) (fun c4 => ?_)
  · have h := (if_pos c4).symm.trans h
    obtain rfl := Option.some.inj h
    exact mEv.tgt memT_mk (mEv.stp 8 (S' := (31, _, [some (.ref 0), some (.int ((gT_by s) (Int32.toNatClampNeg (gT_pl s))))], [.int ((gT_by s) (Int32.toNatClampNeg (gT_pl s)))], memTx (gT_ln s) (gT_oc s) (gT_tn s) ((gT_pl s) + (nI 1)) (gT_ft s) (gT_by s) (gT_od s))) rfl (mEv.reti ⟨_, rfl, rfl⟩))
  · have h := (if_neg c4).symm.trans h
    obtain rfl := Option.some.inj h
    exact mEv.stp 1 (S' := (19, _, [some (.ref 0), some (.int ((gT_by s) (Int32.toNatClampNeg (gT_pl s))))], [.int (nI 48)], memT s)) rfl (mEv.reti ⟨_, rfl, rfl⟩)
theorem A_X1_readKind {d : Nat}  {s : TextS} {q : Int32 × TextS} (h : F_X1_readKind s = some q) : mCall (d + 1) m_X1_readKind [.ref 0] (memT s) (some (.int q.1)) (memT q.2) := mCall.intro ok_X1_readKind pl_X1_readKind rfl (E_X1_readKind (d := d) h)
def J_X1_readFigure_41 (x1 : Int32) (y0 : Int32) (s : TextS) : Option (Int32 × TextS) := if y0 < (nI 0) then (some (((nI 0), (mkT (gT_ln s) (gT_oc s) (gT_tn s) (gT_pl s) (gT_pl s) (gT_by s) (gT_od s))))) else (if y0 ≤ x1 then (some ((y0, (mkT (gT_ln s) (gT_oc s) (gT_tn s) ((gT_pl s) + (nI 1)) (gT_ft s) (gT_by s) (gT_od s))))) else (some (((nI 0), (mkT (gT_ln s) (gT_oc s) (gT_tn s) (gT_pl s) (gT_pl s) (gT_by s) (gT_od s))))))
set_option maxRecDepth 100000 in
theorem K_X1_readFigure_41 {d : Nat} {x1 : Int32} {y0 : Int32} {s : TextS} {q : Int32 × TextS} (h : J_X1_readFigure_41 x1 y0 s = some q) : mEv (d + 1) m_X1_readFigure none (41, [], [some (.ref 0), some (.int x1), none], [.int y0], memT s) (some (.int q.1)) (memT q.2) := by
  unfold J_X1_readFigure_41 at h
  refine mEv.br 4 (S1 := (51, [], [some (.ref 0), some (.int x1), some (.int y0)], [], memT s)) (S2 := (46, _, [some (.ref 0), some (.int x1), some (.int y0)], [], memT s)) rfl (fun c5 => ?_) (fun c5 => ?_)
  · have h := (if_pos c5).symm.trans h
    obtain rfl := Option.some.inj h
    exact mEv.tgt memT_mk (mEv.stp 6 (S' := (60, _, [some (.ref 0), some (.int x1), some (.int y0)], [.int (nI 0)], memTx (gT_ln s) (gT_oc s) (gT_tn s) (gT_pl s) (gT_pl s) (gT_by s) (gT_od s))) rfl (mEv.reti ⟨_, rfl, rfl⟩))
  · have h := (if_neg c5).symm.trans h
    refine mEv.br 3 (S1 := (61, [], [some (.ref 0), some (.int x1), some (.int y0)], [], memT s)) (S2 := (51, [], [some (.ref 0), some (.int x1), some (.int y0)], [], memT s)) rfl (fun c6 => ?_) (fun c6 => ?_)
    · have h := (if_pos c6).symm.trans h
      obtain rfl := Option.some.inj h
      exact mEv.tgt memT_mk (mEv.stp 8 (S' := (72, _, [some (.ref 0), some (.int x1), some (.int y0)], [.int y0], memTx (gT_ln s) (gT_oc s) (gT_tn s) ((gT_pl s) + (nI 1)) (gT_ft s) (gT_by s) (gT_od s))) rfl (mEv.reti ⟨_, rfl, rfl⟩))
    · have h := (if_neg c6).symm.trans h
      obtain rfl := Option.some.inj h
      exact mEv.tgt memT_mk (mEv.stp 6 (S' := (60, _, [some (.ref 0), some (.int x1), some (.int y0)], [.int (nI 0)], memTx (gT_ln s) (gT_oc s) (gT_tn s) (gT_pl s) (gT_pl s) (gT_by s) (gT_od s))) rfl (mEv.reti ⟨_, rfl, rfl⟩))
def F_X1_readFigure (p1 : Int32) (s : TextS) : Option (Int32 × TextS) := if (gT_ft s) = (-nI 1) then ((F_X1_skipBlanks s).bind (fun v2 => if (gT_ln v2) ≤ (gT_pl v2) then (J_X1_readFigure_41 p1 (-nI 1) v2) else (gI (gT_pl v2) 120 (J_X1_readFigure_41 p1 (((gT_by v2) (Int32.toNatClampNeg (gT_pl v2))) - (nI 48)) v2)))) else (some (((nI 0), s)))
set_option maxRecDepth 100000 in
theorem E_X1_readFigure {d : Nat} {p1 : Int32} {s : TextS} {q : Int32 × TextS} (h : F_X1_readFigure p1 s = some q) : mEv (d + 1) m_X1_readFigure none (0, [], [some (.ref 0), some (.int p1), none], [], memT s) (some (.int q.1)) (memT q.2) := by
  unfold F_X1_readFigure at h
  refine mEv.br 5 (S1 := (10, [], [some (.ref 0), some (.int p1), none], [], memT s)) (S2 := (8, _, [some (.ref 0), some (.int p1), none], [], memT s)) rfl (fun c1 => ?_) (fun c1 => ?_)
  · have h := (if_pos c1).symm.trans h
    refine mEv.stp 2 (S' := (11, _, [some (.ref 0), some (.int p1), none], [.ref 0], memT s)) rfl ?_
    obtain ⟨v2, e3, h⟩ := bnd h
    refine mEv.callV (As := []) (st := []) (h := 0) (r := none) (μ1 := memT v2) lk_X1_34 rfl rfl rfl rfl rfl (A_X1_skipBlanks (d := d + 0) e3) ?_
    refine mEv.stp 0 (S' := (14, _, [some (.ref 0), some (.int p1), none], [], memT v2)) rfl ?_
    refine mEv.br 5 (S1 := (40, [], [some (.ref 0), some (.int p1), none], [], memT v2)) (S2 := (25, _, [some (.ref 0), some (.int p1), none], [], memT v2)) rfl (fun c4 => ?_) (fun c4 => ?_)
    · have h := (if_pos c4).symm.trans h
      refine mEv.stp 2 (S' := (41, [], [some (.ref 0), some (.int p1), none], [.int (-nI 1)], memT v2)) rfl ?_
      exact K_X1_readFigure_41 (d := d) h
    · have h := (if_neg c4).symm.trans h
      obtain ⟨g7, h⟩ := gI_some h
      refine mEv.gd 5 (S' := (34, _, [some (.ref 0), some (.int p1), none], [.int ((gT_by v2) (Int32.toNatClampNeg (gT_pl v2)))], memT v2)) rfl g7 ?_
      refine mEv.stp 3 (S' := (41, [], [some (.ref 0), some (.int p1), none], [.int (((gT_by v2) (Int32.toNatClampNeg (gT_pl v2))) - (nI 48))], memT v2)) rfl ?_
      exact K_X1_readFigure_41 (d := d) h
  · have h := (if_neg c1).symm.trans h
    obtain rfl := Option.some.inj h
    exact mEv.stp 1 (S' := (9, _, [some (.ref 0), some (.int p1), none], [.int (nI 0)], memT s)) rfl (mEv.reti ⟨_, rfl, rfl⟩)
theorem A_X1_readFigure {d : Nat} {p1 : Int32} {s : TextS} {q : Int32 × TextS} (h : F_X1_readFigure p1 s = some q) : mCall (d + 1) m_X1_readFigure [.ref 0, .int p1] (memT s) (some (.int q.1)) (memT q.2) := mCall.intro ok_X1_readFigure pl_X1_readFigure rfl (E_X1_readFigure (d := d) h)
def F_X1_readTown (p1 : Int32) (s : TextS) : Option (Int32 × TextS) := (F_X1_readFigure ((gT_tn s) - (nI 1)) s).bind (fun v1 => if ¬ (gT_ft v1.2) = (-nI 1) then (some ((v1.1, v1.2))) else (if ¬ v1.1 = p1 then (some ((v1.1, v1.2))) else (some ((v1.1, (mkT (gT_ln v1.2) (gT_oc v1.2) (gT_tn v1.2) (gT_pl v1.2) ((gT_pl v1.2) - (nI 1)) (gT_by v1.2) (gT_od v1.2)))))))
set_option maxRecDepth 100000 in
theorem E_X1_readTown {d : Nat} {p1 : Int32} {s : TextS} {q : Int32 × TextS} (h : F_X1_readTown p1 s = some q) : mEv (d + 2) m_X1_readTown none (0, [], [some (.ref 0), some (.int p1), none], [], memT s) (some (.int q.1)) (memT q.2) := by
  unfold F_X1_readTown at h
  refine mEv.stp 6 (S' := (7, _, [some (.ref 0), some (.int p1), none], [.int ((gT_tn s) - (nI 1)), .ref 0], memT s)) rfl ?_
  obtain ⟨v1, e2, h⟩ := bnd h
  refine mEv.callV (As := [.int ((gT_tn s) - (nI 1))]) (st := []) (h := 0) (r := (some (.int v1.1))) (μ1 := memT v1.2) lk_X1_55 rfl rfl rfl rfl rfl (A_X1_readFigure (d := d + 0) e2) ?_
  refine mEv.stp 0 (S' := (10, _, [some (.ref 0), some (.int p1), none], [.int v1.1], memT v1.2)) rfl ?_
  refine mEv.br 5 (S1 := (34, [], [some (.ref 0), some (.int p1), some (.int v1.1)], [], memT v1.2)) (S2 := (19, _, [some (.ref 0), some (.int p1), some (.int v1.1)], [], memT v1.2)) rfl (fun c3 => ?_) (fun c3 => ?_)
  · have h := (if_pos c3).symm.trans h
    obtain rfl := Option.some.inj h
    exact mEv.stp 2 (S' := (35, _, [some (.ref 0), some (.int p1), some (.int v1.1)], [.int v1.1], memT v1.2)) rfl (mEv.reti ⟨_, rfl, rfl⟩)
  · have h := (if_neg c3).symm.trans h
    refine mEv.br 3 (S1 := (34, [], [some (.ref 0), some (.int p1), some (.int v1.1)], [], memT v1.2)) (S2 := (24, _, [some (.ref 0), some (.int p1), some (.int v1.1)], [], memT v1.2)) rfl (fun c4 => ?_) (fun c4 => ?_)
    · have h := (if_pos c4).symm.trans h
      obtain rfl := Option.some.inj h
      exact mEv.stp 2 (S' := (35, _, [some (.ref 0), some (.int p1), some (.int v1.1)], [.int v1.1], memT v1.2)) rfl (mEv.reti ⟨_, rfl, rfl⟩)
    · have h := (if_neg c4).symm.trans h
      obtain rfl := Option.some.inj h
      exact mEv.tgt memT_mk (mEv.stp 8 (S' := (35, _, [some (.ref 0), some (.int p1), some (.int v1.1)], [.int v1.1], memTx (gT_ln v1.2) (gT_oc v1.2) (gT_tn v1.2) (gT_pl v1.2) ((gT_pl v1.2) - (nI 1)) (gT_by v1.2) (gT_od v1.2))) rfl (mEv.reti ⟨_, rfl, rfl⟩))
theorem A_X1_readTown {d : Nat} {p1 : Int32} {s : TextS} {q : Int32 × TextS} (h : F_X1_readTown p1 s = some q) : mCall (d + 2) m_X1_readTown [.ref 0, .int p1] (memT s) (some (.int q.1)) (memT q.2) := mCall.intro ok_X1_readTown pl_X1_readTown rfl (E_X1_readTown (d := d) h)
def B_X1_readNumber_22 (x1 : Int32) (x2 : Int32) (x3 : Int32) (x4 : Int32) (s : TextS) : Option ((Int32 × TextS) ⊕ (Int32 × TextS)) := if (gT_ln s) ≤ (gT_pl s) then (some (.inr (x4, s))) else (gI (gT_pl s) 120 ((F_X1_isFigure ((gT_by s) (Int32.toNatClampNeg (gT_pl s)))).bind (fun v6 => if v6 = (nI 0) then (some (.inr (x4, s))) else (gI (gT_pl s) 120 (some (.inl ((((x4 * (nI 10)) + ((gT_by s) (Int32.toNatClampNeg (gT_pl s)))) - (nI 48)), (mkT (gT_ln s) (gT_oc s) (gT_tn s) ((gT_pl s) + (nI 1)) (gT_ft s) (gT_by s) (gT_od s)))))))))
set_option maxRecDepth 100000 in
theorem H_X1_readNumber_22 {d : Nat} {x1 : Int32} {x2 : Int32} {x3 : Int32} {x4 : Int32} {s : TextS} {q : (Int32 × TextS) ⊕ (Int32 × TextS)} {r0 : Option Value} {mu0 : MMe} (h : B_X1_readNumber_22 x1 x2 x3 x4 s = some q) (hk : Sum.elim (fun x : Int32 × TextS => mEv (d + 1) m_X1_readNumber none (22, [], [some (.ref 0), some (.int x1), some (.int x2), some (.int x3), some (.int x.1), none], [], memT x.2) r0 mu0) (fun z : Int32 × TextS => mEv (d + 1) m_X1_readNumber none (81, [], [some (.ref 0), some (.int x1), some (.int x2), some (.int x3), some (.int z.1), none], [], memT z.2) r0 mu0) q) : mEv (d + 1) m_X1_readNumber none (22, [], [some (.ref 0), some (.int x1), some (.int x2), some (.int x3), some (.int x4), none], [], memT s) r0 mu0 := by
  unfold B_X1_readNumber_22 at h
  refine mEv.br 6 (S1 := (81, [], [some (.ref 0), some (.int x1), some (.int x2), some (.int x3), some (.int x4), none], [], memT s)) (S2 := (33, _, [some (.ref 0), some (.int x1), some (.int x2), some (.int x3), some (.int x4), none], [], memT s)) rfl (fun c4 => ?_) (fun c4 => ?_)
  · have h := (if_pos c4).symm.trans h
    obtain rfl := Option.some.inj h
    exact hk
  · have h := (if_neg c4).symm.trans h
    obtain ⟨g5, h⟩ := gI_some h
    refine mEv.gd 5 (S' := (42, _, [some (.ref 0), some (.int x1), some (.int x2), some (.int x3), some (.int x4), none], [.int ((gT_by s) (Int32.toNatClampNeg (gT_pl s)))], memT s)) rfl g5 ?_
    obtain ⟨v6, e7, h⟩ := bnd h
    refine mEv.callS (As := [.int ((gT_by s) (Int32.toNatClampNeg (gT_pl s)))]) (st := []) (r := (some (.int v6))) (μ1 := memT s) lk_X1_61 rfl rfl rfl (A_X1_isFigure (d := d + 0) e7) ?_
    refine mEv.stp 0 (S' := (45, _, [some (.ref 0), some (.int x1), some (.int x2), some (.int x3), some (.int x4), none], [.int v6], memT s)) rfl ?_
    refine mEv.br 1 (S1 := (81, [], [some (.ref 0), some (.int x1), some (.int x2), some (.int x3), some (.int x4), none], [], memT s)) (S2 := (48, _, [some (.ref 0), some (.int x1), some (.int x2), some (.int x3), some (.int x4), none], [], memT s)) rfl (fun c8 => ?_) (fun c8 => ?_)
    · have h := (if_pos c8).symm.trans h
      obtain rfl := Option.some.inj h
      exact hk
    · have h := (if_neg c8).symm.trans h
      obtain ⟨g9, h⟩ := gI_some h
      refine mEv.gd 8 (S' := (62, _, [some (.ref 0), some (.int x1), some (.int x2), some (.int x3), some (.int x4), none], [.int ((gT_by s) (Int32.toNatClampNeg (gT_pl s))), .int (x4 * (nI 10))], memT s)) rfl g9 ?_
      refine mEv.stp 11 (S' := (22, [], [some (.ref 0), some (.int x1), some (.int x2), some (.int x3), some (.int (((x4 * (nI 10)) + ((gT_by s) (Int32.toNatClampNeg (gT_pl s)))) - (nI 48))), none], [], memTx (gT_ln s) (gT_oc s) (gT_tn s) ((gT_pl s) + (nI 1)) (gT_ft s) (gT_by s) (gT_od s))) rfl ?_
      refine mEv.mem memT_mk ?_
      obtain rfl := Option.some.inj h
      exact hk
def F_X1_readNumber (p1 : Int32) (p2 : Int32) (s : TextS) : Option (Int32 × TextS) := if (gT_ft s) = (-nI 1) then ((F_X1_skipBlanks s).bind (fun v2 => (mWh (fun x => B_X1_readNumber_22 p1 p2 (gT_pl v2) x.1 x.2) fuel0 ((nI 0), v2)).bind (fun z10 => if ((gT_pl z10.2) - (gT_pl v2)) < (nI 1) then (some ((z10.1, (mkT (gT_ln z10.2) (gT_oc z10.2) (gT_tn z10.2) (gT_pl z10.2) (gT_pl v2) (gT_by z10.2) (gT_od z10.2))))) else (if (nI 2) < ((gT_pl z10.2) - (gT_pl v2)) then (some ((z10.1, (mkT (gT_ln z10.2) (gT_oc z10.2) (gT_tn z10.2) (gT_pl z10.2) (gT_pl v2) (gT_by z10.2) (gT_od z10.2))))) else (if z10.1 < p1 then (some ((z10.1, (mkT (gT_ln z10.2) (gT_oc z10.2) (gT_tn z10.2) (gT_pl z10.2) (gT_pl v2) (gT_by z10.2) (gT_od z10.2))))) else (if z10.1 ≤ p2 then (some ((z10.1, z10.2))) else (some ((z10.1, (mkT (gT_ln z10.2) (gT_oc z10.2) (gT_tn z10.2) (gT_pl z10.2) (gT_pl v2) (gT_by z10.2) (gT_od z10.2))))))))))) else (some (((nI 0), s)))
set_option maxRecDepth 100000 in
theorem E_X1_readNumber {d : Nat} {p1 : Int32} {p2 : Int32} {s : TextS} {q : Int32 × TextS} (h : F_X1_readNumber p1 p2 s = some q) : mEv (d + 1) m_X1_readNumber none (0, [], [some (.ref 0), some (.int p1), some (.int p2), none, none, none], [], memT s) (some (.int q.1)) (memT q.2) := by
  unfold F_X1_readNumber at h
  refine mEv.br 5 (S1 := (10, [], [some (.ref 0), some (.int p1), some (.int p2), none, none, none], [], memT s)) (S2 := (8, _, [some (.ref 0), some (.int p1), some (.int p2), none, none, none], [], memT s)) rfl (fun c1 => ?_) (fun c1 => ?_)
  · have h := (if_pos c1).symm.trans h
    refine mEv.stp 2 (S' := (11, _, [some (.ref 0), some (.int p1), some (.int p2), none, none, none], [.ref 0], memT s)) rfl ?_
    obtain ⟨v2, e3, h⟩ := bnd h
    refine mEv.callV (As := []) (st := []) (h := 0) (r := none) (μ1 := memT v2) lk_X1_34 rfl rfl rfl rfl rfl (A_X1_skipBlanks (d := d + 0) e3) ?_
    refine mEv.stp 0 (S' := (14, _, [some (.ref 0), some (.int p1), some (.int p2), none, none, none], [], memT v2)) rfl ?_
    refine mEv.stp 5 (S' := (22, [], [some (.ref 0), some (.int p1), some (.int p2), some (.int (gT_pl v2)), some (.int (nI 0)), none], [], memT v2)) rfl ?_
    obtain ⟨z10, e11, h⟩ := bnd h
    refine mWh_ind (b := (fun x => B_X1_readNumber_22 p1 p2 (gT_pl v2) x.1 x.2)) (P := fun x : Int32 × TextS => mEv (d + 1) m_X1_readNumber none (22, [], [some (.ref 0), some (.int p1), some (.int p2), some (.int (gT_pl v2)), some (.int x.1), none], [], memT x.2) (some (.int q.1)) (memT q.2)) (K := fun z : Int32 × TextS => mEv (d + 1) m_X1_readNumber none (81, [], [some (.ref 0), some (.int p1), some (.int p2), some (.int (gT_pl v2)), some (.int z.1), none], [], memT z.2) (some (.int q.1)) (memT q.2)) (fun x u hq hk => H_X1_readNumber_22 (d := d) (x1 := p1) (x2 := p2) (x3 := (gT_pl v2)) (x4 := x.1) (s := x.2) (q := u) (r0 := (some (.int q.1))) (mu0 := (memT q.2)) hq hk) fuel0 ((nI 0), v2) z10 e11 ?_
    refine mEv.stp 0 (S' := (81, [], [some (.ref 0), some (.int p1), some (.int p2), some (.int (gT_pl v2)), some (.int z10.1), none], [], memT z10.2)) rfl ?_
    refine mEv.br 9 (S1 := (113, [], [some (.ref 0), some (.int p1), some (.int p2), some (.int (gT_pl v2)), some (.int z10.1), some (.int ((gT_pl z10.2) - (gT_pl v2)))], [], memT z10.2)) (S2 := (95, _, [some (.ref 0), some (.int p1), some (.int p2), some (.int (gT_pl v2)), some (.int z10.1), some (.int ((gT_pl z10.2) - (gT_pl v2)))], [], memT z10.2)) rfl (fun c12 => ?_) (fun c12 => ?_)
    · have h := (if_pos c12).symm.trans h
      obtain rfl := Option.some.inj h
      exact mEv.tgt memT_mk (mEv.stp 6 (S' := (120, _, [some (.ref 0), some (.int p1), some (.int p2), some (.int (gT_pl v2)), some (.int z10.1), some (.int ((gT_pl z10.2) - (gT_pl v2)))], [.int z10.1], memTx (gT_ln z10.2) (gT_oc z10.2) (gT_tn z10.2) (gT_pl z10.2) (gT_pl v2) (gT_by z10.2) (gT_od z10.2))) rfl (mEv.reti ⟨_, rfl, rfl⟩))
    · have h := (if_neg c12).symm.trans h
      refine mEv.br 3 (S1 := (113, [], [some (.ref 0), some (.int p1), some (.int p2), some (.int (gT_pl v2)), some (.int z10.1), some (.int ((gT_pl z10.2) - (gT_pl v2)))], [], memT z10.2)) (S2 := (101, _, [some (.ref 0), some (.int p1), some (.int p2), some (.int (gT_pl v2)), some (.int z10.1), some (.int ((gT_pl z10.2) - (gT_pl v2)))], [], memT z10.2)) rfl (fun c13 => ?_) (fun c13 => ?_)
      · have h := (if_pos c13).symm.trans h
        obtain rfl := Option.some.inj h
        exact mEv.tgt memT_mk (mEv.stp 6 (S' := (120, _, [some (.ref 0), some (.int p1), some (.int p2), some (.int (gT_pl v2)), some (.int z10.1), some (.int ((gT_pl z10.2) - (gT_pl v2)))], [.int z10.1], memTx (gT_ln z10.2) (gT_oc z10.2) (gT_tn z10.2) (gT_pl z10.2) (gT_pl v2) (gT_by z10.2) (gT_od z10.2))) rfl (mEv.reti ⟨_, rfl, rfl⟩))
      · have h := (if_neg c13).symm.trans h
        refine mEv.br 3 (S1 := (113, [], [some (.ref 0), some (.int p1), some (.int p2), some (.int (gT_pl v2)), some (.int z10.1), some (.int ((gT_pl z10.2) - (gT_pl v2)))], [], memT z10.2)) (S2 := (107, _, [some (.ref 0), some (.int p1), some (.int p2), some (.int (gT_pl v2)), some (.int z10.1), some (.int ((gT_pl z10.2) - (gT_pl v2)))], [], memT z10.2)) rfl (fun c14 => ?_) (fun c14 => ?_)
        · have h := (if_pos c14).symm.trans h
          obtain rfl := Option.some.inj h
          exact mEv.tgt memT_mk (mEv.stp 6 (S' := (120, _, [some (.ref 0), some (.int p1), some (.int p2), some (.int (gT_pl v2)), some (.int z10.1), some (.int ((gT_pl z10.2) - (gT_pl v2)))], [.int z10.1], memTx (gT_ln z10.2) (gT_oc z10.2) (gT_tn z10.2) (gT_pl z10.2) (gT_pl v2) (gT_by z10.2) (gT_od z10.2))) rfl (mEv.reti ⟨_, rfl, rfl⟩))
        · have h := (if_neg c14).symm.trans h
          refine mEv.br 3 (S1 := (118, [], [some (.ref 0), some (.int p1), some (.int p2), some (.int (gT_pl v2)), some (.int z10.1), some (.int ((gT_pl z10.2) - (gT_pl v2)))], [], memT z10.2)) (S2 := (113, [], [some (.ref 0), some (.int p1), some (.int p2), some (.int (gT_pl v2)), some (.int z10.1), some (.int ((gT_pl z10.2) - (gT_pl v2)))], [], memT z10.2)) rfl (fun c15 => ?_) (fun c15 => ?_)
          · have h := (if_pos c15).symm.trans h
            obtain rfl := Option.some.inj h
            exact mEv.stp 2 (S' := (120, _, [some (.ref 0), some (.int p1), some (.int p2), some (.int (gT_pl v2)), some (.int z10.1), some (.int ((gT_pl z10.2) - (gT_pl v2)))], [.int z10.1], memT z10.2)) rfl (mEv.reti ⟨_, rfl, rfl⟩)
          · have h := (if_neg c15).symm.trans h
            obtain rfl := Option.some.inj h
            exact mEv.tgt memT_mk (mEv.stp 6 (S' := (120, _, [some (.ref 0), some (.int p1), some (.int p2), some (.int (gT_pl v2)), some (.int z10.1), some (.int ((gT_pl z10.2) - (gT_pl v2)))], [.int z10.1], memTx (gT_ln z10.2) (gT_oc z10.2) (gT_tn z10.2) (gT_pl z10.2) (gT_pl v2) (gT_by z10.2) (gT_od z10.2))) rfl (mEv.reti ⟨_, rfl, rfl⟩))
  · have h := (if_neg c1).symm.trans h
    obtain rfl := Option.some.inj h
    exact mEv.stp 1 (S' := (9, _, [some (.ref 0), some (.int p1), some (.int p2), none, none, none], [.int (nI 0)], memT s)) rfl (mEv.reti ⟨_, rfl, rfl⟩)
theorem A_X1_readNumber {d : Nat} {p1 : Int32} {p2 : Int32} {s : TextS} {q : Int32 × TextS} (h : F_X1_readNumber p1 p2 s = some q) : mCall (d + 1) m_X1_readNumber [.ref 0, .int p1, .int p2] (memT s) (some (.int q.1)) (memT q.2) := mCall.intro ok_X1_readNumber pl_X1_readNumber rfl (E_X1_readNumber (d := d) h)
def F_X1_readEnd  (s : TextS) : Option (TextS) := if (gT_ft s) = (-nI 1) then ((F_X1_skipBlanks s).bind (fun v2 => if (gT_ln v2) ≤ (gT_pl v2) then (some ((mkT (gT_ln v2) (gT_oc v2) (gT_tn v2) (gT_pl v2) (gT_pl v2) (gT_by v2) (gT_od v2)))) else (gI (gT_pl v2) 120 (if ¬ ((gT_by v2) (Int32.toNatClampNeg (gT_pl v2))) = (nI 59) then (some ((mkT (gT_ln v2) (gT_oc v2) (gT_tn v2) (gT_pl v2) (gT_pl v2) (gT_by v2) (gT_od v2)))) else (some ((mkT (gT_ln v2) (gT_oc v2) (gT_tn v2) ((gT_pl v2) + (nI 1)) (gT_ft v2) (gT_by v2) (gT_od v2)))))))) else (some (s))
set_option maxRecDepth 100000 in
theorem E_X1_readEnd {d : Nat}  {s : TextS} {q : TextS} (h : F_X1_readEnd s = some q) : mEv (d + 1) m_X1_readEnd none (0, [], [some (.ref 0)], [], memT s) none (memT q) := by
  unfold F_X1_readEnd at h
  refine mEv.br 5 (S1 := (9, [], [some (.ref 0)], [], memT s)) (S2 := (8, _, [some (.ref 0)], [], memT s)) rfl (fun c1 => ?_) (fun c1 => ?_)
  · have h := (if_pos c1).symm.trans h
    refine mEv.stp 2 (S' := (10, _, [some (.ref 0)], [.ref 0], memT s)) rfl ?_
    obtain ⟨v2, e3, h⟩ := bnd h
    refine mEv.callV (As := []) (st := []) (h := 0) (r := none) (μ1 := memT v2) lk_X1_34 rfl rfl rfl rfl rfl (A_X1_skipBlanks (d := d + 0) e3) ?_
    refine mEv.stp 0 (S' := (13, _, [some (.ref 0)], [], memT v2)) rfl ?_
    refine mEv.br 5 (S1 := (51, [], [some (.ref 0)], [], memT v2)) (S2 := (24, _, [some (.ref 0)], [], memT v2)) rfl (fun c4 => ?_) (fun c4 => ?_)
    · have h := (if_pos c4).symm.trans h
      obtain rfl := Option.some.inj h
      exact mEv.tgt memT_mk (mEv.stp 6 (S' := (59, _, [some (.ref 0)], [], memTx (gT_ln v2) (gT_oc v2) (gT_tn v2) (gT_pl v2) (gT_pl v2) (gT_by v2) (gT_od v2))) rfl (mEv.retv rfl))
    · have h := (if_neg c4).symm.trans h
      obtain ⟨g5, h⟩ := gI_some h
      refine mEv.gd 5 (S' := (33, _, [some (.ref 0)], [.int ((gT_by v2) (Int32.toNatClampNeg (gT_pl v2)))], memT v2)) rfl g5 ?_
      refine mEv.br 2 (S1 := (51, [], [some (.ref 0)], [], memT v2)) (S2 := (38, _, [some (.ref 0)], [], memT v2)) rfl (fun c6 => ?_) (fun c6 => ?_)
      · have h := (if_pos c6).symm.trans h
        obtain rfl := Option.some.inj h
        exact mEv.tgt memT_mk (mEv.stp 6 (S' := (59, _, [some (.ref 0)], [], memTx (gT_ln v2) (gT_oc v2) (gT_tn v2) (gT_pl v2) (gT_pl v2) (gT_by v2) (gT_od v2))) rfl (mEv.retv rfl))
      · have h := (if_neg c6).symm.trans h
        obtain rfl := Option.some.inj h
        exact mEv.tgt memT_mk (mEv.stp 8 (S' := (59, _, [some (.ref 0)], [], memTx (gT_ln v2) (gT_oc v2) (gT_tn v2) ((gT_pl v2) + (nI 1)) (gT_ft v2) (gT_by v2) (gT_od v2))) rfl (mEv.retv rfl))
  · have h := (if_neg c1).symm.trans h
    obtain rfl := Option.some.inj h
    exact mEv.retv rfl
theorem A_X1_readEnd {d : Nat}  {s : TextS} {q : TextS} (h : F_X1_readEnd s = some q) : mCall (d + 1) m_X1_readEnd [.ref 0] (memT s) none (memT q) := mCall.intro ok_X1_readEnd pl_X1_readEnd rfl (E_X1_readEnd (d := d) h)
def J_X1_readOrder_172 (x1 : Int32) (x2 : Int32) (x3 : Int32) (x4 : Int32) (x5 : Int32) (s : TextS) : Option (TextS) := (F_X1_readEnd s).bind (fun v6 => gI (x1 + (nI 0)) 160 (gI (x1 + (nI 1)) 160 (gI (x1 + (nI 2)) 160 (gI (x1 + (nI 3)) 160 (some ((mkT (gT_ln v6) (gT_oc v6) (gT_tn v6) (gT_pl v6) (gT_ft v6) (gT_by v6) (upd (upd (upd (upd (gT_od v6) (Int32.toNatClampNeg (x1 + (nI 0))) x5) (Int32.toNatClampNeg (x1 + (nI 1))) x2) (Int32.toNatClampNeg (x1 + (nI 2))) x3) (Int32.toNatClampNeg (x1 + (nI 3))) x4))))))))
set_option maxRecDepth 100000 in
theorem K_X1_readOrder_172 {d : Nat} {x1 : Int32} {x2 : Int32} {x3 : Int32} {x4 : Int32} {x5 : Int32} {s : TextS} {q : TextS} (h : J_X1_readOrder_172 x1 x2 x3 x4 x5 s = some q) : mEv (d + 3) m_X1_readOrder none (172, [], [some (.ref 0), some (.int x1), some (.int x2), some (.int x3), some (.int x4), some (.int x5)], [], memT s) none (memT q) := by
  unfold J_X1_readOrder_172 at h
  refine mEv.stp 2 (S' := (173, _, [some (.ref 0), some (.int x1), some (.int x2), some (.int x3), some (.int x4), some (.int x5)], [.ref 0], memT s)) rfl ?_
  obtain ⟨v6, e7, h⟩ := bnd h
  refine mEv.callV (As := []) (st := []) (h := 0) (r := none) (μ1 := memT v6) lk_X1_58 rfl rfl rfl rfl rfl (A_X1_readEnd (d := d + 1) e7) ?_
  refine mEv.stp 0 (S' := (176, _, [some (.ref 0), some (.int x1), some (.int x2), some (.int x3), some (.int x4), some (.int x5)], [], memT v6)) rfl ?_
  obtain ⟨g8, h⟩ := gI_some h
  refine mEv.gd 7 (S' := (186, _, [some (.ref 0), some (.int x1), some (.int x2), some (.int x3), some (.int x4), some (.int x5)], [], memTx (gT_ln v6) (gT_oc v6) (gT_tn v6) (gT_pl v6) (gT_ft v6) (gT_by v6) (upd (gT_od v6) (Int32.toNatClampNeg (x1 + (nI 0))) x5))) rfl g8 ?_
  obtain ⟨g9, h⟩ := gI_some h
  refine mEv.gd 7 (S' := (195, _, [some (.ref 0), some (.int x1), some (.int x2), some (.int x3), some (.int x4), some (.int x5)], [], memTx (gT_ln v6) (gT_oc v6) (gT_tn v6) (gT_pl v6) (gT_ft v6) (gT_by v6) (upd (upd (gT_od v6) (Int32.toNatClampNeg (x1 + (nI 0))) x5) (Int32.toNatClampNeg (x1 + (nI 1))) x2))) rfl g9 ?_
  obtain ⟨g10, h⟩ := gI_some h
  refine mEv.gd 7 (S' := (204, _, [some (.ref 0), some (.int x1), some (.int x2), some (.int x3), some (.int x4), some (.int x5)], [], memTx (gT_ln v6) (gT_oc v6) (gT_tn v6) (gT_pl v6) (gT_ft v6) (gT_by v6) (upd (upd (upd (gT_od v6) (Int32.toNatClampNeg (x1 + (nI 0))) x5) (Int32.toNatClampNeg (x1 + (nI 1))) x2) (Int32.toNatClampNeg (x1 + (nI 2))) x3))) rfl g10 ?_
  obtain ⟨g11, h⟩ := gI_some h
  refine mEv.gd 7 (S' := (214, _, [some (.ref 0), some (.int x1), some (.int x2), some (.int x3), some (.int x4), some (.int x5)], [], memTx (gT_ln v6) (gT_oc v6) (gT_tn v6) (gT_pl v6) (gT_ft v6) (gT_by v6) (upd (upd (upd (upd (gT_od v6) (Int32.toNatClampNeg (x1 + (nI 0))) x5) (Int32.toNatClampNeg (x1 + (nI 1))) x2) (Int32.toNatClampNeg (x1 + (nI 2))) x3) (Int32.toNatClampNeg (x1 + (nI 3))) x4))) rfl g11 ?_
  obtain rfl := Option.some.inj h
  exact mEv.tgt memT_mk (mEv.retv rfl)
def F_X1_readOrder (p1 : Int32) (s : TextS) : Option (TextS) := (F_X1_readKind s).bind (fun v1 => if v1.1 = (nI 43) then ((F_X1_readNumber (nI 0) (nI 99) v1.2).bind (fun v4 => J_X1_readOrder_172 p1 (nI 0) (nI 0) v4.1 v1.1 v4.2)) else (if v1.1 = (nI 48) then ((F_X1_readTown (-nI 1) v1.2).bind (fun v13 => (F_X1_readTown v13.1 v13.2).bind (fun v15 => (F_X1_readNumber (nI 1) (nI 24) v15.2).bind (fun v17 => J_X1_readOrder_172 p1 v13.1 v15.1 v17.1 v1.1 v17.2)))) else (if v1.1 = (nI 112) then ((F_X1_readNumber (nI 0) (nI 23) v1.2).bind (fun v20 => (F_X1_readNumber (nI 0) (nI 9) v20.2).bind (fun v22 => J_X1_readOrder_172 p1 v20.1 (nI 0) v22.1 v1.1 v22.2))) else (if v1.1 = (nI 114) then ((F_X1_readTown (-nI 1) v1.2).bind (fun v25 => (F_X1_readTown v25.1 v25.2).bind (fun v27 => (F_X1_readNumber (nI 0) (nI 30) v27.2).bind (fun v29 => J_X1_readOrder_172 p1 v25.1 v27.1 v29.1 v1.1 v29.2)))) else (if v1.1 = (nI 119) then ((F_X1_readTown (-nI 1) v1.2).bind (fun v32 => (F_X1_readTown v32.1 v32.2).bind (fun v34 => (F_X1_readNumber (nI 0) (nI 30) v34.2).bind (fun v36 => J_X1_readOrder_172 p1 v32.1 v34.1 v36.1 v1.1 v36.2)))) else (if v1.1 = (nI 120) then ((F_X1_readFigure (nI 1) v1.2).bind (fun v39 => J_X1_readOrder_172 p1 (nI 0) (nI 0) v39.1 v1.1 v39.2)) else (J_X1_readOrder_172 p1 (nI 0) (nI 0) (nI 0) v1.1 (mkT (gT_ln v1.2) (gT_oc v1.2) (gT_tn v1.2) (gT_pl v1.2) ((gT_pl v1.2) - (nI 1)) (gT_by v1.2) (gT_od v1.2)))))))))
set_option maxRecDepth 100000 in
theorem E_X1_readOrder {d : Nat} {p1 : Int32} {s : TextS} {q : TextS} (h : F_X1_readOrder p1 s = some q) : mEv (d + 3) m_X1_readOrder none (0, [], [some (.ref 0), some (.int p1), none, none, none, none], [], memT s) none (memT q) := by
  unfold F_X1_readOrder at h
  refine mEv.stp 8 (S' := (8, _, [some (.ref 0), some (.int p1), some (.int (nI 0)), some (.int (nI 0)), some (.int (nI 0)), none], [.ref 0], memT s)) rfl ?_
  obtain ⟨v1, e2, h⟩ := bnd h
  refine mEv.callV (As := []) (st := []) (h := 0) (r := (some (.int v1.1))) (μ1 := memT v1.2) lk_X1_41 rfl rfl rfl rfl rfl (A_X1_readKind (d := d + 1) e2) ?_
  refine mEv.stp 0 (S' := (11, _, [some (.ref 0), some (.int p1), some (.int (nI 0)), some (.int (nI 0)), some (.int (nI 0)), none], [.int v1.1], memT v1.2)) rfl ?_
  refine mEv.stp 3 (S' := (mSw v1.1 [(nI 43, 140), (nI 48, 72), (nI 112, 120), (nI 114, 96), (nI 119, 96), (nI 120, 152)] 162, [], [some (.ref 0), some (.int p1), some (.int (nI 0)), some (.int (nI 0)), some (.int (nI 0)), some (.int v1.1)], [], memT v1.2)) rfl ?_
  refine mEv.sw (fun c3 => ?_) (fun c3 => ?_)
  · have h := (if_pos c3).symm.trans h
    refine mEv.stp 4 (S' := (144, _, [some (.ref 0), some (.int p1), some (.int (nI 0)), some (.int (nI 0)), some (.int (nI 0)), some (.int v1.1)], [.int (nI 99), .int (nI 0), .ref 0], memT v1.2)) rfl ?_
    obtain ⟨v4, e5, h⟩ := bnd h
    refine mEv.callV (As := [.int (nI 0), .int (nI 99)]) (st := []) (h := 0) (r := (some (.int v4.1))) (μ1 := memT v4.2) lk_X1_51 rfl rfl rfl rfl rfl (A_X1_readNumber (d := d + 1) e5) ?_
    refine mEv.stp 0 (S' := (147, _, [some (.ref 0), some (.int p1), some (.int (nI 0)), some (.int (nI 0)), some (.int (nI 0)), some (.int v1.1)], [.int v4.1], memT v4.2)) rfl ?_
    refine mEv.stp 2 (S' := (172, [], [some (.ref 0), some (.int p1), some (.int (nI 0)), some (.int (nI 0)), some (.int v4.1), some (.int v1.1)], [], memT v4.2)) rfl ?_
    exact K_X1_readOrder_172 (d := d) h
  · have h := (if_neg c3).symm.trans h
    refine mEv.sw (fun c12 => ?_) (fun c12 => ?_)
    · have h := (if_pos c12).symm.trans h
      refine mEv.stp 3 (S' := (74, _, [some (.ref 0), some (.int p1), some (.int (nI 0)), some (.int (nI 0)), some (.int (nI 0)), some (.int v1.1)], [.int (-nI 1), .ref 0], memT v1.2)) rfl ?_
      obtain ⟨v13, e14, h⟩ := bnd h
      refine mEv.callV (As := [.int (-nI 1)]) (st := []) (h := 0) (r := (some (.int v13.1))) (μ1 := memT v13.2) lk_X1_45 rfl rfl rfl rfl rfl (A_X1_readTown (d := d + 0) e14) ?_
      refine mEv.stp 0 (S' := (77, _, [some (.ref 0), some (.int p1), some (.int (nI 0)), some (.int (nI 0)), some (.int (nI 0)), some (.int v1.1)], [.int v13.1], memT v13.2)) rfl ?_
      refine mEv.stp 3 (S' := (80, _, [some (.ref 0), some (.int p1), some (.int v13.1), some (.int (nI 0)), some (.int (nI 0)), some (.int v1.1)], [.int v13.1, .ref 0], memT v13.2)) rfl ?_
      obtain ⟨v15, e16, h⟩ := bnd h
      refine mEv.callV (As := [.int v13.1]) (st := []) (h := 0) (r := (some (.int v15.1))) (μ1 := memT v15.2) lk_X1_45 rfl rfl rfl rfl rfl (A_X1_readTown (d := d + 0) e16) ?_
      refine mEv.stp 0 (S' := (83, _, [some (.ref 0), some (.int p1), some (.int v13.1), some (.int (nI 0)), some (.int (nI 0)), some (.int v1.1)], [.int v15.1], memT v15.2)) rfl ?_
      refine mEv.stp 4 (S' := (88, _, [some (.ref 0), some (.int p1), some (.int v13.1), some (.int v15.1), some (.int (nI 0)), some (.int v1.1)], [.int (nI 24), .int (nI 1), .ref 0], memT v15.2)) rfl ?_
      obtain ⟨v17, e18, h⟩ := bnd h
      refine mEv.callV (As := [.int (nI 1), .int (nI 24)]) (st := []) (h := 0) (r := (some (.int v17.1))) (μ1 := memT v17.2) lk_X1_51 rfl rfl rfl rfl rfl (A_X1_readNumber (d := d + 1) e18) ?_
      refine mEv.stp 0 (S' := (91, _, [some (.ref 0), some (.int p1), some (.int v13.1), some (.int v15.1), some (.int (nI 0)), some (.int v1.1)], [.int v17.1], memT v17.2)) rfl ?_
      refine mEv.stp 2 (S' := (172, [], [some (.ref 0), some (.int p1), some (.int v13.1), some (.int v15.1), some (.int v17.1), some (.int v1.1)], [], memT v17.2)) rfl ?_
      exact K_X1_readOrder_172 (d := d) h
    · have h := (if_neg c12).symm.trans h
      refine mEv.sw (fun c19 => ?_) (fun c19 => ?_)
      · have h := (if_pos c19).symm.trans h
        refine mEv.stp 4 (S' := (124, _, [some (.ref 0), some (.int p1), some (.int (nI 0)), some (.int (nI 0)), some (.int (nI 0)), some (.int v1.1)], [.int (nI 23), .int (nI 0), .ref 0], memT v1.2)) rfl ?_
        obtain ⟨v20, e21, h⟩ := bnd h
        refine mEv.callV (As := [.int (nI 0), .int (nI 23)]) (st := []) (h := 0) (r := (some (.int v20.1))) (μ1 := memT v20.2) lk_X1_51 rfl rfl rfl rfl rfl (A_X1_readNumber (d := d + 1) e21) ?_
        refine mEv.stp 0 (S' := (127, _, [some (.ref 0), some (.int p1), some (.int (nI 0)), some (.int (nI 0)), some (.int (nI 0)), some (.int v1.1)], [.int v20.1], memT v20.2)) rfl ?_
        refine mEv.stp 4 (S' := (132, _, [some (.ref 0), some (.int p1), some (.int v20.1), some (.int (nI 0)), some (.int (nI 0)), some (.int v1.1)], [.int (nI 9), .int (nI 0), .ref 0], memT v20.2)) rfl ?_
        obtain ⟨v22, e23, h⟩ := bnd h
        refine mEv.callV (As := [.int (nI 0), .int (nI 9)]) (st := []) (h := 0) (r := (some (.int v22.1))) (μ1 := memT v22.2) lk_X1_51 rfl rfl rfl rfl rfl (A_X1_readNumber (d := d + 1) e23) ?_
        refine mEv.stp 0 (S' := (135, _, [some (.ref 0), some (.int p1), some (.int v20.1), some (.int (nI 0)), some (.int (nI 0)), some (.int v1.1)], [.int v22.1], memT v22.2)) rfl ?_
        refine mEv.stp 2 (S' := (172, [], [some (.ref 0), some (.int p1), some (.int v20.1), some (.int (nI 0)), some (.int v22.1), some (.int v1.1)], [], memT v22.2)) rfl ?_
        exact K_X1_readOrder_172 (d := d) h
      · have h := (if_neg c19).symm.trans h
        refine mEv.sw (fun c24 => ?_) (fun c24 => ?_)
        · have h := (if_pos c24).symm.trans h
          refine mEv.stp 3 (S' := (98, _, [some (.ref 0), some (.int p1), some (.int (nI 0)), some (.int (nI 0)), some (.int (nI 0)), some (.int v1.1)], [.int (-nI 1), .ref 0], memT v1.2)) rfl ?_
          obtain ⟨v25, e26, h⟩ := bnd h
          refine mEv.callV (As := [.int (-nI 1)]) (st := []) (h := 0) (r := (some (.int v25.1))) (μ1 := memT v25.2) lk_X1_45 rfl rfl rfl rfl rfl (A_X1_readTown (d := d + 0) e26) ?_
          refine mEv.stp 0 (S' := (101, _, [some (.ref 0), some (.int p1), some (.int (nI 0)), some (.int (nI 0)), some (.int (nI 0)), some (.int v1.1)], [.int v25.1], memT v25.2)) rfl ?_
          refine mEv.stp 3 (S' := (104, _, [some (.ref 0), some (.int p1), some (.int v25.1), some (.int (nI 0)), some (.int (nI 0)), some (.int v1.1)], [.int v25.1, .ref 0], memT v25.2)) rfl ?_
          obtain ⟨v27, e28, h⟩ := bnd h
          refine mEv.callV (As := [.int v25.1]) (st := []) (h := 0) (r := (some (.int v27.1))) (μ1 := memT v27.2) lk_X1_45 rfl rfl rfl rfl rfl (A_X1_readTown (d := d + 0) e28) ?_
          refine mEv.stp 0 (S' := (107, _, [some (.ref 0), some (.int p1), some (.int v25.1), some (.int (nI 0)), some (.int (nI 0)), some (.int v1.1)], [.int v27.1], memT v27.2)) rfl ?_
          refine mEv.stp 4 (S' := (112, _, [some (.ref 0), some (.int p1), some (.int v25.1), some (.int v27.1), some (.int (nI 0)), some (.int v1.1)], [.int (nI 30), .int (nI 0), .ref 0], memT v27.2)) rfl ?_
          obtain ⟨v29, e30, h⟩ := bnd h
          refine mEv.callV (As := [.int (nI 0), .int (nI 30)]) (st := []) (h := 0) (r := (some (.int v29.1))) (μ1 := memT v29.2) lk_X1_51 rfl rfl rfl rfl rfl (A_X1_readNumber (d := d + 1) e30) ?_
          refine mEv.stp 0 (S' := (115, _, [some (.ref 0), some (.int p1), some (.int v25.1), some (.int v27.1), some (.int (nI 0)), some (.int v1.1)], [.int v29.1], memT v29.2)) rfl ?_
          refine mEv.stp 2 (S' := (172, [], [some (.ref 0), some (.int p1), some (.int v25.1), some (.int v27.1), some (.int v29.1), some (.int v1.1)], [], memT v29.2)) rfl ?_
          exact K_X1_readOrder_172 (d := d) h
        · have h := (if_neg c24).symm.trans h
          refine mEv.sw (fun c31 => ?_) (fun c31 => ?_)
          · have h := (if_pos c31).symm.trans h
            refine mEv.stp 3 (S' := (98, _, [some (.ref 0), some (.int p1), some (.int (nI 0)), some (.int (nI 0)), some (.int (nI 0)), some (.int v1.1)], [.int (-nI 1), .ref 0], memT v1.2)) rfl ?_
            obtain ⟨v32, e33, h⟩ := bnd h
            refine mEv.callV (As := [.int (-nI 1)]) (st := []) (h := 0) (r := (some (.int v32.1))) (μ1 := memT v32.2) lk_X1_45 rfl rfl rfl rfl rfl (A_X1_readTown (d := d + 0) e33) ?_
            refine mEv.stp 0 (S' := (101, _, [some (.ref 0), some (.int p1), some (.int (nI 0)), some (.int (nI 0)), some (.int (nI 0)), some (.int v1.1)], [.int v32.1], memT v32.2)) rfl ?_
            refine mEv.stp 3 (S' := (104, _, [some (.ref 0), some (.int p1), some (.int v32.1), some (.int (nI 0)), some (.int (nI 0)), some (.int v1.1)], [.int v32.1, .ref 0], memT v32.2)) rfl ?_
            obtain ⟨v34, e35, h⟩ := bnd h
            refine mEv.callV (As := [.int v32.1]) (st := []) (h := 0) (r := (some (.int v34.1))) (μ1 := memT v34.2) lk_X1_45 rfl rfl rfl rfl rfl (A_X1_readTown (d := d + 0) e35) ?_
            refine mEv.stp 0 (S' := (107, _, [some (.ref 0), some (.int p1), some (.int v32.1), some (.int (nI 0)), some (.int (nI 0)), some (.int v1.1)], [.int v34.1], memT v34.2)) rfl ?_
            refine mEv.stp 4 (S' := (112, _, [some (.ref 0), some (.int p1), some (.int v32.1), some (.int v34.1), some (.int (nI 0)), some (.int v1.1)], [.int (nI 30), .int (nI 0), .ref 0], memT v34.2)) rfl ?_
            obtain ⟨v36, e37, h⟩ := bnd h
            refine mEv.callV (As := [.int (nI 0), .int (nI 30)]) (st := []) (h := 0) (r := (some (.int v36.1))) (μ1 := memT v36.2) lk_X1_51 rfl rfl rfl rfl rfl (A_X1_readNumber (d := d + 1) e37) ?_
            refine mEv.stp 0 (S' := (115, _, [some (.ref 0), some (.int p1), some (.int v32.1), some (.int v34.1), some (.int (nI 0)), some (.int v1.1)], [.int v36.1], memT v36.2)) rfl ?_
            refine mEv.stp 2 (S' := (172, [], [some (.ref 0), some (.int p1), some (.int v32.1), some (.int v34.1), some (.int v36.1), some (.int v1.1)], [], memT v36.2)) rfl ?_
            exact K_X1_readOrder_172 (d := d) h
          · have h := (if_neg c31).symm.trans h
            refine mEv.sw (fun c38 => ?_) (fun c38 => ?_)
            · have h := (if_pos c38).symm.trans h
              refine mEv.stp 3 (S' := (154, _, [some (.ref 0), some (.int p1), some (.int (nI 0)), some (.int (nI 0)), some (.int (nI 0)), some (.int v1.1)], [.int (nI 1), .ref 0], memT v1.2)) rfl ?_
              obtain ⟨v39, e40, h⟩ := bnd h
              refine mEv.callV (As := [.int (nI 1)]) (st := []) (h := 0) (r := (some (.int v39.1))) (μ1 := memT v39.2) lk_X1_55 rfl rfl rfl rfl rfl (A_X1_readFigure (d := d + 1) e40) ?_
              refine mEv.stp 0 (S' := (157, _, [some (.ref 0), some (.int p1), some (.int (nI 0)), some (.int (nI 0)), some (.int (nI 0)), some (.int v1.1)], [.int v39.1], memT v39.2)) rfl ?_
              refine mEv.stp 2 (S' := (172, [], [some (.ref 0), some (.int p1), some (.int (nI 0)), some (.int (nI 0)), some (.int v39.1), some (.int v1.1)], [], memT v39.2)) rfl ?_
              exact K_X1_readOrder_172 (d := d) h
            · have h := (if_neg c38).symm.trans h
              refine mEv.stp 0 (S' := (162, [], [some (.ref 0), some (.int p1), some (.int (nI 0)), some (.int (nI 0)), some (.int (nI 0)), some (.int v1.1)], [], memT v1.2)) rfl ?_
              refine mEv.stp 7 (S' := (172, [], [some (.ref 0), some (.int p1), some (.int (nI 0)), some (.int (nI 0)), some (.int (nI 0)), some (.int v1.1)], [], memTx (gT_ln v1.2) (gT_oc v1.2) (gT_tn v1.2) (gT_pl v1.2) ((gT_pl v1.2) - (nI 1)) (gT_by v1.2) (gT_od v1.2))) rfl ?_
              refine mEv.mem memT_mk ?_
              exact K_X1_readOrder_172 (d := d) h
theorem A_X1_readOrder {d : Nat} {p1 : Int32} {s : TextS} {q : TextS} (h : F_X1_readOrder p1 s = some q) : mCall (d + 3) m_X1_readOrder [.ref 0, .int p1] (memT s) none (memT q) := mCall.intro ok_X1_readOrder pl_X1_readOrder rfl (E_X1_readOrder (d := d) h)
def B_X1_read_45 (x2 : Int32) (s : TextS) : Option ((Int32 × TextS) ⊕ (TextS)) := if (nI 40) ≤ x2 then (some (.inr (s))) else (if ¬ (gT_ft s) = (-nI 1) then (some (.inr (s))) else (if (gT_ln s) ≤ (gT_pl s) then (some (.inr (s))) else ((F_X1_readOrder (x2 * (nI 4)) s).bind (fun v7 => (F_X1_skipBlanks v7).bind (fun v9 => some (.inl ((x2 + (nI 1)), (mkT (gT_ln v9) ((gT_oc v9) + (nI 1)) (gT_tn v9) (gT_pl v9) (gT_ft v9) (gT_by v9) (gT_od v9)))))))))
set_option maxRecDepth 100000 in
theorem H_X1_read_45 {d : Nat} {x2 : Int32} {s : TextS} {q : (Int32 × TextS) ⊕ (TextS)} {r0 : Option Value} {mu0 : MMe} (h : B_X1_read_45 x2 s = some q) (hk : Sum.elim (fun x : Int32 × TextS => mEv (d + 4) m_X1_read none (45, [], [some (.ref 0), none, some (.int x.1)], [], memT x.2) r0 mu0) (fun z : TextS => mEv (d + 4) m_X1_read none (97, [], [some (.ref 0), none, none], [], memT z) r0 mu0) q) : mEv (d + 4) m_X1_read none (45, [], [some (.ref 0), none, some (.int x2)], [], memT s) r0 mu0 := by
  unfold B_X1_read_45 at h
  refine mEv.br 4 (S1 := (97, [], [some (.ref 0), none, some (.int x2)], [], memT s)) (S2 := (51, _, [some (.ref 0), none, some (.int x2)], [], memT s)) rfl (fun c4 => ?_) (fun c4 => ?_)
  · have h := (if_pos c4).symm.trans h
    refine mEv.fg [2] (z' := [some (.ref 0), none, none]) rfl ?_
    obtain rfl := Option.some.inj h
    exact hk
  · have h := (if_neg c4).symm.trans h
    refine mEv.br 4 (S1 := (97, [], [some (.ref 0), none, some (.int x2)], [], memT s)) (S2 := (59, _, [some (.ref 0), none, some (.int x2)], [], memT s)) rfl (fun c5 => ?_) (fun c5 => ?_)
    · have h := (if_pos c5).symm.trans h
      refine mEv.fg [2] (z' := [some (.ref 0), none, none]) rfl ?_
      obtain rfl := Option.some.inj h
      exact hk
    · have h := (if_neg c5).symm.trans h
      refine mEv.br 5 (S1 := (97, [], [some (.ref 0), none, some (.int x2)], [], memT s)) (S2 := (70, _, [some (.ref 0), none, some (.int x2)], [], memT s)) rfl (fun c6 => ?_) (fun c6 => ?_)
      · have h := (if_pos c6).symm.trans h
        refine mEv.fg [2] (z' := [some (.ref 0), none, none]) rfl ?_
        obtain rfl := Option.some.inj h
        exact hk
      · have h := (if_neg c6).symm.trans h
        refine mEv.stp 4 (S' := (74, _, [some (.ref 0), none, some (.int x2)], [.int (x2 * (nI 4)), .ref 0], memT s)) rfl ?_
        obtain ⟨v7, e8, h⟩ := bnd h
        refine mEv.callV (As := [.int (x2 * (nI 4))]) (st := []) (h := 0) (r := none) (μ1 := memT v7) lk_X1_37 rfl rfl rfl rfl rfl (A_X1_readOrder (d := d + 0) e8) ?_
        refine mEv.stp 0 (S' := (77, _, [some (.ref 0), none, some (.int x2)], [], memT v7)) rfl ?_
        refine mEv.stp 1 (S' := (78, _, [some (.ref 0), none, some (.int x2)], [.ref 0], memT v7)) rfl ?_
        obtain ⟨v9, e10, h⟩ := bnd h
        refine mEv.callV (As := []) (st := []) (h := 0) (r := none) (μ1 := memT v9) lk_X1_34 rfl rfl rfl rfl rfl (A_X1_skipBlanks (d := d + 3) e10) ?_
        refine mEv.stp 0 (S' := (81, _, [some (.ref 0), none, some (.int x2)], [], memT v9)) rfl ?_
        refine mEv.stp 8 (S' := (45, [], [some (.ref 0), none, some (.int (x2 + (nI 1)))], [], memTx (gT_ln v9) ((gT_oc v9) + (nI 1)) (gT_tn v9) (gT_pl v9) (gT_ft v9) (gT_by v9) (gT_od v9))) rfl ?_
        refine mEv.mem memT_mk ?_
        obtain rfl := Option.some.inj h
        exact hk
def J_X1_read_43  (s : TextS) : Option (Int32 × TextS) := (mWh (fun x => B_X1_read_45 x.1 x.2) fuel0 ((nI 0), s)).bind (fun z11 => some (((gT_ft z11), z11)))
set_option maxRecDepth 100000 in
theorem K_X1_read_43 {d : Nat}  {s : TextS} {q : Int32 × TextS} (h : J_X1_read_43 s = some q) : mEv (d + 4) m_X1_read none (43, [], [some (.ref 0), none, none], [], memT s) (some (.int q.1)) (memT q.2) := by
  unfold J_X1_read_43 at h
  refine mEv.stp 3 (S' := (45, [], [some (.ref 0), none, some (.int (nI 0))], [], memT s)) rfl ?_
  obtain ⟨z11, e12, h⟩ := bnd h
  refine mWh_ind (b := (fun x => B_X1_read_45 x.1 x.2)) (P := fun x : Int32 × TextS => mEv (d + 4) m_X1_read none (45, [], [some (.ref 0), none, some (.int x.1)], [], memT x.2) (some (.int q.1)) (memT q.2)) (K := fun z : TextS => mEv (d + 4) m_X1_read none (97, [], [some (.ref 0), none, none], [], memT z) (some (.int q.1)) (memT q.2)) (fun x u hq hk => H_X1_read_45 (d := d) (x2 := x.1) (s := x.2) (q := u) (r0 := (some (.int q.1))) (mu0 := (memT q.2)) hq hk) fuel0 ((nI 0), s) z11 e12 ?_
  refine mEv.stp 0 (S' := (97, [], [some (.ref 0), none, none], [], memT z11)) rfl ?_
  obtain rfl := Option.some.inj h
  exact mEv.stp 3 (S' := (101, _, [some (.ref 0), none, none], [.int (gT_ft z11)], memT z11)) rfl (mEv.reti ⟨_, rfl, rfl⟩)
def F_X1_read (p1 : Int32) (s : TextS) : Option (Int32 × TextS) := (F_X1_skipBlanks (mkT (gT_ln s) (nI 0) p1 (nI 0) (-nI 1) (gT_by s) (gT_od s))).bind (fun v1 => if (gT_pl v1) < (gT_ln v1) then (J_X1_read_43 v1) else (J_X1_read_43 (mkT (gT_ln v1) (gT_oc v1) (gT_tn v1) (gT_pl v1) (gT_ln v1) (gT_by v1) (gT_od v1))))
set_option maxRecDepth 100000 in
theorem E_X1_read {d : Nat} {p1 : Int32} {s : TextS} {q : Int32 × TextS} (h : F_X1_read p1 s = some q) : mEv (d + 4) m_X1_read none (0, [], [some (.ref 0), some (.int p1), none], [], memT s) (some (.int q.1)) (memT q.2) := by
  unfold F_X1_read at h
  refine mEv.stp 14 (S' := (21, _, [some (.ref 0), some (.int p1), none], [.ref 0], memTx (gT_ln s) (nI 0) p1 (nI 0) (-nI 1) (gT_by s) (gT_od s))) rfl ?_
  obtain ⟨v1, e2, h⟩ := bnd h
  refine mEv.callV (As := []) (st := []) (h := 0) (r := none) (μ1 := memT v1) lk_X1_34 rfl rfl rfl rfl rfl (mCall.cast memT_mk (A_X1_skipBlanks (d := d + 3) e2)) ?_
  refine mEv.stp 0 (S' := (24, _, [some (.ref 0), some (.int p1), none], [], memT v1)) rfl ?_
  refine mEv.br 5 (S1 := (43, [], [some (.ref 0), some (.int p1), none], [], memT v1)) (S2 := (35, _, [some (.ref 0), some (.int p1), none], [], memT v1)) rfl (fun c3 => ?_) (fun c3 => ?_)
  · have h := (if_pos c3).symm.trans h
    refine mEv.fg [1] (z' := [some (.ref 0), none, none]) rfl ?_
    exact K_X1_read_43 (d := d) h
  · have h := (if_neg c3).symm.trans h
    refine mEv.stp 4 (S' := (43, [], [some (.ref 0), some (.int p1), none], [], memTx (gT_ln v1) (gT_oc v1) (gT_tn v1) (gT_pl v1) (gT_ln v1) (gT_by v1) (gT_od v1))) rfl ?_
    refine mEv.fg [1] (z' := [some (.ref 0), none, none]) rfl ?_
    refine mEv.mem memT_mk ?_
    exact K_X1_read_43 (d := d) h
theorem A_X1_read {d : Nat} {p1 : Int32} {s : TextS} {q : Int32 × TextS} (h : F_X1_read p1 s = some q) : mCall (d + 4) m_X1_read [.ref 0, .int p1] (memT s) (some (.int q.1)) (memT q.2) := mCall.intro ok_X1_read pl_X1_read rfl (E_X1_read (d := d) h)
end
section
set_option maxRecDepth 100000 in
set_option maxHeartbeats 4000000 in
theorem lf_F12 {d : Nat} {M : MB} {as : List Value} {r : Option Value} {x_sc : Int32} {x_ns : Int32} {x_bd : Int32} {x_no : Int32} {x_fu : Int32} {x_now : NetS} {x_tri : NetS} {x_s0 : NetS} {x_s1 : NetS} {x_s2 : NetS} {x_s3 : NetS} {x_s4 : NetS} {x_txt : TextS} {v : Nat → Int32} (h : mCall d M as (memF 36 (gN_r x_tri)) r (memF 36 v)) : mCall d M (as.map (cV (mRo [12]))) (memRx x_sc x_ns x_bd x_no x_fu x_now x_tri x_s0 x_s1 x_s2 x_s3 x_s4 x_txt) (r.map (cV (mRo [12]))) (memRx x_sc x_ns x_bd x_no x_fu x_now (mkN (gN_tc x_tri) (gN_hb x_tri) (gN_x x_tri) (gN_hg x_tri) (gN_cc x_tri) (gN_w x_tri) v (gN_hd x_tri) (gN_st x_tri) (gN_ct x_tri) (gN_tt x_tri) (gN_ld x_tri) (gN_ca x_tri)) x_s0 x_s1 x_s2 x_s3 x_s4 x_txt) := mCall.lift2 (d := d) (M := M) (as := as) (r := r) (μ := memF 36 (gN_r x_tri)) (μ' := memF 36 v) (B := memRx x_sc x_ns x_bd x_no x_fu x_now x_tri x_s0 x_s1 x_s2 x_s3 x_s4 x_txt) (B' := memRx x_sc x_ns x_bd x_no x_fu x_now (mkN (gN_tc x_tri) (gN_hb x_tri) (gN_x x_tri) (gN_hg x_tri) (gN_cc x_tri) (gN_w x_tri) v (gN_hd x_tri) (gN_st x_tri) (gN_ct x_tri) (gN_tt x_tri) (gN_ld x_tri) (gN_ca x_tri)) x_s0 x_s1 x_s2 x_s3 x_s4 x_txt) [12] [false, false, false, false, false, false, false, false, false, false, false, false, true, false, false, false, false, false, false, false, false, false, false, false, false, false, false, false, false, false, false, false, false, false, false, false, false, false, false, false, false, false, false, false, false, false, false, false, false, false, false, false, false, false, false, false, false, false, false, false, false, false, false, false, false, false, false, false] h rfl rfl rfl rfl (by decide +kernel) rfl rfl (by decide +kernel)
set_option maxRecDepth 100000 in
set_option maxHeartbeats 4000000 in
theorem lf_F2 {d : Nat} {M : MB} {as : List Value} {r : Option Value} {x_sc : Int32} {x_ns : Int32} {x_bd : Int32} {x_no : Int32} {x_fu : Int32} {x_now : NetS} {x_tri : NetS} {x_s0 : NetS} {x_s1 : NetS} {x_s2 : NetS} {x_s3 : NetS} {x_s4 : NetS} {x_txt : TextS} {v : Nat → Int32} (h : mCall d M as (memF 36 (gN_w x_now)) r (memF 36 v)) : mCall d M (as.map (cV (mRo [2]))) (memRx x_sc x_ns x_bd x_no x_fu x_now x_tri x_s0 x_s1 x_s2 x_s3 x_s4 x_txt) (r.map (cV (mRo [2]))) (memRx x_sc x_ns x_bd x_no x_fu (mkN (gN_tc x_now) (gN_hb x_now) (gN_x x_now) (gN_hg x_now) (gN_cc x_now) v (gN_r x_now) (gN_hd x_now) (gN_st x_now) (gN_ct x_now) (gN_tt x_now) (gN_ld x_now) (gN_ca x_now)) x_tri x_s0 x_s1 x_s2 x_s3 x_s4 x_txt) := mCall.lift2 (d := d) (M := M) (as := as) (r := r) (μ := memF 36 (gN_w x_now)) (μ' := memF 36 v) (B := memRx x_sc x_ns x_bd x_no x_fu x_now x_tri x_s0 x_s1 x_s2 x_s3 x_s4 x_txt) (B' := memRx x_sc x_ns x_bd x_no x_fu (mkN (gN_tc x_now) (gN_hb x_now) (gN_x x_now) (gN_hg x_now) (gN_cc x_now) v (gN_r x_now) (gN_hd x_now) (gN_st x_now) (gN_ct x_now) (gN_tt x_now) (gN_ld x_now) (gN_ca x_now)) x_tri x_s0 x_s1 x_s2 x_s3 x_s4 x_txt) [2] [false, false, true, false, false, false, false, false, false, false, false, false, false, false, false, false, false, false, false, false, false, false, false, false, false, false, false, false, false, false, false, false, false, false, false, false, false, false, false, false, false, false, false, false, false, false, false, false, false, false, false, false, false, false, false, false, false, false, false, false, false, false, false, false, false, false, false, false] h rfl rfl rfl rfl (by decide +kernel) rfl rfl (by decide +kernel)
set_option maxRecDepth 100000 in
set_option maxHeartbeats 4000000 in
theorem lf_F3 {d : Nat} {M : MB} {as : List Value} {r : Option Value} {x_sc : Int32} {x_ns : Int32} {x_bd : Int32} {x_no : Int32} {x_fu : Int32} {x_now : NetS} {x_tri : NetS} {x_s0 : NetS} {x_s1 : NetS} {x_s2 : NetS} {x_s3 : NetS} {x_s4 : NetS} {x_txt : TextS} {v : Nat → Int32} (h : mCall d M as (memF 36 (gN_r x_now)) r (memF 36 v)) : mCall d M (as.map (cV (mRo [3]))) (memRx x_sc x_ns x_bd x_no x_fu x_now x_tri x_s0 x_s1 x_s2 x_s3 x_s4 x_txt) (r.map (cV (mRo [3]))) (memRx x_sc x_ns x_bd x_no x_fu (mkN (gN_tc x_now) (gN_hb x_now) (gN_x x_now) (gN_hg x_now) (gN_cc x_now) (gN_w x_now) v (gN_hd x_now) (gN_st x_now) (gN_ct x_now) (gN_tt x_now) (gN_ld x_now) (gN_ca x_now)) x_tri x_s0 x_s1 x_s2 x_s3 x_s4 x_txt) := mCall.lift2 (d := d) (M := M) (as := as) (r := r) (μ := memF 36 (gN_r x_now)) (μ' := memF 36 v) (B := memRx x_sc x_ns x_bd x_no x_fu x_now x_tri x_s0 x_s1 x_s2 x_s3 x_s4 x_txt) (B' := memRx x_sc x_ns x_bd x_no x_fu (mkN (gN_tc x_now) (gN_hb x_now) (gN_x x_now) (gN_hg x_now) (gN_cc x_now) (gN_w x_now) v (gN_hd x_now) (gN_st x_now) (gN_ct x_now) (gN_tt x_now) (gN_ld x_now) (gN_ca x_now)) x_tri x_s0 x_s1 x_s2 x_s3 x_s4 x_txt) [3] [false, false, false, true, false, false, false, false, false, false, false, false, false, false, false, false, false, false, false, false, false, false, false, false, false, false, false, false, false, false, false, false, false, false, false, false, false, false, false, false, false, false, false, false, false, false, false, false, false, false, false, false, false, false, false, false, false, false, false, false, false, false, false, false, false, false, false, false] h rfl rfl rfl rfl (by decide +kernel) rfl rfl (by decide +kernel)
set_option maxRecDepth 100000 in
set_option maxHeartbeats 4000000 in
theorem lf_N1 {d : Nat} {M : MB} {as : List Value} {r : Option Value} {x_sc : Int32} {x_ns : Int32} {x_bd : Int32} {x_no : Int32} {x_fu : Int32} {x_now : NetS} {x_tri : NetS} {x_s0 : NetS} {x_s1 : NetS} {x_s2 : NetS} {x_s3 : NetS} {x_s4 : NetS} {x_txt : TextS} {v : NetS} (h : mCall d M as (memN x_now) r (memN v)) : mCall d M (as.map (cV (mRo [1, 2, 3, 4, 5, 6, 7, 8, 9]))) (memRx x_sc x_ns x_bd x_no x_fu x_now x_tri x_s0 x_s1 x_s2 x_s3 x_s4 x_txt) (r.map (cV (mRo [1, 2, 3, 4, 5, 6, 7, 8, 9]))) (memRx x_sc x_ns x_bd x_no x_fu v x_tri x_s0 x_s1 x_s2 x_s3 x_s4 x_txt) := mCall.lift2 (d := d) (M := M) (as := as) (r := r) (μ := memN x_now) (μ' := memN v) (B := memRx x_sc x_ns x_bd x_no x_fu x_now x_tri x_s0 x_s1 x_s2 x_s3 x_s4 x_txt) (B' := memRx x_sc x_ns x_bd x_no x_fu v x_tri x_s0 x_s1 x_s2 x_s3 x_s4 x_txt) [1, 2, 3, 4, 5, 6, 7, 8, 9] [false, true, true, true, true, true, true, true, true, true, false, false, false, false, false, false, false, false, false, false, false, false, false, false, false, false, false, false, false, false, false, false, false, false, false, false, false, false, false, false, false, false, false, false, false, false, false, false, false, false, false, false, false, false, false, false, false, false, false, false, false, false, false, false, false, false, false, false] h rfl rfl rfl rfl (by decide +kernel) rfl rfl (by decide +kernel)
set_option maxRecDepth 100000 in
set_option maxHeartbeats 4000000 in
theorem lf_N10 {d : Nat} {M : MB} {as : List Value} {r : Option Value} {x_sc : Int32} {x_ns : Int32} {x_bd : Int32} {x_no : Int32} {x_fu : Int32} {x_now : NetS} {x_tri : NetS} {x_s0 : NetS} {x_s1 : NetS} {x_s2 : NetS} {x_s3 : NetS} {x_s4 : NetS} {x_txt : TextS} {v : NetS} (h : mCall d M as (memN x_tri) r (memN v)) : mCall d M (as.map (cV (mRo [10, 11, 12, 13, 14, 15, 16, 17, 18]))) (memRx x_sc x_ns x_bd x_no x_fu x_now x_tri x_s0 x_s1 x_s2 x_s3 x_s4 x_txt) (r.map (cV (mRo [10, 11, 12, 13, 14, 15, 16, 17, 18]))) (memRx x_sc x_ns x_bd x_no x_fu x_now v x_s0 x_s1 x_s2 x_s3 x_s4 x_txt) := mCall.lift2 (d := d) (M := M) (as := as) (r := r) (μ := memN x_tri) (μ' := memN v) (B := memRx x_sc x_ns x_bd x_no x_fu x_now x_tri x_s0 x_s1 x_s2 x_s3 x_s4 x_txt) (B' := memRx x_sc x_ns x_bd x_no x_fu x_now v x_s0 x_s1 x_s2 x_s3 x_s4 x_txt) [10, 11, 12, 13, 14, 15, 16, 17, 18] [false, false, false, false, false, false, false, false, false, false, true, true, true, true, true, true, true, true, true, false, false, false, false, false, false, false, false, false, false, false, false, false, false, false, false, false, false, false, false, false, false, false, false, false, false, false, false, false, false, false, false, false, false, false, false, false, false, false, false, false, false, false, false, false, false, false, false, false] h rfl rfl rfl rfl (by decide +kernel) rfl rfl (by decide +kernel)
set_option maxRecDepth 100000 in
set_option maxHeartbeats 4000000 in
theorem lf_NN10_1 {d : Nat} {M : MB} {as : List Value} {r : Option Value} {x_sc : Int32} {x_ns : Int32} {x_bd : Int32} {x_no : Int32} {x_fu : Int32} {x_now : NetS} {x_tri : NetS} {x_s0 : NetS} {x_s1 : NetS} {x_s2 : NetS} {x_s3 : NetS} {x_s4 : NetS} {x_txt : TextS} {v : NetS} (h : mCall d M as (memNN x_tri x_now) r (memNN v x_now)) : mCall d M (as.map (cV (mRo [10, 11, 12, 13, 14, 15, 16, 17, 18, 1, 2, 3, 4, 5, 6, 7, 8, 9]))) (memRx x_sc x_ns x_bd x_no x_fu x_now x_tri x_s0 x_s1 x_s2 x_s3 x_s4 x_txt) (r.map (cV (mRo [10, 11, 12, 13, 14, 15, 16, 17, 18, 1, 2, 3, 4, 5, 6, 7, 8, 9]))) (memRx x_sc x_ns x_bd x_no x_fu x_now v x_s0 x_s1 x_s2 x_s3 x_s4 x_txt) := mCall.lift2 (d := d) (M := M) (as := as) (r := r) (μ := memNN x_tri x_now) (μ' := memNN v x_now) (B := memRx x_sc x_ns x_bd x_no x_fu x_now x_tri x_s0 x_s1 x_s2 x_s3 x_s4 x_txt) (B' := memRx x_sc x_ns x_bd x_no x_fu x_now v x_s0 x_s1 x_s2 x_s3 x_s4 x_txt) [10, 11, 12, 13, 14, 15, 16, 17, 18, 1, 2, 3, 4, 5, 6, 7, 8, 9] [false, true, true, true, true, true, true, true, true, true, true, true, true, true, true, true, true, true, true, false, false, false, false, false, false, false, false, false, false, false, false, false, false, false, false, false, false, false, false, false, false, false, false, false, false, false, false, false, false, false, false, false, false, false, false, false, false, false, false, false, false, false, false, false, false, false, false, false] h rfl rfl rfl rfl (by decide +kernel) rfl rfl (by decide +kernel)
set_option maxRecDepth 100000 in
set_option maxHeartbeats 4000000 in
theorem lf_NN1_20 {d : Nat} {M : MB} {as : List Value} {r : Option Value} {x_sc : Int32} {x_ns : Int32} {x_bd : Int32} {x_no : Int32} {x_fu : Int32} {x_now : NetS} {x_tri : NetS} {x_s0 : NetS} {x_s1 : NetS} {x_s2 : NetS} {x_s3 : NetS} {x_s4 : NetS} {x_txt : TextS} {v : NetS} (h : mCall d M as (memNN x_now x_s0) r (memNN v x_s0)) : mCall d M (as.map (cV (mRo [1, 2, 3, 4, 5, 6, 7, 8, 9, 20, 21, 22, 23, 24, 25, 26, 27, 28]))) (memRx x_sc x_ns x_bd x_no x_fu x_now x_tri x_s0 x_s1 x_s2 x_s3 x_s4 x_txt) (r.map (cV (mRo [1, 2, 3, 4, 5, 6, 7, 8, 9, 20, 21, 22, 23, 24, 25, 26, 27, 28]))) (memRx x_sc x_ns x_bd x_no x_fu v x_tri x_s0 x_s1 x_s2 x_s3 x_s4 x_txt) := mCall.lift2 (d := d) (M := M) (as := as) (r := r) (μ := memNN x_now x_s0) (μ' := memNN v x_s0) (B := memRx x_sc x_ns x_bd x_no x_fu x_now x_tri x_s0 x_s1 x_s2 x_s3 x_s4 x_txt) (B' := memRx x_sc x_ns x_bd x_no x_fu v x_tri x_s0 x_s1 x_s2 x_s3 x_s4 x_txt) [1, 2, 3, 4, 5, 6, 7, 8, 9, 20, 21, 22, 23, 24, 25, 26, 27, 28] [false, true, true, true, true, true, true, true, true, true, false, false, false, false, false, false, false, false, false, false, true, true, true, true, true, true, true, true, true, false, false, false, false, false, false, false, false, false, false, false, false, false, false, false, false, false, false, false, false, false, false, false, false, false, false, false, false, false, false, false, false, false, false, false, false, false, false, false] h rfl rfl rfl rfl (by decide +kernel) rfl rfl (by decide +kernel)
set_option maxRecDepth 100000 in
set_option maxHeartbeats 4000000 in
theorem lf_NN1_29 {d : Nat} {M : MB} {as : List Value} {r : Option Value} {x_sc : Int32} {x_ns : Int32} {x_bd : Int32} {x_no : Int32} {x_fu : Int32} {x_now : NetS} {x_tri : NetS} {x_s0 : NetS} {x_s1 : NetS} {x_s2 : NetS} {x_s3 : NetS} {x_s4 : NetS} {x_txt : TextS} {v : NetS} (h : mCall d M as (memNN x_now x_s1) r (memNN v x_s1)) : mCall d M (as.map (cV (mRo [1, 2, 3, 4, 5, 6, 7, 8, 9, 29, 30, 31, 32, 33, 34, 35, 36, 37]))) (memRx x_sc x_ns x_bd x_no x_fu x_now x_tri x_s0 x_s1 x_s2 x_s3 x_s4 x_txt) (r.map (cV (mRo [1, 2, 3, 4, 5, 6, 7, 8, 9, 29, 30, 31, 32, 33, 34, 35, 36, 37]))) (memRx x_sc x_ns x_bd x_no x_fu v x_tri x_s0 x_s1 x_s2 x_s3 x_s4 x_txt) := mCall.lift2 (d := d) (M := M) (as := as) (r := r) (μ := memNN x_now x_s1) (μ' := memNN v x_s1) (B := memRx x_sc x_ns x_bd x_no x_fu x_now x_tri x_s0 x_s1 x_s2 x_s3 x_s4 x_txt) (B' := memRx x_sc x_ns x_bd x_no x_fu v x_tri x_s0 x_s1 x_s2 x_s3 x_s4 x_txt) [1, 2, 3, 4, 5, 6, 7, 8, 9, 29, 30, 31, 32, 33, 34, 35, 36, 37] [false, true, true, true, true, true, true, true, true, true, false, false, false, false, false, false, false, false, false, false, false, false, false, false, false, false, false, false, false, true, true, true, true, true, true, true, true, true, false, false, false, false, false, false, false, false, false, false, false, false, false, false, false, false, false, false, false, false, false, false, false, false, false, false, false, false, false, false] h rfl rfl rfl rfl (by decide +kernel) rfl rfl (by decide +kernel)
set_option maxRecDepth 100000 in
set_option maxHeartbeats 4000000 in
theorem lf_NN1_38 {d : Nat} {M : MB} {as : List Value} {r : Option Value} {x_sc : Int32} {x_ns : Int32} {x_bd : Int32} {x_no : Int32} {x_fu : Int32} {x_now : NetS} {x_tri : NetS} {x_s0 : NetS} {x_s1 : NetS} {x_s2 : NetS} {x_s3 : NetS} {x_s4 : NetS} {x_txt : TextS} {v : NetS} (h : mCall d M as (memNN x_now x_s2) r (memNN v x_s2)) : mCall d M (as.map (cV (mRo [1, 2, 3, 4, 5, 6, 7, 8, 9, 38, 39, 40, 41, 42, 43, 44, 45, 46]))) (memRx x_sc x_ns x_bd x_no x_fu x_now x_tri x_s0 x_s1 x_s2 x_s3 x_s4 x_txt) (r.map (cV (mRo [1, 2, 3, 4, 5, 6, 7, 8, 9, 38, 39, 40, 41, 42, 43, 44, 45, 46]))) (memRx x_sc x_ns x_bd x_no x_fu v x_tri x_s0 x_s1 x_s2 x_s3 x_s4 x_txt) := mCall.lift2 (d := d) (M := M) (as := as) (r := r) (μ := memNN x_now x_s2) (μ' := memNN v x_s2) (B := memRx x_sc x_ns x_bd x_no x_fu x_now x_tri x_s0 x_s1 x_s2 x_s3 x_s4 x_txt) (B' := memRx x_sc x_ns x_bd x_no x_fu v x_tri x_s0 x_s1 x_s2 x_s3 x_s4 x_txt) [1, 2, 3, 4, 5, 6, 7, 8, 9, 38, 39, 40, 41, 42, 43, 44, 45, 46] [false, true, true, true, true, true, true, true, true, true, false, false, false, false, false, false, false, false, false, false, false, false, false, false, false, false, false, false, false, false, false, false, false, false, false, false, false, false, true, true, true, true, true, true, true, true, true, false, false, false, false, false, false, false, false, false, false, false, false, false, false, false, false, false, false, false, false, false] h rfl rfl rfl rfl (by decide +kernel) rfl rfl (by decide +kernel)
set_option maxRecDepth 100000 in
set_option maxHeartbeats 4000000 in
theorem lf_NN1_47 {d : Nat} {M : MB} {as : List Value} {r : Option Value} {x_sc : Int32} {x_ns : Int32} {x_bd : Int32} {x_no : Int32} {x_fu : Int32} {x_now : NetS} {x_tri : NetS} {x_s0 : NetS} {x_s1 : NetS} {x_s2 : NetS} {x_s3 : NetS} {x_s4 : NetS} {x_txt : TextS} {v : NetS} (h : mCall d M as (memNN x_now x_s3) r (memNN v x_s3)) : mCall d M (as.map (cV (mRo [1, 2, 3, 4, 5, 6, 7, 8, 9, 47, 48, 49, 50, 51, 52, 53, 54, 55]))) (memRx x_sc x_ns x_bd x_no x_fu x_now x_tri x_s0 x_s1 x_s2 x_s3 x_s4 x_txt) (r.map (cV (mRo [1, 2, 3, 4, 5, 6, 7, 8, 9, 47, 48, 49, 50, 51, 52, 53, 54, 55]))) (memRx x_sc x_ns x_bd x_no x_fu v x_tri x_s0 x_s1 x_s2 x_s3 x_s4 x_txt) := mCall.lift2 (d := d) (M := M) (as := as) (r := r) (μ := memNN x_now x_s3) (μ' := memNN v x_s3) (B := memRx x_sc x_ns x_bd x_no x_fu x_now x_tri x_s0 x_s1 x_s2 x_s3 x_s4 x_txt) (B' := memRx x_sc x_ns x_bd x_no x_fu v x_tri x_s0 x_s1 x_s2 x_s3 x_s4 x_txt) [1, 2, 3, 4, 5, 6, 7, 8, 9, 47, 48, 49, 50, 51, 52, 53, 54, 55] [false, true, true, true, true, true, true, true, true, true, false, false, false, false, false, false, false, false, false, false, false, false, false, false, false, false, false, false, false, false, false, false, false, false, false, false, false, false, false, false, false, false, false, false, false, false, false, true, true, true, true, true, true, true, true, true, false, false, false, false, false, false, false, false, false, false, false, false] h rfl rfl rfl rfl (by decide +kernel) rfl rfl (by decide +kernel)
set_option maxRecDepth 100000 in
set_option maxHeartbeats 4000000 in
theorem lf_NN1_56 {d : Nat} {M : MB} {as : List Value} {r : Option Value} {x_sc : Int32} {x_ns : Int32} {x_bd : Int32} {x_no : Int32} {x_fu : Int32} {x_now : NetS} {x_tri : NetS} {x_s0 : NetS} {x_s1 : NetS} {x_s2 : NetS} {x_s3 : NetS} {x_s4 : NetS} {x_txt : TextS} {v : NetS} (h : mCall d M as (memNN x_now x_s4) r (memNN v x_s4)) : mCall d M (as.map (cV (mRo [1, 2, 3, 4, 5, 6, 7, 8, 9, 56, 57, 58, 59, 60, 61, 62, 63, 64]))) (memRx x_sc x_ns x_bd x_no x_fu x_now x_tri x_s0 x_s1 x_s2 x_s3 x_s4 x_txt) (r.map (cV (mRo [1, 2, 3, 4, 5, 6, 7, 8, 9, 56, 57, 58, 59, 60, 61, 62, 63, 64]))) (memRx x_sc x_ns x_bd x_no x_fu v x_tri x_s0 x_s1 x_s2 x_s3 x_s4 x_txt) := mCall.lift2 (d := d) (M := M) (as := as) (r := r) (μ := memNN x_now x_s4) (μ' := memNN v x_s4) (B := memRx x_sc x_ns x_bd x_no x_fu x_now x_tri x_s0 x_s1 x_s2 x_s3 x_s4 x_txt) (B' := memRx x_sc x_ns x_bd x_no x_fu v x_tri x_s0 x_s1 x_s2 x_s3 x_s4 x_txt) [1, 2, 3, 4, 5, 6, 7, 8, 9, 56, 57, 58, 59, 60, 61, 62, 63, 64] [false, true, true, true, true, true, true, true, true, true, false, false, false, false, false, false, false, false, false, false, false, false, false, false, false, false, false, false, false, false, false, false, false, false, false, false, false, false, false, false, false, false, false, false, false, false, false, false, false, false, false, false, false, false, false, false, true, true, true, true, true, true, true, true, true, false, false, false] h rfl rfl rfl rfl (by decide +kernel) rfl rfl (by decide +kernel)
set_option maxRecDepth 100000 in
set_option maxHeartbeats 4000000 in
theorem lf_NN20_1 {d : Nat} {M : MB} {as : List Value} {r : Option Value} {x_sc : Int32} {x_ns : Int32} {x_bd : Int32} {x_no : Int32} {x_fu : Int32} {x_now : NetS} {x_tri : NetS} {x_s0 : NetS} {x_s1 : NetS} {x_s2 : NetS} {x_s3 : NetS} {x_s4 : NetS} {x_txt : TextS} {v : NetS} (h : mCall d M as (memNN x_s0 x_now) r (memNN v x_now)) : mCall d M (as.map (cV (mRo [20, 21, 22, 23, 24, 25, 26, 27, 28, 1, 2, 3, 4, 5, 6, 7, 8, 9]))) (memRx x_sc x_ns x_bd x_no x_fu x_now x_tri x_s0 x_s1 x_s2 x_s3 x_s4 x_txt) (r.map (cV (mRo [20, 21, 22, 23, 24, 25, 26, 27, 28, 1, 2, 3, 4, 5, 6, 7, 8, 9]))) (memRx x_sc x_ns x_bd x_no x_fu x_now x_tri v x_s1 x_s2 x_s3 x_s4 x_txt) := mCall.lift2 (d := d) (M := M) (as := as) (r := r) (μ := memNN x_s0 x_now) (μ' := memNN v x_now) (B := memRx x_sc x_ns x_bd x_no x_fu x_now x_tri x_s0 x_s1 x_s2 x_s3 x_s4 x_txt) (B' := memRx x_sc x_ns x_bd x_no x_fu x_now x_tri v x_s1 x_s2 x_s3 x_s4 x_txt) [20, 21, 22, 23, 24, 25, 26, 27, 28, 1, 2, 3, 4, 5, 6, 7, 8, 9] [false, true, true, true, true, true, true, true, true, true, false, false, false, false, false, false, false, false, false, false, true, true, true, true, true, true, true, true, true, false, false, false, false, false, false, false, false, false, false, false, false, false, false, false, false, false, false, false, false, false, false, false, false, false, false, false, false, false, false, false, false, false, false, false, false, false, false, false] h rfl rfl rfl rfl (by decide +kernel) rfl rfl (by decide +kernel)
set_option maxRecDepth 100000 in
set_option maxHeartbeats 4000000 in
theorem lf_NN29_1 {d : Nat} {M : MB} {as : List Value} {r : Option Value} {x_sc : Int32} {x_ns : Int32} {x_bd : Int32} {x_no : Int32} {x_fu : Int32} {x_now : NetS} {x_tri : NetS} {x_s0 : NetS} {x_s1 : NetS} {x_s2 : NetS} {x_s3 : NetS} {x_s4 : NetS} {x_txt : TextS} {v : NetS} (h : mCall d M as (memNN x_s1 x_now) r (memNN v x_now)) : mCall d M (as.map (cV (mRo [29, 30, 31, 32, 33, 34, 35, 36, 37, 1, 2, 3, 4, 5, 6, 7, 8, 9]))) (memRx x_sc x_ns x_bd x_no x_fu x_now x_tri x_s0 x_s1 x_s2 x_s3 x_s4 x_txt) (r.map (cV (mRo [29, 30, 31, 32, 33, 34, 35, 36, 37, 1, 2, 3, 4, 5, 6, 7, 8, 9]))) (memRx x_sc x_ns x_bd x_no x_fu x_now x_tri x_s0 v x_s2 x_s3 x_s4 x_txt) := mCall.lift2 (d := d) (M := M) (as := as) (r := r) (μ := memNN x_s1 x_now) (μ' := memNN v x_now) (B := memRx x_sc x_ns x_bd x_no x_fu x_now x_tri x_s0 x_s1 x_s2 x_s3 x_s4 x_txt) (B' := memRx x_sc x_ns x_bd x_no x_fu x_now x_tri x_s0 v x_s2 x_s3 x_s4 x_txt) [29, 30, 31, 32, 33, 34, 35, 36, 37, 1, 2, 3, 4, 5, 6, 7, 8, 9] [false, true, true, true, true, true, true, true, true, true, false, false, false, false, false, false, false, false, false, false, false, false, false, false, false, false, false, false, false, true, true, true, true, true, true, true, true, true, false, false, false, false, false, false, false, false, false, false, false, false, false, false, false, false, false, false, false, false, false, false, false, false, false, false, false, false, false, false] h rfl rfl rfl rfl (by decide +kernel) rfl rfl (by decide +kernel)
set_option maxRecDepth 100000 in
set_option maxHeartbeats 4000000 in
theorem lf_NN38_1 {d : Nat} {M : MB} {as : List Value} {r : Option Value} {x_sc : Int32} {x_ns : Int32} {x_bd : Int32} {x_no : Int32} {x_fu : Int32} {x_now : NetS} {x_tri : NetS} {x_s0 : NetS} {x_s1 : NetS} {x_s2 : NetS} {x_s3 : NetS} {x_s4 : NetS} {x_txt : TextS} {v : NetS} (h : mCall d M as (memNN x_s2 x_now) r (memNN v x_now)) : mCall d M (as.map (cV (mRo [38, 39, 40, 41, 42, 43, 44, 45, 46, 1, 2, 3, 4, 5, 6, 7, 8, 9]))) (memRx x_sc x_ns x_bd x_no x_fu x_now x_tri x_s0 x_s1 x_s2 x_s3 x_s4 x_txt) (r.map (cV (mRo [38, 39, 40, 41, 42, 43, 44, 45, 46, 1, 2, 3, 4, 5, 6, 7, 8, 9]))) (memRx x_sc x_ns x_bd x_no x_fu x_now x_tri x_s0 x_s1 v x_s3 x_s4 x_txt) := mCall.lift2 (d := d) (M := M) (as := as) (r := r) (μ := memNN x_s2 x_now) (μ' := memNN v x_now) (B := memRx x_sc x_ns x_bd x_no x_fu x_now x_tri x_s0 x_s1 x_s2 x_s3 x_s4 x_txt) (B' := memRx x_sc x_ns x_bd x_no x_fu x_now x_tri x_s0 x_s1 v x_s3 x_s4 x_txt) [38, 39, 40, 41, 42, 43, 44, 45, 46, 1, 2, 3, 4, 5, 6, 7, 8, 9] [false, true, true, true, true, true, true, true, true, true, false, false, false, false, false, false, false, false, false, false, false, false, false, false, false, false, false, false, false, false, false, false, false, false, false, false, false, false, true, true, true, true, true, true, true, true, true, false, false, false, false, false, false, false, false, false, false, false, false, false, false, false, false, false, false, false, false, false] h rfl rfl rfl rfl (by decide +kernel) rfl rfl (by decide +kernel)
set_option maxRecDepth 100000 in
set_option maxHeartbeats 4000000 in
theorem lf_NN47_1 {d : Nat} {M : MB} {as : List Value} {r : Option Value} {x_sc : Int32} {x_ns : Int32} {x_bd : Int32} {x_no : Int32} {x_fu : Int32} {x_now : NetS} {x_tri : NetS} {x_s0 : NetS} {x_s1 : NetS} {x_s2 : NetS} {x_s3 : NetS} {x_s4 : NetS} {x_txt : TextS} {v : NetS} (h : mCall d M as (memNN x_s3 x_now) r (memNN v x_now)) : mCall d M (as.map (cV (mRo [47, 48, 49, 50, 51, 52, 53, 54, 55, 1, 2, 3, 4, 5, 6, 7, 8, 9]))) (memRx x_sc x_ns x_bd x_no x_fu x_now x_tri x_s0 x_s1 x_s2 x_s3 x_s4 x_txt) (r.map (cV (mRo [47, 48, 49, 50, 51, 52, 53, 54, 55, 1, 2, 3, 4, 5, 6, 7, 8, 9]))) (memRx x_sc x_ns x_bd x_no x_fu x_now x_tri x_s0 x_s1 x_s2 v x_s4 x_txt) := mCall.lift2 (d := d) (M := M) (as := as) (r := r) (μ := memNN x_s3 x_now) (μ' := memNN v x_now) (B := memRx x_sc x_ns x_bd x_no x_fu x_now x_tri x_s0 x_s1 x_s2 x_s3 x_s4 x_txt) (B' := memRx x_sc x_ns x_bd x_no x_fu x_now x_tri x_s0 x_s1 x_s2 v x_s4 x_txt) [47, 48, 49, 50, 51, 52, 53, 54, 55, 1, 2, 3, 4, 5, 6, 7, 8, 9] [false, true, true, true, true, true, true, true, true, true, false, false, false, false, false, false, false, false, false, false, false, false, false, false, false, false, false, false, false, false, false, false, false, false, false, false, false, false, false, false, false, false, false, false, false, false, false, true, true, true, true, true, true, true, true, true, false, false, false, false, false, false, false, false, false, false, false, false] h rfl rfl rfl rfl (by decide +kernel) rfl rfl (by decide +kernel)
set_option maxRecDepth 100000 in
set_option maxHeartbeats 4000000 in
theorem lf_NN56_1 {d : Nat} {M : MB} {as : List Value} {r : Option Value} {x_sc : Int32} {x_ns : Int32} {x_bd : Int32} {x_no : Int32} {x_fu : Int32} {x_now : NetS} {x_tri : NetS} {x_s0 : NetS} {x_s1 : NetS} {x_s2 : NetS} {x_s3 : NetS} {x_s4 : NetS} {x_txt : TextS} {v : NetS} (h : mCall d M as (memNN x_s4 x_now) r (memNN v x_now)) : mCall d M (as.map (cV (mRo [56, 57, 58, 59, 60, 61, 62, 63, 64, 1, 2, 3, 4, 5, 6, 7, 8, 9]))) (memRx x_sc x_ns x_bd x_no x_fu x_now x_tri x_s0 x_s1 x_s2 x_s3 x_s4 x_txt) (r.map (cV (mRo [56, 57, 58, 59, 60, 61, 62, 63, 64, 1, 2, 3, 4, 5, 6, 7, 8, 9]))) (memRx x_sc x_ns x_bd x_no x_fu x_now x_tri x_s0 x_s1 x_s2 x_s3 v x_txt) := mCall.lift2 (d := d) (M := M) (as := as) (r := r) (μ := memNN x_s4 x_now) (μ' := memNN v x_now) (B := memRx x_sc x_ns x_bd x_no x_fu x_now x_tri x_s0 x_s1 x_s2 x_s3 x_s4 x_txt) (B' := memRx x_sc x_ns x_bd x_no x_fu x_now x_tri x_s0 x_s1 x_s2 x_s3 v x_txt) [56, 57, 58, 59, 60, 61, 62, 63, 64, 1, 2, 3, 4, 5, 6, 7, 8, 9] [false, true, true, true, true, true, true, true, true, true, false, false, false, false, false, false, false, false, false, false, false, false, false, false, false, false, false, false, false, false, false, false, false, false, false, false, false, false, false, false, false, false, false, false, false, false, false, false, false, false, false, false, false, false, false, false, true, true, true, true, true, true, true, true, true, false, false, false] h rfl rfl rfl rfl (by decide +kernel) rfl rfl (by decide +kernel)
set_option maxRecDepth 100000 in
set_option maxHeartbeats 4000000 in
theorem lf_NO1_67 {d : Nat} {M : MB} {as : List Value} {r : Option Value} {x_sc : Int32} {x_ns : Int32} {x_bd : Int32} {x_no : Int32} {x_fu : Int32} {x_now : NetS} {x_tri : NetS} {x_s0 : NetS} {x_s1 : NetS} {x_s2 : NetS} {x_s3 : NetS} {x_s4 : NetS} {x_txt : TextS} {v : NetS} (h : mCall d M as (memNO x_now (gT_od x_txt)) r (memNO v (gT_od x_txt))) : mCall d M (as.map (cV (mRo [1, 2, 3, 4, 5, 6, 7, 8, 9, 67]))) (memRx x_sc x_ns x_bd x_no x_fu x_now x_tri x_s0 x_s1 x_s2 x_s3 x_s4 x_txt) (r.map (cV (mRo [1, 2, 3, 4, 5, 6, 7, 8, 9, 67]))) (memRx x_sc x_ns x_bd x_no x_fu v x_tri x_s0 x_s1 x_s2 x_s3 x_s4 x_txt) := mCall.lift2 (d := d) (M := M) (as := as) (r := r) (μ := memNO x_now (gT_od x_txt)) (μ' := memNO v (gT_od x_txt)) (B := memRx x_sc x_ns x_bd x_no x_fu x_now x_tri x_s0 x_s1 x_s2 x_s3 x_s4 x_txt) (B' := memRx x_sc x_ns x_bd x_no x_fu v x_tri x_s0 x_s1 x_s2 x_s3 x_s4 x_txt) [1, 2, 3, 4, 5, 6, 7, 8, 9, 67] [false, true, true, true, true, true, true, true, true, true, false, false, false, false, false, false, false, false, false, false, false, false, false, false, false, false, false, false, false, false, false, false, false, false, false, false, false, false, false, false, false, false, false, false, false, false, false, false, false, false, false, false, false, false, false, false, false, false, false, false, false, false, false, false, false, false, false, true] h rfl rfl rfl rfl (by decide +kernel) rfl rfl (by decide +kernel)
set_option maxRecDepth 100000 in
set_option maxHeartbeats 4000000 in
theorem lf_T65 {d : Nat} {M : MB} {as : List Value} {r : Option Value} {x_sc : Int32} {x_ns : Int32} {x_bd : Int32} {x_no : Int32} {x_fu : Int32} {x_now : NetS} {x_tri : NetS} {x_s0 : NetS} {x_s1 : NetS} {x_s2 : NetS} {x_s3 : NetS} {x_s4 : NetS} {x_txt : TextS} {v : TextS} (h : mCall d M as (memT x_txt) r (memT v)) : mCall d M (as.map (cV (mRo [65, 66, 67]))) (memRx x_sc x_ns x_bd x_no x_fu x_now x_tri x_s0 x_s1 x_s2 x_s3 x_s4 x_txt) (r.map (cV (mRo [65, 66, 67]))) (memRx x_sc x_ns x_bd x_no x_fu x_now x_tri x_s0 x_s1 x_s2 x_s3 x_s4 v) := mCall.lift2 (d := d) (M := M) (as := as) (r := r) (μ := memT x_txt) (μ' := memT v) (B := memRx x_sc x_ns x_bd x_no x_fu x_now x_tri x_s0 x_s1 x_s2 x_s3 x_s4 x_txt) (B' := memRx x_sc x_ns x_bd x_no x_fu x_now x_tri x_s0 x_s1 x_s2 x_s3 x_s4 v) [65, 66, 67] [false, false, false, false, false, false, false, false, false, false, false, false, false, false, false, false, false, false, false, false, false, false, false, false, false, false, false, false, false, false, false, false, false, false, false, false, false, false, false, false, false, false, false, false, false, false, false, false, false, false, false, false, false, false, false, false, false, false, false, false, false, false, false, false, false, true, true, true] h rfl rfl rfl rfl (by decide +kernel) rfl rfl (by decide +kernel)
end
section
def F_X2_within (p0 : Int32) (p1 : Int32) (p2 : Int32)  : Option (Int32) := if p0 < p1 then (some ((nI 0))) else (if p2 < p0 then (some ((nI 0))) else (some ((nI 1))))
set_option maxRecDepth 100000 in
theorem E_X2_within {d : Nat} {p0 : Int32} {p1 : Int32} {p2 : Int32} {μ : MMe} {q : Int32} (h : F_X2_within p0 p1 p2 = some q) : mEv d m_X2_within none (0, [], [some (.int p0), some (.int p1), some (.int p2)], [], μ) (some (.int q)) (μ) := by
  unfold F_X2_within at h
  refine mEv.br 4 (S1 := (14, [], [some (.int p0), some (.int p1), some (.int p2)], [], μ)) (S2 := (5, _, [some (.int p0), some (.int p1), some (.int p2)], [], μ)) rfl (fun c1 => ?_) (fun c1 => ?_)
  · have h := (if_pos c1).symm.trans h
    obtain rfl := Option.some.inj h
    exact mEv.stp 3 (S' := (15, _, [some (.int p0), some (.int p1), some (.int p2)], [.int (nI 0)], μ)) rfl (mEv.reti ⟨_, rfl, rfl⟩)
  · have h := (if_neg c1).symm.trans h
    refine mEv.br 3 (S1 := (14, [], [some (.int p0), some (.int p1), some (.int p2)], [], μ)) (S2 := (10, _, [some (.int p0), some (.int p1), some (.int p2)], [], μ)) rfl (fun c2 => ?_) (fun c2 => ?_)
    · have h := (if_pos c2).symm.trans h
      obtain rfl := Option.some.inj h
      exact mEv.stp 3 (S' := (15, _, [some (.int p0), some (.int p1), some (.int p2)], [.int (nI 0)], μ)) rfl (mEv.reti ⟨_, rfl, rfl⟩)
    · have h := (if_neg c2).symm.trans h
      obtain rfl := Option.some.inj h
      exact mEv.stp 3 (S' := (15, _, [some (.int p0), some (.int p1), some (.int p2)], [.int (nI 1)], μ)) rfl (mEv.reti ⟨_, rfl, rfl⟩)
theorem A_X2_within {d : Nat} {p0 : Int32} {p1 : Int32} {p2 : Int32} {μ : MMe} {q : Int32} (h : F_X2_within p0 p1 p2 = some q) : mCall d m_X2_within [.int p0, .int p1, .int p2] (μ) (some (.int q)) (μ) := mCall.intro ok_X2_within pl_X2_within rfl (E_X2_within (d := d) h)
def F_X2_refuse (p1 : Int32) (s : RouS) : Option (Int32 × RouS) := if ¬ p1 = (-nI 2) then (if ¬ p1 = (-nI 3) then (some ((p1, (mkR (gR_sc s) (gR_ns s) (gR_bd s) (gR_no s) ((gR_fu s) + (nI 1)) (gR_now s) (gR_tri s) (gR_s0 s) (gR_s1 s) (gR_s2 s) (gR_s3 s) (gR_s4 s) (gR_txt s))))) else (some ((p1, (mkR (gR_sc s) (gR_ns s) (gR_bd s) ((gR_no s) + (nI 1)) (gR_fu s) (gR_now s) (gR_tri s) (gR_s0 s) (gR_s1 s) (gR_s2 s) (gR_s3 s) (gR_s4 s) (gR_txt s)))))) else (some ((p1, (mkR (gR_sc s) (gR_ns s) ((gR_bd s) + (nI 1)) (gR_no s) (gR_fu s) (gR_now s) (gR_tri s) (gR_s0 s) (gR_s1 s) (gR_s2 s) (gR_s3 s) (gR_s4 s) (gR_txt s)))))
set_option maxRecDepth 100000 in
theorem E_X2_refuse {d : Nat} {p1 : Int32} {s : RouS} {q : Int32 × RouS} (h : F_X2_refuse p1 s = some q) : mEv d m_X2_refuse none (0, [], [some (.ref 0), some (.int p1)], [], memR s) (some (.int q.1)) (memR q.2) := by
  unfold F_X2_refuse at h
  refine mEv.br 4 (S1 := (19, [], [some (.ref 0), some (.int p1)], [], memR s)) (S2 := (6, _, [some (.ref 0), some (.int p1)], [], memR s)) rfl (fun c1 => ?_) (fun c1 => ?_)
  · have h := (if_pos c1).symm.trans h
    refine mEv.br 4 (S1 := (38, [], [some (.ref 0), some (.int p1)], [], memR s)) (S2 := (25, _, [some (.ref 0), some (.int p1)], [], memR s)) rfl (fun c2 => ?_) (fun c2 => ?_)
    · have h := (if_pos c2).symm.trans h
      obtain rfl := Option.some.inj h
      exact mEv.tgt memR_mk (mEv.stp 9 (S' := (49, _, [some (.ref 0), some (.int p1)], [.int p1], memRx (gR_sc s) (gR_ns s) (gR_bd s) (gR_no s) ((gR_fu s) + (nI 1)) (gR_now s) (gR_tri s) (gR_s0 s) (gR_s1 s) (gR_s2 s) (gR_s3 s) (gR_s4 s) (gR_txt s))) rfl (mEv.reti ⟨_, rfl, rfl⟩))
    · have h := (if_neg c2).symm.trans h
      obtain rfl := Option.some.inj h
      exact mEv.tgt memR_mk (mEv.stp 9 (S' := (49, _, [some (.ref 0), some (.int p1)], [.int p1], memRx (gR_sc s) (gR_ns s) (gR_bd s) ((gR_no s) + (nI 1)) (gR_fu s) (gR_now s) (gR_tri s) (gR_s0 s) (gR_s1 s) (gR_s2 s) (gR_s3 s) (gR_s4 s) (gR_txt s))) rfl (mEv.reti ⟨_, rfl, rfl⟩))
  · have h := (if_neg c1).symm.trans h
    obtain rfl := Option.some.inj h
    exact mEv.tgt memR_mk (mEv.stp 9 (S' := (49, _, [some (.ref 0), some (.int p1)], [.int p1], memRx (gR_sc s) (gR_ns s) ((gR_bd s) + (nI 1)) (gR_no s) (gR_fu s) (gR_now s) (gR_tri s) (gR_s0 s) (gR_s1 s) (gR_s2 s) (gR_s3 s) (gR_s4 s) (gR_txt s))) rfl (mEv.reti ⟨_, rfl, rfl⟩))
theorem A_X2_refuse {d : Nat} {p1 : Int32} {s : RouS} {q : Int32 × RouS} (h : F_X2_refuse p1 s = some q) : mCall d m_X2_refuse [.ref 0, .int p1] (memR s) (some (.int q.1)) (memR q.2) := mCall.intro ok_X2_refuse pl_X2_refuse rfl (E_X2_refuse (d := d) h)
def F_X2_keepState  (s : RouS) : Option (RouS) := gI (gR_ns s) 5 (if (gR_ns s) = (nI 0) then ((F_X0_copyFrom (gR_now s) (gR_s0 s)).bind (fun v3 => gZ (nI 5) (if (nI 5) ≤ (gR_sc s) then (some ((mkR (gR_sc s) (((gR_ns s) + (nI 1)) - ((gR_ns s) + (nI 1)) / (nI 5) * (nI 5)) (gR_bd s) (gR_no s) (gR_fu s) (gR_now s) (gR_tri s) v3 (gR_s1 s) (gR_s2 s) (gR_s3 s) (gR_s4 s) (gR_txt s)))) else (some ((mkR ((gR_sc s) + (nI 1)) (((gR_ns s) + (nI 1)) - ((gR_ns s) + (nI 1)) / (nI 5) * (nI 5)) (gR_bd s) (gR_no s) (gR_fu s) (gR_now s) (gR_tri s) v3 (gR_s1 s) (gR_s2 s) (gR_s3 s) (gR_s4 s) (gR_txt s))))))) else (if (gR_ns s) = (nI 1) then ((F_X0_copyFrom (gR_now s) (gR_s1 s)).bind (fun v8 => gZ (nI 5) (if (nI 5) ≤ (gR_sc s) then (some ((mkR (gR_sc s) (((gR_ns s) + (nI 1)) - ((gR_ns s) + (nI 1)) / (nI 5) * (nI 5)) (gR_bd s) (gR_no s) (gR_fu s) (gR_now s) (gR_tri s) (gR_s0 s) v8 (gR_s2 s) (gR_s3 s) (gR_s4 s) (gR_txt s)))) else (some ((mkR ((gR_sc s) + (nI 1)) (((gR_ns s) + (nI 1)) - ((gR_ns s) + (nI 1)) / (nI 5) * (nI 5)) (gR_bd s) (gR_no s) (gR_fu s) (gR_now s) (gR_tri s) (gR_s0 s) v8 (gR_s2 s) (gR_s3 s) (gR_s4 s) (gR_txt s))))))) else (if (gR_ns s) = (nI 2) then ((F_X0_copyFrom (gR_now s) (gR_s2 s)).bind (fun v13 => gZ (nI 5) (if (nI 5) ≤ (gR_sc s) then (some ((mkR (gR_sc s) (((gR_ns s) + (nI 1)) - ((gR_ns s) + (nI 1)) / (nI 5) * (nI 5)) (gR_bd s) (gR_no s) (gR_fu s) (gR_now s) (gR_tri s) (gR_s0 s) (gR_s1 s) v13 (gR_s3 s) (gR_s4 s) (gR_txt s)))) else (some ((mkR ((gR_sc s) + (nI 1)) (((gR_ns s) + (nI 1)) - ((gR_ns s) + (nI 1)) / (nI 5) * (nI 5)) (gR_bd s) (gR_no s) (gR_fu s) (gR_now s) (gR_tri s) (gR_s0 s) (gR_s1 s) v13 (gR_s3 s) (gR_s4 s) (gR_txt s))))))) else (if (gR_ns s) = (nI 3) then ((F_X0_copyFrom (gR_now s) (gR_s3 s)).bind (fun v18 => gZ (nI 5) (if (nI 5) ≤ (gR_sc s) then (some ((mkR (gR_sc s) (((gR_ns s) + (nI 1)) - ((gR_ns s) + (nI 1)) / (nI 5) * (nI 5)) (gR_bd s) (gR_no s) (gR_fu s) (gR_now s) (gR_tri s) (gR_s0 s) (gR_s1 s) (gR_s2 s) v18 (gR_s4 s) (gR_txt s)))) else (some ((mkR ((gR_sc s) + (nI 1)) (((gR_ns s) + (nI 1)) - ((gR_ns s) + (nI 1)) / (nI 5) * (nI 5)) (gR_bd s) (gR_no s) (gR_fu s) (gR_now s) (gR_tri s) (gR_s0 s) (gR_s1 s) (gR_s2 s) v18 (gR_s4 s) (gR_txt s))))))) else (if (gR_ns s) = (nI 4) then ((F_X0_copyFrom (gR_now s) (gR_s4 s)).bind (fun v23 => gZ (nI 5) (if (nI 5) ≤ (gR_sc s) then (some ((mkR (gR_sc s) (((gR_ns s) + (nI 1)) - ((gR_ns s) + (nI 1)) / (nI 5) * (nI 5)) (gR_bd s) (gR_no s) (gR_fu s) (gR_now s) (gR_tri s) (gR_s0 s) (gR_s1 s) (gR_s2 s) (gR_s3 s) v23 (gR_txt s)))) else (some ((mkR ((gR_sc s) + (nI 1)) (((gR_ns s) + (nI 1)) - ((gR_ns s) + (nI 1)) / (nI 5) * (nI 5)) (gR_bd s) (gR_no s) (gR_fu s) (gR_now s) (gR_tri s) (gR_s0 s) (gR_s1 s) (gR_s2 s) (gR_s3 s) v23 (gR_txt s))))))) else (none))))))
set_option maxRecDepth 100000 in
theorem E_X2_keepState {d : Nat}  {s : RouS} {q : RouS} (h : F_X2_keepState s = some q) : mEv (d + 2) m_X2_keepState none (0, [], [some (.ref 0)], [], memR s) none (memR q) := by
  unfold F_X2_keepState at h
  obtain ⟨g1, h⟩ := gI_some h
  refine mEv.gd 6 (S' := (9, _, [some (.ref 0)], [(va_rf (m_sts (Int32.toNatClampNeg (gR_ns s))))], memR s)) rfl g1 ?_
  by_cases c2 : (gR_ns s) = (nI 0)
  · have h := (if_pos c2).symm.trans h
    rw [show (va_rf (m_sts (Int32.toNatClampNeg (gR_ns s)))) = Value.ref 20 from by rw [c2]; rfl]
    refine mEv.stp 0 (S' := (9, _, [some (.ref 0)], [.ref 20], memR s)) rfl ?_
    refine mEv.stp 2 (S' := (13, _, [some (.ref 0)], [.ref 1, .ref 20], memR s)) rfl ?_
    obtain ⟨v3, e4, h⟩ := bnd h
    refine mEv.callV (As := [.ref 1]) (st := []) (h := 20) (r := none) (μ1 := memRx (gR_sc s) (gR_ns s) (gR_bd s) (gR_no s) (gR_fu s) (gR_now s) (gR_tri s) v3 (gR_s1 s) (gR_s2 s) (gR_s3 s) (gR_s4 s) (gR_txt s)) lk_X2_161 rfl rfl rfl rfl rfl (lf_NN20_1 (as := [.ref 0, .ref 9]) (r := none) (A_X0_copyFrom (d := d + 0) e4)) ?_
    refine mEv.stp 0 (S' := (16, _, [some (.ref 0)], [], memRx (gR_sc s) (gR_ns s) (gR_bd s) (gR_no s) (gR_fu s) (gR_now s) (gR_tri s) v3 (gR_s1 s) (gR_s2 s) (gR_s3 s) (gR_s4 s) (gR_txt s))) rfl ?_
    obtain ⟨g5, h⟩ := gZ_some h
    refine mEv.gd 7 (S' := (25, _, [some (.ref 0)], [.int (((gR_ns s) + (nI 1)) - ((gR_ns s) + (nI 1)) / (nI 5) * (nI 5)), .ref 0], memRx (gR_sc s) (gR_ns s) (gR_bd s) (gR_no s) (gR_fu s) (gR_now s) (gR_tri s) v3 (gR_s1 s) (gR_s2 s) (gR_s3 s) (gR_s4 s) (gR_txt s))) rfl g5 ?_
    refine mEv.br 5 (S1 := (46, [], [some (.ref 0)], [], memRx (gR_sc s) (((gR_ns s) + (nI 1)) - ((gR_ns s) + (nI 1)) / (nI 5) * (nI 5)) (gR_bd s) (gR_no s) (gR_fu s) (gR_now s) (gR_tri s) v3 (gR_s1 s) (gR_s2 s) (gR_s3 s) (gR_s4 s) (gR_txt s))) (S2 := (36, _, [some (.ref 0)], [], memRx (gR_sc s) (((gR_ns s) + (nI 1)) - ((gR_ns s) + (nI 1)) / (nI 5) * (nI 5)) (gR_bd s) (gR_no s) (gR_fu s) (gR_now s) (gR_tri s) v3 (gR_s1 s) (gR_s2 s) (gR_s3 s) (gR_s4 s) (gR_txt s))) rfl (fun c6 => ?_) (fun c6 => ?_)
    · have h := (if_pos c6).symm.trans h
      obtain rfl := Option.some.inj h
      exact mEv.tgt memR_mk (mEv.stp 1 (S' := (46, _, [some (.ref 0)], [], memRx (gR_sc s) (((gR_ns s) + (nI 1)) - ((gR_ns s) + (nI 1)) / (nI 5) * (nI 5)) (gR_bd s) (gR_no s) (gR_fu s) (gR_now s) (gR_tri s) v3 (gR_s1 s) (gR_s2 s) (gR_s3 s) (gR_s4 s) (gR_txt s))) rfl (mEv.retv rfl))
    · have h := (if_neg c6).symm.trans h
      obtain rfl := Option.some.inj h
      exact mEv.tgt memR_mk (mEv.stp 7 (S' := (46, _, [some (.ref 0)], [], memRx ((gR_sc s) + (nI 1)) (((gR_ns s) + (nI 1)) - ((gR_ns s) + (nI 1)) / (nI 5) * (nI 5)) (gR_bd s) (gR_no s) (gR_fu s) (gR_now s) (gR_tri s) v3 (gR_s1 s) (gR_s2 s) (gR_s3 s) (gR_s4 s) (gR_txt s))) rfl (mEv.retv rfl))
  · have h := (if_neg c2).symm.trans h
    by_cases c7 : (gR_ns s) = (nI 1)
    · have h := (if_pos c7).symm.trans h
      rw [show (va_rf (m_sts (Int32.toNatClampNeg (gR_ns s)))) = Value.ref 29 from by rw [c7]; rfl]
      refine mEv.stp 0 (S' := (9, _, [some (.ref 0)], [.ref 29], memR s)) rfl ?_
      refine mEv.stp 2 (S' := (13, _, [some (.ref 0)], [.ref 1, .ref 29], memR s)) rfl ?_
      obtain ⟨v8, e9, h⟩ := bnd h
      refine mEv.callV (As := [.ref 1]) (st := []) (h := 29) (r := none) (μ1 := memRx (gR_sc s) (gR_ns s) (gR_bd s) (gR_no s) (gR_fu s) (gR_now s) (gR_tri s) (gR_s0 s) v8 (gR_s2 s) (gR_s3 s) (gR_s4 s) (gR_txt s)) lk_X2_161 rfl rfl rfl rfl rfl (lf_NN29_1 (as := [.ref 0, .ref 9]) (r := none) (A_X0_copyFrom (d := d + 0) e9)) ?_
      refine mEv.stp 0 (S' := (16, _, [some (.ref 0)], [], memRx (gR_sc s) (gR_ns s) (gR_bd s) (gR_no s) (gR_fu s) (gR_now s) (gR_tri s) (gR_s0 s) v8 (gR_s2 s) (gR_s3 s) (gR_s4 s) (gR_txt s))) rfl ?_
      obtain ⟨g10, h⟩ := gZ_some h
      refine mEv.gd 7 (S' := (25, _, [some (.ref 0)], [.int (((gR_ns s) + (nI 1)) - ((gR_ns s) + (nI 1)) / (nI 5) * (nI 5)), .ref 0], memRx (gR_sc s) (gR_ns s) (gR_bd s) (gR_no s) (gR_fu s) (gR_now s) (gR_tri s) (gR_s0 s) v8 (gR_s2 s) (gR_s3 s) (gR_s4 s) (gR_txt s))) rfl g10 ?_
      refine mEv.br 5 (S1 := (46, [], [some (.ref 0)], [], memRx (gR_sc s) (((gR_ns s) + (nI 1)) - ((gR_ns s) + (nI 1)) / (nI 5) * (nI 5)) (gR_bd s) (gR_no s) (gR_fu s) (gR_now s) (gR_tri s) (gR_s0 s) v8 (gR_s2 s) (gR_s3 s) (gR_s4 s) (gR_txt s))) (S2 := (36, _, [some (.ref 0)], [], memRx (gR_sc s) (((gR_ns s) + (nI 1)) - ((gR_ns s) + (nI 1)) / (nI 5) * (nI 5)) (gR_bd s) (gR_no s) (gR_fu s) (gR_now s) (gR_tri s) (gR_s0 s) v8 (gR_s2 s) (gR_s3 s) (gR_s4 s) (gR_txt s))) rfl (fun c11 => ?_) (fun c11 => ?_)
      · have h := (if_pos c11).symm.trans h
        obtain rfl := Option.some.inj h
        exact mEv.tgt memR_mk (mEv.stp 1 (S' := (46, _, [some (.ref 0)], [], memRx (gR_sc s) (((gR_ns s) + (nI 1)) - ((gR_ns s) + (nI 1)) / (nI 5) * (nI 5)) (gR_bd s) (gR_no s) (gR_fu s) (gR_now s) (gR_tri s) (gR_s0 s) v8 (gR_s2 s) (gR_s3 s) (gR_s4 s) (gR_txt s))) rfl (mEv.retv rfl))
      · have h := (if_neg c11).symm.trans h
        obtain rfl := Option.some.inj h
        exact mEv.tgt memR_mk (mEv.stp 7 (S' := (46, _, [some (.ref 0)], [], memRx ((gR_sc s) + (nI 1)) (((gR_ns s) + (nI 1)) - ((gR_ns s) + (nI 1)) / (nI 5) * (nI 5)) (gR_bd s) (gR_no s) (gR_fu s) (gR_now s) (gR_tri s) (gR_s0 s) v8 (gR_s2 s) (gR_s3 s) (gR_s4 s) (gR_txt s))) rfl (mEv.retv rfl))
    · have h := (if_neg c7).symm.trans h
      by_cases c12 : (gR_ns s) = (nI 2)
      · have h := (if_pos c12).symm.trans h
        rw [show (va_rf (m_sts (Int32.toNatClampNeg (gR_ns s)))) = Value.ref 38 from by rw [c12]; rfl]
        refine mEv.stp 0 (S' := (9, _, [some (.ref 0)], [.ref 38], memR s)) rfl ?_
        refine mEv.stp 2 (S' := (13, _, [some (.ref 0)], [.ref 1, .ref 38], memR s)) rfl ?_
        obtain ⟨v13, e14, h⟩ := bnd h
        refine mEv.callV (As := [.ref 1]) (st := []) (h := 38) (r := none) (μ1 := memRx (gR_sc s) (gR_ns s) (gR_bd s) (gR_no s) (gR_fu s) (gR_now s) (gR_tri s) (gR_s0 s) (gR_s1 s) v13 (gR_s3 s) (gR_s4 s) (gR_txt s)) lk_X2_161 rfl rfl rfl rfl rfl (lf_NN38_1 (as := [.ref 0, .ref 9]) (r := none) (A_X0_copyFrom (d := d + 0) e14)) ?_
        refine mEv.stp 0 (S' := (16, _, [some (.ref 0)], [], memRx (gR_sc s) (gR_ns s) (gR_bd s) (gR_no s) (gR_fu s) (gR_now s) (gR_tri s) (gR_s0 s) (gR_s1 s) v13 (gR_s3 s) (gR_s4 s) (gR_txt s))) rfl ?_
        obtain ⟨g15, h⟩ := gZ_some h
        refine mEv.gd 7 (S' := (25, _, [some (.ref 0)], [.int (((gR_ns s) + (nI 1)) - ((gR_ns s) + (nI 1)) / (nI 5) * (nI 5)), .ref 0], memRx (gR_sc s) (gR_ns s) (gR_bd s) (gR_no s) (gR_fu s) (gR_now s) (gR_tri s) (gR_s0 s) (gR_s1 s) v13 (gR_s3 s) (gR_s4 s) (gR_txt s))) rfl g15 ?_
        refine mEv.br 5 (S1 := (46, [], [some (.ref 0)], [], memRx (gR_sc s) (((gR_ns s) + (nI 1)) - ((gR_ns s) + (nI 1)) / (nI 5) * (nI 5)) (gR_bd s) (gR_no s) (gR_fu s) (gR_now s) (gR_tri s) (gR_s0 s) (gR_s1 s) v13 (gR_s3 s) (gR_s4 s) (gR_txt s))) (S2 := (36, _, [some (.ref 0)], [], memRx (gR_sc s) (((gR_ns s) + (nI 1)) - ((gR_ns s) + (nI 1)) / (nI 5) * (nI 5)) (gR_bd s) (gR_no s) (gR_fu s) (gR_now s) (gR_tri s) (gR_s0 s) (gR_s1 s) v13 (gR_s3 s) (gR_s4 s) (gR_txt s))) rfl (fun c16 => ?_) (fun c16 => ?_)
        · have h := (if_pos c16).symm.trans h
          obtain rfl := Option.some.inj h
          exact mEv.tgt memR_mk (mEv.stp 1 (S' := (46, _, [some (.ref 0)], [], memRx (gR_sc s) (((gR_ns s) + (nI 1)) - ((gR_ns s) + (nI 1)) / (nI 5) * (nI 5)) (gR_bd s) (gR_no s) (gR_fu s) (gR_now s) (gR_tri s) (gR_s0 s) (gR_s1 s) v13 (gR_s3 s) (gR_s4 s) (gR_txt s))) rfl (mEv.retv rfl))
        · have h := (if_neg c16).symm.trans h
          obtain rfl := Option.some.inj h
          exact mEv.tgt memR_mk (mEv.stp 7 (S' := (46, _, [some (.ref 0)], [], memRx ((gR_sc s) + (nI 1)) (((gR_ns s) + (nI 1)) - ((gR_ns s) + (nI 1)) / (nI 5) * (nI 5)) (gR_bd s) (gR_no s) (gR_fu s) (gR_now s) (gR_tri s) (gR_s0 s) (gR_s1 s) v13 (gR_s3 s) (gR_s4 s) (gR_txt s))) rfl (mEv.retv rfl))
      · have h := (if_neg c12).symm.trans h
        by_cases c17 : (gR_ns s) = (nI 3)
        · have h := (if_pos c17).symm.trans h
          rw [show (va_rf (m_sts (Int32.toNatClampNeg (gR_ns s)))) = Value.ref 47 from by rw [c17]; rfl]
          refine mEv.stp 0 (S' := (9, _, [some (.ref 0)], [.ref 47], memR s)) rfl ?_
          refine mEv.stp 2 (S' := (13, _, [some (.ref 0)], [.ref 1, .ref 47], memR s)) rfl ?_
          obtain ⟨v18, e19, h⟩ := bnd h
          refine mEv.callV (As := [.ref 1]) (st := []) (h := 47) (r := none) (μ1 := memRx (gR_sc s) (gR_ns s) (gR_bd s) (gR_no s) (gR_fu s) (gR_now s) (gR_tri s) (gR_s0 s) (gR_s1 s) (gR_s2 s) v18 (gR_s4 s) (gR_txt s)) lk_X2_161 rfl rfl rfl rfl rfl (lf_NN47_1 (as := [.ref 0, .ref 9]) (r := none) (A_X0_copyFrom (d := d + 0) e19)) ?_
          refine mEv.stp 0 (S' := (16, _, [some (.ref 0)], [], memRx (gR_sc s) (gR_ns s) (gR_bd s) (gR_no s) (gR_fu s) (gR_now s) (gR_tri s) (gR_s0 s) (gR_s1 s) (gR_s2 s) v18 (gR_s4 s) (gR_txt s))) rfl ?_
          obtain ⟨g20, h⟩ := gZ_some h
          refine mEv.gd 7 (S' := (25, _, [some (.ref 0)], [.int (((gR_ns s) + (nI 1)) - ((gR_ns s) + (nI 1)) / (nI 5) * (nI 5)), .ref 0], memRx (gR_sc s) (gR_ns s) (gR_bd s) (gR_no s) (gR_fu s) (gR_now s) (gR_tri s) (gR_s0 s) (gR_s1 s) (gR_s2 s) v18 (gR_s4 s) (gR_txt s))) rfl g20 ?_
          refine mEv.br 5 (S1 := (46, [], [some (.ref 0)], [], memRx (gR_sc s) (((gR_ns s) + (nI 1)) - ((gR_ns s) + (nI 1)) / (nI 5) * (nI 5)) (gR_bd s) (gR_no s) (gR_fu s) (gR_now s) (gR_tri s) (gR_s0 s) (gR_s1 s) (gR_s2 s) v18 (gR_s4 s) (gR_txt s))) (S2 := (36, _, [some (.ref 0)], [], memRx (gR_sc s) (((gR_ns s) + (nI 1)) - ((gR_ns s) + (nI 1)) / (nI 5) * (nI 5)) (gR_bd s) (gR_no s) (gR_fu s) (gR_now s) (gR_tri s) (gR_s0 s) (gR_s1 s) (gR_s2 s) v18 (gR_s4 s) (gR_txt s))) rfl (fun c21 => ?_) (fun c21 => ?_)
          · have h := (if_pos c21).symm.trans h
            obtain rfl := Option.some.inj h
            exact mEv.tgt memR_mk (mEv.stp 1 (S' := (46, _, [some (.ref 0)], [], memRx (gR_sc s) (((gR_ns s) + (nI 1)) - ((gR_ns s) + (nI 1)) / (nI 5) * (nI 5)) (gR_bd s) (gR_no s) (gR_fu s) (gR_now s) (gR_tri s) (gR_s0 s) (gR_s1 s) (gR_s2 s) v18 (gR_s4 s) (gR_txt s))) rfl (mEv.retv rfl))
          · have h := (if_neg c21).symm.trans h
            obtain rfl := Option.some.inj h
            exact mEv.tgt memR_mk (mEv.stp 7 (S' := (46, _, [some (.ref 0)], [], memRx ((gR_sc s) + (nI 1)) (((gR_ns s) + (nI 1)) - ((gR_ns s) + (nI 1)) / (nI 5) * (nI 5)) (gR_bd s) (gR_no s) (gR_fu s) (gR_now s) (gR_tri s) (gR_s0 s) (gR_s1 s) (gR_s2 s) v18 (gR_s4 s) (gR_txt s))) rfl (mEv.retv rfl))
        · have h := (if_neg c17).symm.trans h
          by_cases c22 : (gR_ns s) = (nI 4)
          · have h := (if_pos c22).symm.trans h
            rw [show (va_rf (m_sts (Int32.toNatClampNeg (gR_ns s)))) = Value.ref 56 from by rw [c22]; rfl]
            refine mEv.stp 0 (S' := (9, _, [some (.ref 0)], [.ref 56], memR s)) rfl ?_
            refine mEv.stp 2 (S' := (13, _, [some (.ref 0)], [.ref 1, .ref 56], memR s)) rfl ?_
            obtain ⟨v23, e24, h⟩ := bnd h
            refine mEv.callV (As := [.ref 1]) (st := []) (h := 56) (r := none) (μ1 := memRx (gR_sc s) (gR_ns s) (gR_bd s) (gR_no s) (gR_fu s) (gR_now s) (gR_tri s) (gR_s0 s) (gR_s1 s) (gR_s2 s) (gR_s3 s) v23 (gR_txt s)) lk_X2_161 rfl rfl rfl rfl rfl (lf_NN56_1 (as := [.ref 0, .ref 9]) (r := none) (A_X0_copyFrom (d := d + 0) e24)) ?_
            refine mEv.stp 0 (S' := (16, _, [some (.ref 0)], [], memRx (gR_sc s) (gR_ns s) (gR_bd s) (gR_no s) (gR_fu s) (gR_now s) (gR_tri s) (gR_s0 s) (gR_s1 s) (gR_s2 s) (gR_s3 s) v23 (gR_txt s))) rfl ?_
            obtain ⟨g25, h⟩ := gZ_some h
            refine mEv.gd 7 (S' := (25, _, [some (.ref 0)], [.int (((gR_ns s) + (nI 1)) - ((gR_ns s) + (nI 1)) / (nI 5) * (nI 5)), .ref 0], memRx (gR_sc s) (gR_ns s) (gR_bd s) (gR_no s) (gR_fu s) (gR_now s) (gR_tri s) (gR_s0 s) (gR_s1 s) (gR_s2 s) (gR_s3 s) v23 (gR_txt s))) rfl g25 ?_
            refine mEv.br 5 (S1 := (46, [], [some (.ref 0)], [], memRx (gR_sc s) (((gR_ns s) + (nI 1)) - ((gR_ns s) + (nI 1)) / (nI 5) * (nI 5)) (gR_bd s) (gR_no s) (gR_fu s) (gR_now s) (gR_tri s) (gR_s0 s) (gR_s1 s) (gR_s2 s) (gR_s3 s) v23 (gR_txt s))) (S2 := (36, _, [some (.ref 0)], [], memRx (gR_sc s) (((gR_ns s) + (nI 1)) - ((gR_ns s) + (nI 1)) / (nI 5) * (nI 5)) (gR_bd s) (gR_no s) (gR_fu s) (gR_now s) (gR_tri s) (gR_s0 s) (gR_s1 s) (gR_s2 s) (gR_s3 s) v23 (gR_txt s))) rfl (fun c26 => ?_) (fun c26 => ?_)
            · have h := (if_pos c26).symm.trans h
              obtain rfl := Option.some.inj h
              exact mEv.tgt memR_mk (mEv.stp 1 (S' := (46, _, [some (.ref 0)], [], memRx (gR_sc s) (((gR_ns s) + (nI 1)) - ((gR_ns s) + (nI 1)) / (nI 5) * (nI 5)) (gR_bd s) (gR_no s) (gR_fu s) (gR_now s) (gR_tri s) (gR_s0 s) (gR_s1 s) (gR_s2 s) (gR_s3 s) v23 (gR_txt s))) rfl (mEv.retv rfl))
            · have h := (if_neg c26).symm.trans h
              obtain rfl := Option.some.inj h
              exact mEv.tgt memR_mk (mEv.stp 7 (S' := (46, _, [some (.ref 0)], [], memRx ((gR_sc s) + (nI 1)) (((gR_ns s) + (nI 1)) - ((gR_ns s) + (nI 1)) / (nI 5) * (nI 5)) (gR_bd s) (gR_no s) (gR_fu s) (gR_now s) (gR_tri s) (gR_s0 s) (gR_s1 s) (gR_s2 s) (gR_s3 s) v23 (gR_txt s))) rfl (mEv.retv rfl))
          · have h := (if_neg c22).symm.trans h
            cases h
theorem A_X2_keepState {d : Nat}  {s : RouS} {q : RouS} (h : F_X2_keepState s = some q) : mCall (d + 2) m_X2_keepState [.ref 0] (memR s) none (memR q) := mCall.intro ok_X2_keepState pl_X2_keepState rfl (E_X2_keepState (d := d) h)
def F_X2_towns (p1 : Int32) (s : RouS) : Option (Int32 × RouS) := (F_X2_within p1 (nI 3) (nI 6)).bind (fun v1 => if ¬ v1 = (nI 0) then ((F_X2_keepState s).bind (fun v4 => (F_X0_begin p1 (gR_now v4)).bind (fun v6 => some (((gN_tc (gR_now v4)), (mkR (gR_sc v4) (gR_ns v4) (gR_bd v4) (gR_no v4) (gR_fu v4) v6 (gR_tri v4) (gR_s0 v4) (gR_s1 v4) (gR_s2 v4) (gR_s3 v4) (gR_s4 v4) (gR_txt v4))))))) else ((F_X2_refuse (-nI 2) s).bind (fun v8 => some ((v8.1, v8.2)))))
set_option maxRecDepth 100000 in
theorem E_X2_towns {d : Nat} {p1 : Int32} {s : RouS} {q : Int32 × RouS} (h : F_X2_towns p1 s = some q) : mEv (d + 3) m_X2_towns none (0, [], [some (.ref 0), some (.int p1), none], [], memR s) (some (.int q.1)) (memR q.2) := by
  unfold F_X2_towns at h
  refine mEv.stp 4 (S' := (4, _, [some (.ref 0), some (.int p1), none], [.int (nI 6), .int (nI 3), .int p1], memR s)) rfl ?_
  obtain ⟨v1, e2, h⟩ := bnd h
  refine mEv.callS (As := [.int p1, .int (nI 3), .int (nI 6)]) (st := []) (r := (some (.int v1))) (μ1 := memR s) lk_X2_30 rfl rfl rfl (A_X2_within (d := d + 2) e2) ?_
  refine mEv.stp 0 (S' := (7, _, [some (.ref 0), some (.int p1), none], [.int v1], memR s)) rfl ?_
  refine mEv.br 1 (S1 := (17, [], [some (.ref 0), some (.int p1), none], [], memR s)) (S2 := (10, _, [some (.ref 0), some (.int p1), none], [], memR s)) rfl (fun c3 => ?_) (fun c3 => ?_)
  · have h := (if_pos c3).symm.trans h
    refine mEv.stp 2 (S' := (18, _, [some (.ref 0), some (.int p1), none], [.ref 0], memR s)) rfl ?_
    obtain ⟨v4, e5, h⟩ := bnd h
    refine mEv.callV (As := []) (st := []) (h := 0) (r := none) (μ1 := memR v4) lk_X2_38 rfl rfl rfl rfl rfl (A_X2_keepState (d := d + 0) e5) ?_
    refine mEv.stp 0 (S' := (21, _, [some (.ref 0), some (.int p1), none], [], memR v4)) rfl ?_
    refine mEv.stp 7 (S' := (34, _, [some (.ref 0), some (.int p1), some (.int (gN_tc (gR_now v4)))], [.int p1, .ref 1], memR v4)) rfl ?_
    obtain ⟨v6, e7, h⟩ := bnd h
    refine mEv.callV (As := [.int p1]) (st := []) (h := 1) (r := none) (μ1 := memRx (gR_sc v4) (gR_ns v4) (gR_bd v4) (gR_no v4) (gR_fu v4) v6 (gR_tri v4) (gR_s0 v4) (gR_s1 v4) (gR_s2 v4) (gR_s3 v4) (gR_s4 v4) (gR_txt v4)) lk_X2_45 rfl rfl rfl rfl rfl (lf_N1 (as := [.ref 0, .int p1]) (r := none) (A_X0_begin (d := d + 1) e7)) ?_
    refine mEv.stp 0 (S' := (37, _, [some (.ref 0), some (.int p1), some (.int (gN_tc (gR_now v4)))], [], memRx (gR_sc v4) (gR_ns v4) (gR_bd v4) (gR_no v4) (gR_fu v4) v6 (gR_tri v4) (gR_s0 v4) (gR_s1 v4) (gR_s2 v4) (gR_s3 v4) (gR_s4 v4) (gR_txt v4))) rfl ?_
    obtain rfl := Option.some.inj h
    exact mEv.tgt memR_mk (mEv.stp 1 (S' := (38, _, [some (.ref 0), some (.int p1), some (.int (gN_tc (gR_now v4)))], [.int (gN_tc (gR_now v4))], memRx (gR_sc v4) (gR_ns v4) (gR_bd v4) (gR_no v4) (gR_fu v4) v6 (gR_tri v4) (gR_s0 v4) (gR_s1 v4) (gR_s2 v4) (gR_s3 v4) (gR_s4 v4) (gR_txt v4))) rfl (mEv.reti ⟨_, rfl, rfl⟩))
  · have h := (if_neg c3).symm.trans h
    refine mEv.stp 2 (S' := (13, _, [some (.ref 0), some (.int p1), none], [.int (-nI 2), .ref 0], memR s)) rfl ?_
    obtain ⟨v8, e9, h⟩ := bnd h
    refine mEv.callV (As := [.int (-nI 2)]) (st := []) (h := 0) (r := (some (.int v8.1))) (μ1 := memR v8.2) lk_X2_34 rfl rfl rfl rfl rfl (A_X2_refuse (d := d + 2) e9) ?_
    refine mEv.stp 0 (S' := (16, _, [some (.ref 0), some (.int p1), none], [.int v8.1], memR v8.2)) rfl ?_
    obtain rfl := Option.some.inj h
    exact mEv.reti ⟨_, rfl, rfl⟩
theorem A_X2_towns {d : Nat} {p1 : Int32} {s : RouS} {q : Int32 × RouS} (h : F_X2_towns p1 s = some q) : mCall (d + 3) m_X2_towns [.ref 0, .int p1] (memR s) (some (.int q.1)) (memR q.2) := mCall.intro ok_X2_towns pl_X2_towns rfl (E_X2_towns (d := d) h)
def F_X2_isPair (p1 : Int32) (p2 : Int32) (s : RouS) : Option (Int32) := if p1 = p2 then (some ((nI 0))) else ((F_X2_within p1 (nI 0) ((gN_tc (gR_now s)) - (nI 1))).bind (fun v2 => if v2 = (nI 0) then (some ((nI 0))) else ((F_X2_within p2 (nI 0) ((gN_tc (gR_now s)) - (nI 1))).bind (fun v5 => if v5 = (nI 0) then (some ((nI 0))) else (some ((nI 1)))))))
set_option maxRecDepth 100000 in
theorem E_X2_isPair {d : Nat} {p1 : Int32} {p2 : Int32} {s : RouS} {q : Int32} (h : F_X2_isPair p1 p2 s = some q) : mEv (d + 1) m_X2_isPair none (0, [], [some (.ref 0), some (.int p1), some (.int p2)], [], memR s) (some (.int q)) (memR s) := by
  unfold F_X2_isPair at h
  refine mEv.br 4 (S1 := (43, [], [some (.ref 0), some (.int p1), some (.int p2)], [], memR s)) (S2 := (5, _, [some (.ref 0), some (.int p1), some (.int p2)], [], memR s)) rfl (fun c1 => ?_) (fun c1 => ?_)
  · have h := (if_pos c1).symm.trans h
    obtain rfl := Option.some.inj h
    exact mEv.stp 3 (S' := (44, _, [some (.ref 0), some (.int p1), some (.int p2)], [.int (nI 0)], memR s)) rfl (mEv.reti ⟨_, rfl, rfl⟩)
  · have h := (if_neg c1).symm.trans h
    refine mEv.stp 7 (S' := (16, _, [some (.ref 0), some (.int p1), some (.int p2)], [.int ((gN_tc (gR_now s)) - (nI 1)), .int (nI 0), .int p1], memR s)) rfl ?_
    obtain ⟨v2, e3, h⟩ := bnd h
    refine mEv.callS (As := [.int p1, .int (nI 0), .int ((gN_tc (gR_now s)) - (nI 1))]) (st := []) (r := (some (.int v2))) (μ1 := memR s) lk_X2_30 rfl rfl rfl (A_X2_within (d := d + 0) e3) ?_
    refine mEv.stp 0 (S' := (19, _, [some (.ref 0), some (.int p1), some (.int p2)], [.int v2], memR s)) rfl ?_
    refine mEv.br 1 (S1 := (43, [], [some (.ref 0), some (.int p1), some (.int p2)], [], memR s)) (S2 := (22, _, [some (.ref 0), some (.int p1), some (.int p2)], [], memR s)) rfl (fun c4 => ?_) (fun c4 => ?_)
    · have h := (if_pos c4).symm.trans h
      obtain rfl := Option.some.inj h
      exact mEv.stp 3 (S' := (44, _, [some (.ref 0), some (.int p1), some (.int p2)], [.int (nI 0)], memR s)) rfl (mEv.reti ⟨_, rfl, rfl⟩)
    · have h := (if_neg c4).symm.trans h
      refine mEv.stp 7 (S' := (33, _, [some (.ref 0), some (.int p1), some (.int p2)], [.int ((gN_tc (gR_now s)) - (nI 1)), .int (nI 0), .int p2], memR s)) rfl ?_
      obtain ⟨v5, e6, h⟩ := bnd h
      refine mEv.callS (As := [.int p2, .int (nI 0), .int ((gN_tc (gR_now s)) - (nI 1))]) (st := []) (r := (some (.int v5))) (μ1 := memR s) lk_X2_30 rfl rfl rfl (A_X2_within (d := d + 0) e6) ?_
      refine mEv.stp 0 (S' := (36, _, [some (.ref 0), some (.int p1), some (.int p2)], [.int v5], memR s)) rfl ?_
      refine mEv.br 1 (S1 := (43, [], [some (.ref 0), some (.int p1), some (.int p2)], [], memR s)) (S2 := (39, _, [some (.ref 0), some (.int p1), some (.int p2)], [], memR s)) rfl (fun c7 => ?_) (fun c7 => ?_)
      · have h := (if_pos c7).symm.trans h
        obtain rfl := Option.some.inj h
        exact mEv.stp 3 (S' := (44, _, [some (.ref 0), some (.int p1), some (.int p2)], [.int (nI 0)], memR s)) rfl (mEv.reti ⟨_, rfl, rfl⟩)
      · have h := (if_neg c7).symm.trans h
        obtain rfl := Option.some.inj h
        exact mEv.stp 3 (S' := (44, _, [some (.ref 0), some (.int p1), some (.int p2)], [.int (nI 1)], memR s)) rfl (mEv.reti ⟨_, rfl, rfl⟩)
theorem A_X2_isPair {d : Nat} {p1 : Int32} {p2 : Int32} {s : RouS} {q : Int32} (h : F_X2_isPair p1 p2 s = some q) : mCall (d + 1) m_X2_isPair [.ref 0, .int p1, .int p2] (memR s) (some (.int q)) (memR s) := mCall.intro ok_X2_isPair pl_X2_isPair rfl (E_X2_isPair (d := d) h)
def J_X2_link_29  (s : RouS) : Option (Int32 × RouS) := (F_X2_refuse (-nI 2) s).bind (fun v4 => some ((v4.1, v4.2)))
set_option maxRecDepth 100000 in
theorem K_X2_link_29 {d : Nat}  {s : RouS} {q : Int32 × RouS} (h : J_X2_link_29 s = some q) : mEv (d + 3) m_X2_link none (29, [], [some (.ref 0), none, none, none, none, none, none, none], [], memR s) (some (.int q.1)) (memR q.2) := by
  unfold J_X2_link_29 at h
  refine mEv.stp 3 (S' := (32, _, [some (.ref 0), none, none, none, none, none, none, none], [.int (-nI 2), .ref 0], memR s)) rfl ?_
  obtain ⟨v4, e5, h⟩ := bnd h
  refine mEv.callV (As := [.int (-nI 2)]) (st := []) (h := 0) (r := (some (.int v4.1))) (μ1 := memR v4.2) lk_X2_34 rfl rfl rfl rfl rfl (A_X2_refuse (d := d + 2) e5) ?_
  refine mEv.stp 0 (S' := (35, _, [some (.ref 0), none, none, none, none, none, none, none], [.int v4.1], memR v4.2)) rfl ?_
  obtain rfl := Option.some.inj h
  exact mEv.reti ⟨_, rfl, rfl⟩
def J_X2_link_61 (x1 : Int32) (x2 : Int32) (x4 : Int32) (s : RouS) : Option (Int32 × RouS) := (F_X0_linkCell x1 x2).bind (fun v15 => gI v15 36 (gI v15 36 (some ((((gN_r (gR_now s)) (Int32.toNatClampNeg v15)), (mkR (gR_sc s) (gR_ns s) (gR_bd s) (gR_no s) (gR_fu s) (mkN (gN_tc (gR_now s)) (gN_hb (gR_now s)) (gN_x (gR_now s)) (gN_hg (gR_now s)) (gN_cc (gR_now s)) (gN_w (gR_now s)) (upd (gN_r (gR_now s)) (Int32.toNatClampNeg v15) x4) (gN_hd (gR_now s)) (gN_st (gR_now s)) (gN_ct (gR_now s)) (gN_tt (gR_now s)) (gN_ld (gR_now s)) (gN_ca (gR_now s))) (gR_tri s) (gR_s0 s) (gR_s1 s) (gR_s2 s) (gR_s3 s) (gR_s4 s) (gR_txt s)))))))
set_option maxRecDepth 100000 in
theorem K_X2_link_61 {d : Nat} {x1 : Int32} {x2 : Int32} {x4 : Int32} {s : RouS} {q : Int32 × RouS} (h : J_X2_link_61 x1 x2 x4 s = some q) : mEv (d + 3) m_X2_link none (61, [], [none, some (.int x1), some (.int x2), none, some (.int x4), none, none, none], [.ref 3], memR s) (some (.int q.1)) (memR q.2) := by
  unfold J_X2_link_61 at h
  refine mEv.stp 4 (S' := (65, _, [none, some (.int x1), some (.int x2), none, some (.int x4), some (.ref 3), none, none], [.int x2, .int x1], memR s)) rfl ?_
  obtain ⟨v15, e16, h⟩ := bnd h
  refine mEv.callS (As := [.int x1, .int x2]) (st := []) (r := (some (.int v15))) (μ1 := memR s) lk_X2_60 rfl rfl rfl (A_X0_linkCell (d := d + 2) e16) ?_
  refine mEv.stp 0 (S' := (68, _, [none, some (.int x1), some (.int x2), none, some (.int x4), some (.ref 3), none, none], [.int v15], memR s)) rfl ?_
  obtain ⟨g17, h⟩ := gI_some h
  refine mEv.gd 4 (S' := (75, _, [none, some (.int x1), some (.int x2), none, some (.int x4), some (.ref 3), some (.int v15), none], [.int ((gN_r (gR_now s)) (Int32.toNatClampNeg v15))], memR s)) rfl g17 ?_
  obtain ⟨g18, h⟩ := gI_some h
  refine mEv.gd 5 (S' := (84, _, [none, some (.int x1), some (.int x2), none, some (.int x4), some (.ref 3), some (.int v15), some (.int ((gN_r (gR_now s)) (Int32.toNatClampNeg v15)))], [], memRx (gR_sc s) (gR_ns s) (gR_bd s) (gR_no s) (gR_fu s) (mkN (gN_tc (gR_now s)) (gN_hb (gR_now s)) (gN_x (gR_now s)) (gN_hg (gR_now s)) (gN_cc (gR_now s)) (gN_w (gR_now s)) (upd (gN_r (gR_now s)) (Int32.toNatClampNeg v15) x4) (gN_hd (gR_now s)) (gN_st (gR_now s)) (gN_ct (gR_now s)) (gN_tt (gR_now s)) (gN_ld (gR_now s)) (gN_ca (gR_now s))) (gR_tri s) (gR_s0 s) (gR_s1 s) (gR_s2 s) (gR_s3 s) (gR_s4 s) (gR_txt s))) rfl g18 ?_
  obtain rfl := Option.some.inj h
  exact mEv.tgt memR_mk (mEv.stp 1 (S' := (86, _, [none, some (.int x1), some (.int x2), none, some (.int x4), some (.ref 3), some (.int v15), some (.int ((gN_r (gR_now s)) (Int32.toNatClampNeg v15)))], [.int ((gN_r (gR_now s)) (Int32.toNatClampNeg v15))], memRx (gR_sc s) (gR_ns s) (gR_bd s) (gR_no s) (gR_fu s) (mkN (gN_tc (gR_now s)) (gN_hb (gR_now s)) (gN_x (gR_now s)) (gN_hg (gR_now s)) (gN_cc (gR_now s)) (gN_w (gR_now s)) (upd (gN_r (gR_now s)) (Int32.toNatClampNeg v15) x4) (gN_hd (gR_now s)) (gN_st (gR_now s)) (gN_ct (gR_now s)) (gN_tt (gR_now s)) (gN_ld (gR_now s)) (gN_ca (gR_now s))) (gR_tri s) (gR_s0 s) (gR_s1 s) (gR_s2 s) (gR_s3 s) (gR_s4 s) (gR_txt s))) rfl (mEv.reti ⟨_, rfl, rfl⟩))
def J_X2_link_61_2 (x1 : Int32) (x2 : Int32) (x4 : Int32) (s : RouS) : Option (Int32 × RouS) := (F_X0_linkCell x1 x2).bind (fun v19 => gI v19 36 (gI v19 36 (some ((((gN_w (gR_now s)) (Int32.toNatClampNeg v19)), (mkR (gR_sc s) (gR_ns s) (gR_bd s) (gR_no s) (gR_fu s) (mkN (gN_tc (gR_now s)) (gN_hb (gR_now s)) (gN_x (gR_now s)) (gN_hg (gR_now s)) (gN_cc (gR_now s)) (upd (gN_w (gR_now s)) (Int32.toNatClampNeg v19) x4) (gN_r (gR_now s)) (gN_hd (gR_now s)) (gN_st (gR_now s)) (gN_ct (gR_now s)) (gN_tt (gR_now s)) (gN_ld (gR_now s)) (gN_ca (gR_now s))) (gR_tri s) (gR_s0 s) (gR_s1 s) (gR_s2 s) (gR_s3 s) (gR_s4 s) (gR_txt s)))))))
set_option maxRecDepth 100000 in
theorem K_X2_link_61_2 {d : Nat} {x1 : Int32} {x2 : Int32} {x4 : Int32} {s : RouS} {q : Int32 × RouS} (h : J_X2_link_61_2 x1 x2 x4 s = some q) : mEv (d + 3) m_X2_link none (61, [], [none, some (.int x1), some (.int x2), none, some (.int x4), none, none, none], [.ref 2], memR s) (some (.int q.1)) (memR q.2) := by
  unfold J_X2_link_61_2 at h
  refine mEv.stp 4 (S' := (65, _, [none, some (.int x1), some (.int x2), none, some (.int x4), some (.ref 2), none, none], [.int x2, .int x1], memR s)) rfl ?_
  obtain ⟨v19, e20, h⟩ := bnd h
  refine mEv.callS (As := [.int x1, .int x2]) (st := []) (r := (some (.int v19))) (μ1 := memR s) lk_X2_60 rfl rfl rfl (A_X0_linkCell (d := d + 2) e20) ?_
  refine mEv.stp 0 (S' := (68, _, [none, some (.int x1), some (.int x2), none, some (.int x4), some (.ref 2), none, none], [.int v19], memR s)) rfl ?_
  obtain ⟨g21, h⟩ := gI_some h
  refine mEv.gd 4 (S' := (75, _, [none, some (.int x1), some (.int x2), none, some (.int x4), some (.ref 2), some (.int v19), none], [.int ((gN_w (gR_now s)) (Int32.toNatClampNeg v19))], memR s)) rfl g21 ?_
  obtain ⟨g22, h⟩ := gI_some h
  refine mEv.gd 5 (S' := (84, _, [none, some (.int x1), some (.int x2), none, some (.int x4), some (.ref 2), some (.int v19), some (.int ((gN_w (gR_now s)) (Int32.toNatClampNeg v19)))], [], memRx (gR_sc s) (gR_ns s) (gR_bd s) (gR_no s) (gR_fu s) (mkN (gN_tc (gR_now s)) (gN_hb (gR_now s)) (gN_x (gR_now s)) (gN_hg (gR_now s)) (gN_cc (gR_now s)) (upd (gN_w (gR_now s)) (Int32.toNatClampNeg v19) x4) (gN_r (gR_now s)) (gN_hd (gR_now s)) (gN_st (gR_now s)) (gN_ct (gR_now s)) (gN_tt (gR_now s)) (gN_ld (gR_now s)) (gN_ca (gR_now s))) (gR_tri s) (gR_s0 s) (gR_s1 s) (gR_s2 s) (gR_s3 s) (gR_s4 s) (gR_txt s))) rfl g22 ?_
  obtain rfl := Option.some.inj h
  exact mEv.tgt memR_mk (mEv.stp 1 (S' := (86, _, [none, some (.int x1), some (.int x2), none, some (.int x4), some (.ref 2), some (.int v19), some (.int ((gN_w (gR_now s)) (Int32.toNatClampNeg v19)))], [.int ((gN_w (gR_now s)) (Int32.toNatClampNeg v19))], memRx (gR_sc s) (gR_ns s) (gR_bd s) (gR_no s) (gR_fu s) (mkN (gN_tc (gR_now s)) (gN_hb (gR_now s)) (gN_x (gR_now s)) (gN_hg (gR_now s)) (gN_cc (gR_now s)) (upd (gN_w (gR_now s)) (Int32.toNatClampNeg v19) x4) (gN_r (gR_now s)) (gN_hd (gR_now s)) (gN_st (gR_now s)) (gN_ct (gR_now s)) (gN_tt (gR_now s)) (gN_ld (gR_now s)) (gN_ca (gR_now s))) (gR_tri s) (gR_s0 s) (gR_s1 s) (gR_s2 s) (gR_s3 s) (gR_s4 s) (gR_txt s))) rfl (mEv.reti ⟨_, rfl, rfl⟩))
def F_X2_link (p1 : Int32) (p2 : Int32) (p3 : Int32) (p4 : Int32) (s : RouS) : Option (Int32 × RouS) := (F_X2_isPair p1 p2 s).bind (fun v1 => if v1 = (nI 0) then (J_X2_link_29 s) else ((F_X2_within p3 (nI 0) (nI 1)).bind (fun v6 => if v6 = (nI 0) then (J_X2_link_29 s) else ((F_X2_within p4 (nI 0) (nI 30)).bind (fun v9 => if ¬ v9 = (nI 0) then ((F_X2_keepState s).bind (fun v12 => if ¬ p3 = (nI 0) then (J_X2_link_61 p1 p2 p4 v12) else (J_X2_link_61_2 p1 p2 p4 v12))) else (J_X2_link_29 s))))))
set_option maxRecDepth 100000 in
theorem E_X2_link {d : Nat} {p1 : Int32} {p2 : Int32} {p3 : Int32} {p4 : Int32} {s : RouS} {q : Int32 × RouS} (h : F_X2_link p1 p2 p3 p4 s = some q) : mEv (d + 3) m_X2_link none (0, [], [some (.ref 0), some (.int p1), some (.int p2), some (.int p3), some (.int p4), none, none, none], [], memR s) (some (.int q.1)) (memR q.2) := by
  unfold F_X2_link at h
  refine mEv.stp 4 (S' := (3, _, [some (.ref 0), some (.int p1), some (.int p2), some (.int p3), some (.int p4), none, none, none], [.int p2, .int p1, .ref 0], memR s)) rfl ?_
  obtain ⟨v1, e2, h⟩ := bnd h
  refine mEv.callV (As := [.int p1, .int p2]) (st := []) (h := 0) (r := (some (.int v1))) (μ1 := memR s) lk_X2_49 rfl rfl rfl rfl rfl (A_X2_isPair (d := d + 1) e2) ?_
  refine mEv.stp 0 (S' := (6, _, [some (.ref 0), some (.int p1), some (.int p2), some (.int p3), some (.int p4), none, none, none], [.int v1], memR s)) rfl ?_
  refine mEv.br 1 (S1 := (29, [], [some (.ref 0), some (.int p1), some (.int p2), some (.int p3), some (.int p4), none, none, none], [], memR s)) (S2 := (9, _, [some (.ref 0), some (.int p1), some (.int p2), some (.int p3), some (.int p4), none, none, none], [], memR s)) rfl (fun c3 => ?_) (fun c3 => ?_)
  · have h := (if_pos c3).symm.trans h
    refine mEv.fg [1, 2, 3, 4] (z' := [some (.ref 0), none, none, none, none, none, none, none]) rfl ?_
    exact K_X2_link_29 (d := d) h
  · have h := (if_neg c3).symm.trans h
    refine mEv.stp 3 (S' := (12, _, [some (.ref 0), some (.int p1), some (.int p2), some (.int p3), some (.int p4), none, none, none], [.int (nI 1), .int (nI 0), .int p3], memR s)) rfl ?_
    obtain ⟨v6, e7, h⟩ := bnd h
    refine mEv.callS (As := [.int p3, .int (nI 0), .int (nI 1)]) (st := []) (r := (some (.int v6))) (μ1 := memR s) lk_X2_30 rfl rfl rfl (A_X2_within (d := d + 2) e7) ?_
    refine mEv.stp 0 (S' := (15, _, [some (.ref 0), some (.int p1), some (.int p2), some (.int p3), some (.int p4), none, none, none], [.int v6], memR s)) rfl ?_
    refine mEv.br 1 (S1 := (29, [], [some (.ref 0), some (.int p1), some (.int p2), some (.int p3), some (.int p4), none, none, none], [], memR s)) (S2 := (18, _, [some (.ref 0), some (.int p1), some (.int p2), some (.int p3), some (.int p4), none, none, none], [], memR s)) rfl (fun c8 => ?_) (fun c8 => ?_)
    · have h := (if_pos c8).symm.trans h
      refine mEv.fg [1, 2, 3, 4] (z' := [some (.ref 0), none, none, none, none, none, none, none]) rfl ?_
      exact K_X2_link_29 (d := d) h
    · have h := (if_neg c8).symm.trans h
      refine mEv.stp 3 (S' := (23, _, [some (.ref 0), some (.int p1), some (.int p2), some (.int p3), some (.int p4), none, none, none], [.int (nI 30), .int (nI 0), .int p4], memR s)) rfl ?_
      obtain ⟨v9, e10, h⟩ := bnd h
      refine mEv.callS (As := [.int p4, .int (nI 0), .int (nI 30)]) (st := []) (r := (some (.int v9))) (μ1 := memR s) lk_X2_30 rfl rfl rfl (A_X2_within (d := d + 2) e10) ?_
      refine mEv.stp 0 (S' := (26, _, [some (.ref 0), some (.int p1), some (.int p2), some (.int p3), some (.int p4), none, none, none], [.int v9], memR s)) rfl ?_
      refine mEv.br 1 (S1 := (36, [], [some (.ref 0), some (.int p1), some (.int p2), some (.int p3), some (.int p4), none, none, none], [], memR s)) (S2 := (29, [], [some (.ref 0), some (.int p1), some (.int p2), some (.int p3), some (.int p4), none, none, none], [], memR s)) rfl (fun c11 => ?_) (fun c11 => ?_)
      · have h := (if_pos c11).symm.trans h
        refine mEv.stp 2 (S' := (37, _, [some (.ref 0), some (.int p1), some (.int p2), some (.int p3), some (.int p4), none, none, none], [.ref 0], memR s)) rfl ?_
        obtain ⟨v12, e13, h⟩ := bnd h
        refine mEv.callV (As := []) (st := []) (h := 0) (r := none) (μ1 := memR v12) lk_X2_38 rfl rfl rfl rfl rfl (A_X2_keepState (d := d + 0) e13) ?_
        refine mEv.stp 0 (S' := (40, _, [some (.ref 0), some (.int p1), some (.int p2), some (.int p3), some (.int p4), none, none, none], [], memR v12)) rfl ?_
        refine mEv.br 2 (S1 := (54, [], [some (.ref 0), some (.int p1), some (.int p2), some (.int p3), some (.int p4), none, none, none], [], memR v12)) (S2 := (44, _, [some (.ref 0), some (.int p1), some (.int p2), some (.int p3), some (.int p4), none, none, none], [], memR v12)) rfl (fun c14 => ?_) (fun c14 => ?_)
        · have h := (if_pos c14).symm.trans h
          refine mEv.stp 4 (S' := (61, [], [some (.ref 0), some (.int p1), some (.int p2), some (.int p3), some (.int p4), none, none, none], [.ref 3], memR v12)) rfl ?_
          refine mEv.fg [0, 3] (z' := [none, some (.int p1), some (.int p2), none, some (.int p4), none, none, none]) rfl ?_
          exact K_X2_link_61 (d := d) h
        · have h := (if_neg c14).symm.trans h
          refine mEv.stp 4 (S' := (61, [], [some (.ref 0), some (.int p1), some (.int p2), some (.int p3), some (.int p4), none, none, none], [.ref 2], memR v12)) rfl ?_
          refine mEv.fg [0, 3] (z' := [none, some (.int p1), some (.int p2), none, some (.int p4), none, none, none]) rfl ?_
          exact K_X2_link_61_2 (d := d) h
      · have h := (if_neg c11).symm.trans h
        refine mEv.fg [1, 2, 3, 4] (z' := [some (.ref 0), none, none, none, none, none, none, none]) rfl ?_
        exact K_X2_link_29 (d := d) h
theorem A_X2_link {d : Nat} {p1 : Int32} {p2 : Int32} {p3 : Int32} {p4 : Int32} {s : RouS} {q : Int32 × RouS} (h : F_X2_link p1 p2 p3 p4 s = some q) : mCall (d + 3) m_X2_link [.ref 0, .int p1, .int p2, .int p3, .int p4] (memR s) (some (.int q.1)) (memR q.2) := mCall.intro ok_X2_link pl_X2_link rfl (E_X2_link (d := d) h)
def J_X2_links_19  (s : RouS) : Option (Int32 × RouS) := (F_X2_refuse (-nI 2) s).bind (fun v4 => some ((v4.1, v4.2)))
set_option maxRecDepth 100000 in
theorem K_X2_links_19 {d : Nat}  {s : RouS} {q : Int32 × RouS} (h : J_X2_links_19 s = some q) : mEv (d + 3) m_X2_links none (19, [], [some (.ref 0), none, none], [], memR s) (some (.int q.1)) (memR q.2) := by
  unfold J_X2_links_19 at h
  refine mEv.stp 3 (S' := (22, _, [some (.ref 0), none, none], [.int (-nI 2), .ref 0], memR s)) rfl ?_
  obtain ⟨v4, e5, h⟩ := bnd h
  refine mEv.callV (As := [.int (-nI 2)]) (st := []) (h := 0) (r := (some (.int v4.1))) (μ1 := memR v4.2) lk_X2_34 rfl rfl rfl rfl rfl (A_X2_refuse (d := d + 2) e5) ?_
  refine mEv.stp 0 (S' := (25, _, [some (.ref 0), none, none], [.int v4.1], memR v4.2)) rfl ?_
  obtain rfl := Option.some.inj h
  exact mEv.reti ⟨_, rfl, rfl⟩
def J_X2_links_51 (x2 : Int32) (s : RouS) : Option (Int32 × RouS) := (F_X0_fill x2 36 (gN_r (gR_now s))).bind (fun v12 => gZ (nI 2) (some (((((gN_tc (gR_now s)) * ((gN_tc (gR_now s)) - (nI 1))) / (nI 2)), (mkR (gR_sc s) (gR_ns s) (gR_bd s) (gR_no s) (gR_fu s) (mkN (gN_tc (gR_now s)) (gN_hb (gR_now s)) (gN_x (gR_now s)) (gN_hg (gR_now s)) (gN_cc (gR_now s)) (gN_w (gR_now s)) v12 (gN_hd (gR_now s)) (gN_st (gR_now s)) (gN_ct (gR_now s)) (gN_tt (gR_now s)) (gN_ld (gR_now s)) (gN_ca (gR_now s))) (gR_tri s) (gR_s0 s) (gR_s1 s) (gR_s2 s) (gR_s3 s) (gR_s4 s) (gR_txt s))))))
set_option maxRecDepth 100000 in
theorem K_X2_links_51 {d : Nat} {x2 : Int32} {s : RouS} {q : Int32 × RouS} (h : J_X2_links_51 x2 s = some q) : mEv (d + 3) m_X2_links none (51, [], [some (.ref 0), none, some (.int x2)], [.ref 3], memR s) (some (.int q.1)) (memR q.2) := by
  unfold J_X2_links_51 at h
  refine mEv.stp 2 (S' := (52, _, [some (.ref 0), none, some (.int x2)], [.int x2, .ref 3], memR s)) rfl ?_
  obtain ⟨v12, e13, h⟩ := bnd h
  refine mEv.callS (As := [.ref 3, .int x2]) (st := []) (r := none) (μ1 := memRx (gR_sc s) (gR_ns s) (gR_bd s) (gR_no s) (gR_fu s) (mkN (gN_tc (gR_now s)) (gN_hb (gR_now s)) (gN_x (gR_now s)) (gN_hg (gR_now s)) (gN_cc (gR_now s)) (gN_w (gR_now s)) v12 (gN_hd (gR_now s)) (gN_st (gR_now s)) (gN_ct (gR_now s)) (gN_tt (gR_now s)) (gN_ld (gR_now s)) (gN_ca (gR_now s))) (gR_tri s) (gR_s0 s) (gR_s1 s) (gR_s2 s) (gR_s3 s) (gR_s4 s) (gR_txt s)) lk_X2_64 rfl rfl rfl (lf_F3 (as := [.ref 0, .int x2]) (r := none) (A_X0_fill (d := d + 2) e13)) ?_
  refine mEv.stp 0 (S' := (55, _, [some (.ref 0), none, some (.int x2)], [], memRx (gR_sc s) (gR_ns s) (gR_bd s) (gR_no s) (gR_fu s) (mkN (gN_tc (gR_now s)) (gN_hb (gR_now s)) (gN_x (gR_now s)) (gN_hg (gR_now s)) (gN_cc (gR_now s)) (gN_w (gR_now s)) v12 (gN_hd (gR_now s)) (gN_st (gR_now s)) (gN_ct (gR_now s)) (gN_tt (gR_now s)) (gN_ld (gR_now s)) (gN_ca (gR_now s))) (gR_tri s) (gR_s0 s) (gR_s1 s) (gR_s2 s) (gR_s3 s) (gR_s4 s) (gR_txt s))) rfl ?_
  obtain ⟨g14, h⟩ := gZ_some h
  refine mEv.gd 11 (S' := (74, _, [some (.ref 0), none, some (.int x2)], [.int (((gN_tc (gR_now s)) * ((gN_tc (gR_now s)) - (nI 1))) / (nI 2))], memRx (gR_sc s) (gR_ns s) (gR_bd s) (gR_no s) (gR_fu s) (mkN (gN_tc (gR_now s)) (gN_hb (gR_now s)) (gN_x (gR_now s)) (gN_hg (gR_now s)) (gN_cc (gR_now s)) (gN_w (gR_now s)) v12 (gN_hd (gR_now s)) (gN_st (gR_now s)) (gN_ct (gR_now s)) (gN_tt (gR_now s)) (gN_ld (gR_now s)) (gN_ca (gR_now s))) (gR_tri s) (gR_s0 s) (gR_s1 s) (gR_s2 s) (gR_s3 s) (gR_s4 s) (gR_txt s))) rfl g14 ?_
  obtain rfl := Option.some.inj h
  exact mEv.tgt memR_mk (mEv.reti ⟨_, rfl, rfl⟩)
def J_X2_links_51_2 (x2 : Int32) (s : RouS) : Option (Int32 × RouS) := (F_X0_fill x2 36 (gN_w (gR_now s))).bind (fun v15 => gZ (nI 2) (some (((((gN_tc (gR_now s)) * ((gN_tc (gR_now s)) - (nI 1))) / (nI 2)), (mkR (gR_sc s) (gR_ns s) (gR_bd s) (gR_no s) (gR_fu s) (mkN (gN_tc (gR_now s)) (gN_hb (gR_now s)) (gN_x (gR_now s)) (gN_hg (gR_now s)) (gN_cc (gR_now s)) v15 (gN_r (gR_now s)) (gN_hd (gR_now s)) (gN_st (gR_now s)) (gN_ct (gR_now s)) (gN_tt (gR_now s)) (gN_ld (gR_now s)) (gN_ca (gR_now s))) (gR_tri s) (gR_s0 s) (gR_s1 s) (gR_s2 s) (gR_s3 s) (gR_s4 s) (gR_txt s))))))
set_option maxRecDepth 100000 in
theorem K_X2_links_51_2 {d : Nat} {x2 : Int32} {s : RouS} {q : Int32 × RouS} (h : J_X2_links_51_2 x2 s = some q) : mEv (d + 3) m_X2_links none (51, [], [some (.ref 0), none, some (.int x2)], [.ref 2], memR s) (some (.int q.1)) (memR q.2) := by
  unfold J_X2_links_51_2 at h
  refine mEv.stp 2 (S' := (52, _, [some (.ref 0), none, some (.int x2)], [.int x2, .ref 2], memR s)) rfl ?_
  obtain ⟨v15, e16, h⟩ := bnd h
  refine mEv.callS (As := [.ref 2, .int x2]) (st := []) (r := none) (μ1 := memRx (gR_sc s) (gR_ns s) (gR_bd s) (gR_no s) (gR_fu s) (mkN (gN_tc (gR_now s)) (gN_hb (gR_now s)) (gN_x (gR_now s)) (gN_hg (gR_now s)) (gN_cc (gR_now s)) v15 (gN_r (gR_now s)) (gN_hd (gR_now s)) (gN_st (gR_now s)) (gN_ct (gR_now s)) (gN_tt (gR_now s)) (gN_ld (gR_now s)) (gN_ca (gR_now s))) (gR_tri s) (gR_s0 s) (gR_s1 s) (gR_s2 s) (gR_s3 s) (gR_s4 s) (gR_txt s)) lk_X2_64 rfl rfl rfl (lf_F2 (as := [.ref 0, .int x2]) (r := none) (A_X0_fill (d := d + 2) e16)) ?_
  refine mEv.stp 0 (S' := (55, _, [some (.ref 0), none, some (.int x2)], [], memRx (gR_sc s) (gR_ns s) (gR_bd s) (gR_no s) (gR_fu s) (mkN (gN_tc (gR_now s)) (gN_hb (gR_now s)) (gN_x (gR_now s)) (gN_hg (gR_now s)) (gN_cc (gR_now s)) v15 (gN_r (gR_now s)) (gN_hd (gR_now s)) (gN_st (gR_now s)) (gN_ct (gR_now s)) (gN_tt (gR_now s)) (gN_ld (gR_now s)) (gN_ca (gR_now s))) (gR_tri s) (gR_s0 s) (gR_s1 s) (gR_s2 s) (gR_s3 s) (gR_s4 s) (gR_txt s))) rfl ?_
  obtain ⟨g17, h⟩ := gZ_some h
  refine mEv.gd 11 (S' := (74, _, [some (.ref 0), none, some (.int x2)], [.int (((gN_tc (gR_now s)) * ((gN_tc (gR_now s)) - (nI 1))) / (nI 2))], memRx (gR_sc s) (gR_ns s) (gR_bd s) (gR_no s) (gR_fu s) (mkN (gN_tc (gR_now s)) (gN_hb (gR_now s)) (gN_x (gR_now s)) (gN_hg (gR_now s)) (gN_cc (gR_now s)) v15 (gN_r (gR_now s)) (gN_hd (gR_now s)) (gN_st (gR_now s)) (gN_ct (gR_now s)) (gN_tt (gR_now s)) (gN_ld (gR_now s)) (gN_ca (gR_now s))) (gR_tri s) (gR_s0 s) (gR_s1 s) (gR_s2 s) (gR_s3 s) (gR_s4 s) (gR_txt s))) rfl g17 ?_
  obtain rfl := Option.some.inj h
  exact mEv.tgt memR_mk (mEv.reti ⟨_, rfl, rfl⟩)
def F_X2_links (p1 : Int32) (p2 : Int32) (s : RouS) : Option (Int32 × RouS) := (F_X2_within p1 (nI 0) (nI 1)).bind (fun v1 => if v1 = (nI 0) then (J_X2_links_19 s) else ((F_X2_within p2 (nI 0) (nI 30)).bind (fun v6 => if ¬ v6 = (nI 0) then ((F_X2_keepState s).bind (fun v9 => if ¬ p1 = (nI 0) then (J_X2_links_51 p2 v9) else (J_X2_links_51_2 p2 v9))) else (J_X2_links_19 s))))
set_option maxRecDepth 100000 in
theorem E_X2_links {d : Nat} {p1 : Int32} {p2 : Int32} {s : RouS} {q : Int32 × RouS} (h : F_X2_links p1 p2 s = some q) : mEv (d + 3) m_X2_links none (0, [], [some (.ref 0), some (.int p1), some (.int p2)], [], memR s) (some (.int q.1)) (memR q.2) := by
  unfold F_X2_links at h
  refine mEv.stp 4 (S' := (3, _, [some (.ref 0), some (.int p1), some (.int p2)], [.int (nI 1), .int (nI 0), .int p1], memR s)) rfl ?_
  obtain ⟨v1, e2, h⟩ := bnd h
  refine mEv.callS (As := [.int p1, .int (nI 0), .int (nI 1)]) (st := []) (r := (some (.int v1))) (μ1 := memR s) lk_X2_30 rfl rfl rfl (A_X2_within (d := d + 2) e2) ?_
  refine mEv.stp 0 (S' := (6, _, [some (.ref 0), some (.int p1), some (.int p2)], [.int v1], memR s)) rfl ?_
  refine mEv.br 1 (S1 := (19, [], [some (.ref 0), some (.int p1), some (.int p2)], [], memR s)) (S2 := (9, _, [some (.ref 0), some (.int p1), some (.int p2)], [], memR s)) rfl (fun c3 => ?_) (fun c3 => ?_)
  · have h := (if_pos c3).symm.trans h
    refine mEv.fg [1, 2] (z' := [some (.ref 0), none, none]) rfl ?_
    exact K_X2_links_19 (d := d) h
  · have h := (if_neg c3).symm.trans h
    refine mEv.stp 3 (S' := (13, _, [some (.ref 0), some (.int p1), some (.int p2)], [.int (nI 30), .int (nI 0), .int p2], memR s)) rfl ?_
    obtain ⟨v6, e7, h⟩ := bnd h
    refine mEv.callS (As := [.int p2, .int (nI 0), .int (nI 30)]) (st := []) (r := (some (.int v6))) (μ1 := memR s) lk_X2_30 rfl rfl rfl (A_X2_within (d := d + 2) e7) ?_
    refine mEv.stp 0 (S' := (16, _, [some (.ref 0), some (.int p1), some (.int p2)], [.int v6], memR s)) rfl ?_
    refine mEv.br 1 (S1 := (26, [], [some (.ref 0), some (.int p1), some (.int p2)], [], memR s)) (S2 := (19, [], [some (.ref 0), some (.int p1), some (.int p2)], [], memR s)) rfl (fun c8 => ?_) (fun c8 => ?_)
    · have h := (if_pos c8).symm.trans h
      refine mEv.stp 2 (S' := (27, _, [some (.ref 0), some (.int p1), some (.int p2)], [.ref 0], memR s)) rfl ?_
      obtain ⟨v9, e10, h⟩ := bnd h
      refine mEv.callV (As := []) (st := []) (h := 0) (r := none) (μ1 := memR v9) lk_X2_38 rfl rfl rfl rfl rfl (A_X2_keepState (d := d + 0) e10) ?_
      refine mEv.stp 0 (S' := (30, _, [some (.ref 0), some (.int p1), some (.int p2)], [], memR v9)) rfl ?_
      refine mEv.br 2 (S1 := (44, [], [some (.ref 0), some (.int p1), some (.int p2)], [], memR v9)) (S2 := (34, _, [some (.ref 0), some (.int p1), some (.int p2)], [], memR v9)) rfl (fun c11 => ?_) (fun c11 => ?_)
      · have h := (if_pos c11).symm.trans h
        refine mEv.stp 4 (S' := (51, [], [some (.ref 0), some (.int p1), some (.int p2)], [.ref 3], memR v9)) rfl ?_
        refine mEv.fg [1] (z' := [some (.ref 0), none, some (.int p2)]) rfl ?_
        exact K_X2_links_51 (d := d) h
      · have h := (if_neg c11).symm.trans h
        refine mEv.stp 4 (S' := (51, [], [some (.ref 0), some (.int p1), some (.int p2)], [.ref 2], memR v9)) rfl ?_
        refine mEv.fg [1] (z' := [some (.ref 0), none, some (.int p2)]) rfl ?_
        exact K_X2_links_51_2 (d := d) h
    · have h := (if_neg c8).symm.trans h
      refine mEv.fg [1, 2] (z' := [some (.ref 0), none, none]) rfl ?_
      exact K_X2_links_19 (d := d) h
theorem A_X2_links {d : Nat} {p1 : Int32} {p2 : Int32} {s : RouS} {q : Int32 × RouS} (h : F_X2_links p1 p2 s = some q) : mCall (d + 3) m_X2_links [.ref 0, .int p1, .int p2] (memR s) (some (.int q.1)) (memR q.2) := mCall.intro ok_X2_links pl_X2_links rfl (E_X2_links (d := d) h)
def F_X2_back (p1 : Int32) (s : RouS) : Option (Int32 × RouS) := (F_X2_within p1 (nI 0) (nI 1)).bind (fun v1 => if ¬ v1 = (nI 0) then ((F_X2_keepState s).bind (fun v4 => some (((gN_hb (gR_now v4)), (mkR (gR_sc v4) (gR_ns v4) (gR_bd v4) (gR_no v4) (gR_fu v4) (mkN (gN_tc (gR_now v4)) p1 (gN_x (gR_now v4)) (gN_hg (gR_now v4)) (gN_cc (gR_now v4)) (gN_w (gR_now v4)) (gN_r (gR_now v4)) (gN_hd (gR_now v4)) (gN_st (gR_now v4)) (gN_ct (gR_now v4)) (gN_tt (gR_now v4)) (gN_ld (gR_now v4)) (gN_ca (gR_now v4))) (gR_tri v4) (gR_s0 v4) (gR_s1 v4) (gR_s2 v4) (gR_s3 v4) (gR_s4 v4) (gR_txt v4)))))) else ((F_X2_refuse (-nI 2) s).bind (fun v6 => some ((v6.1, v6.2)))))
set_option maxRecDepth 100000 in
theorem E_X2_back {d : Nat} {p1 : Int32} {s : RouS} {q : Int32 × RouS} (h : F_X2_back p1 s = some q) : mEv (d + 3) m_X2_back none (0, [], [some (.ref 0), some (.int p1), none], [], memR s) (some (.int q.1)) (memR q.2) := by
  unfold F_X2_back at h
  refine mEv.stp 4 (S' := (3, _, [some (.ref 0), some (.int p1), none], [.int (nI 1), .int (nI 0), .int p1], memR s)) rfl ?_
  obtain ⟨v1, e2, h⟩ := bnd h
  refine mEv.callS (As := [.int p1, .int (nI 0), .int (nI 1)]) (st := []) (r := (some (.int v1))) (μ1 := memR s) lk_X2_30 rfl rfl rfl (A_X2_within (d := d + 2) e2) ?_
  refine mEv.stp 0 (S' := (6, _, [some (.ref 0), some (.int p1), none], [.int v1], memR s)) rfl ?_
  refine mEv.br 1 (S1 := (16, [], [some (.ref 0), some (.int p1), none], [], memR s)) (S2 := (9, _, [some (.ref 0), some (.int p1), none], [], memR s)) rfl (fun c3 => ?_) (fun c3 => ?_)
  · have h := (if_pos c3).symm.trans h
    refine mEv.stp 2 (S' := (17, _, [some (.ref 0), some (.int p1), none], [.ref 0], memR s)) rfl ?_
    obtain ⟨v4, e5, h⟩ := bnd h
    refine mEv.callV (As := []) (st := []) (h := 0) (r := none) (μ1 := memR v4) lk_X2_38 rfl rfl rfl rfl rfl (A_X2_keepState (d := d + 0) e5) ?_
    refine mEv.stp 0 (S' := (20, _, [some (.ref 0), some (.int p1), none], [], memR v4)) rfl ?_
    obtain rfl := Option.some.inj h
    exact mEv.tgt memR_mk (mEv.stp 9 (S' := (37, _, [some (.ref 0), some (.int p1), some (.int (gN_hb (gR_now v4)))], [.int (gN_hb (gR_now v4))], memRx (gR_sc v4) (gR_ns v4) (gR_bd v4) (gR_no v4) (gR_fu v4) (mkN (gN_tc (gR_now v4)) p1 (gN_x (gR_now v4)) (gN_hg (gR_now v4)) (gN_cc (gR_now v4)) (gN_w (gR_now v4)) (gN_r (gR_now v4)) (gN_hd (gR_now v4)) (gN_st (gR_now v4)) (gN_ct (gR_now v4)) (gN_tt (gR_now v4)) (gN_ld (gR_now v4)) (gN_ca (gR_now v4))) (gR_tri v4) (gR_s0 v4) (gR_s1 v4) (gR_s2 v4) (gR_s3 v4) (gR_s4 v4) (gR_txt v4))) rfl (mEv.reti ⟨_, rfl, rfl⟩))
  · have h := (if_neg c3).symm.trans h
    refine mEv.stp 2 (S' := (12, _, [some (.ref 0), some (.int p1), none], [.int (-nI 2), .ref 0], memR s)) rfl ?_
    obtain ⟨v6, e7, h⟩ := bnd h
    refine mEv.callV (As := [.int (-nI 2)]) (st := []) (h := 0) (r := (some (.int v6.1))) (μ1 := memR v6.2) lk_X2_34 rfl rfl rfl rfl rfl (A_X2_refuse (d := d + 2) e7) ?_
    refine mEv.stp 0 (S' := (15, _, [some (.ref 0), some (.int p1), none], [.int v6.1], memR v6.2)) rfl ?_
    obtain rfl := Option.some.inj h
    exact mEv.reti ⟨_, rfl, rfl⟩
theorem A_X2_back {d : Nat} {p1 : Int32} {s : RouS} {q : Int32 × RouS} (h : F_X2_back p1 s = some q) : mCall (d + 3) m_X2_back [.ref 0, .int p1] (memR s) (some (.int q.1)) (memR q.2) := mCall.intro ok_X2_back pl_X2_back rfl (E_X2_back (d := d) h)
def J_X2_load_20  (s : RouS) : Option (Int32 × RouS) := (F_X2_refuse (-nI 2) s).bind (fun v4 => some ((v4.1, v4.2)))
set_option maxRecDepth 100000 in
theorem K_X2_load_20 {d : Nat}  {s : RouS} {q : Int32 × RouS} (h : J_X2_load_20 s = some q) : mEv (d + 3) m_X2_load none (20, [], [some (.ref 0), none, none, none], [], memR s) (some (.int q.1)) (memR q.2) := by
  unfold J_X2_load_20 at h
  refine mEv.stp 3 (S' := (23, _, [some (.ref 0), none, none, none], [.int (-nI 2), .ref 0], memR s)) rfl ?_
  obtain ⟨v4, e5, h⟩ := bnd h
  refine mEv.callV (As := [.int (-nI 2)]) (st := []) (h := 0) (r := (some (.int v4.1))) (μ1 := memR v4.2) lk_X2_34 rfl rfl rfl rfl rfl (A_X2_refuse (d := d + 2) e5) ?_
  refine mEv.stp 0 (S' := (26, _, [some (.ref 0), none, none, none], [.int v4.1], memR v4.2)) rfl ?_
  obtain rfl := Option.some.inj h
  exact mEv.reti ⟨_, rfl, rfl⟩
def F_X2_load (p1 : Int32) (p2 : Int32) (s : RouS) : Option (Int32 × RouS) := (F_X2_within p1 (nI 0) (nI 23)).bind (fun v1 => if v1 = (nI 0) then (J_X2_load_20 s) else ((F_X2_within p2 (nI 0) (nI 9)).bind (fun v6 => if ¬ v6 = (nI 0) then ((F_X2_keepState s).bind (fun v9 => gI p1 24 (gI p1 24 (some ((((gN_ld (gR_now v9)) (Int32.toNatClampNeg p1)), (mkR (gR_sc v9) (gR_ns v9) (gR_bd v9) (gR_no v9) (gR_fu v9) (mkN (gN_tc (gR_now v9)) (gN_hb (gR_now v9)) (gN_x (gR_now v9)) (gN_hg (gR_now v9)) (gN_cc (gR_now v9)) (gN_w (gR_now v9)) (gN_r (gR_now v9)) (gN_hd (gR_now v9)) (gN_st (gR_now v9)) (gN_ct (gR_now v9)) (gN_tt (gR_now v9)) (upd (gN_ld (gR_now v9)) (Int32.toNatClampNeg p1) p2) (gN_ca (gR_now v9))) (gR_tri v9) (gR_s0 v9) (gR_s1 v9) (gR_s2 v9) (gR_s3 v9) (gR_s4 v9) (gR_txt v9)))))))) else (J_X2_load_20 s))))
set_option maxRecDepth 100000 in
theorem E_X2_load {d : Nat} {p1 : Int32} {p2 : Int32} {s : RouS} {q : Int32 × RouS} (h : F_X2_load p1 p2 s = some q) : mEv (d + 3) m_X2_load none (0, [], [some (.ref 0), some (.int p1), some (.int p2), none], [], memR s) (some (.int q.1)) (memR q.2) := by
  unfold F_X2_load at h
  refine mEv.stp 4 (S' := (4, _, [some (.ref 0), some (.int p1), some (.int p2), none], [.int (nI 23), .int (nI 0), .int p1], memR s)) rfl ?_
  obtain ⟨v1, e2, h⟩ := bnd h
  refine mEv.callS (As := [.int p1, .int (nI 0), .int (nI 23)]) (st := []) (r := (some (.int v1))) (μ1 := memR s) lk_X2_30 rfl rfl rfl (A_X2_within (d := d + 2) e2) ?_
  refine mEv.stp 0 (S' := (7, _, [some (.ref 0), some (.int p1), some (.int p2), none], [.int v1], memR s)) rfl ?_
  refine mEv.br 1 (S1 := (20, [], [some (.ref 0), some (.int p1), some (.int p2), none], [], memR s)) (S2 := (10, _, [some (.ref 0), some (.int p1), some (.int p2), none], [], memR s)) rfl (fun c3 => ?_) (fun c3 => ?_)
  · have h := (if_pos c3).symm.trans h
    refine mEv.fg [1, 2] (z' := [some (.ref 0), none, none, none]) rfl ?_
    exact K_X2_load_20 (d := d) h
  · have h := (if_neg c3).symm.trans h
    refine mEv.stp 3 (S' := (14, _, [some (.ref 0), some (.int p1), some (.int p2), none], [.int (nI 9), .int (nI 0), .int p2], memR s)) rfl ?_
    obtain ⟨v6, e7, h⟩ := bnd h
    refine mEv.callS (As := [.int p2, .int (nI 0), .int (nI 9)]) (st := []) (r := (some (.int v6))) (μ1 := memR s) lk_X2_30 rfl rfl rfl (A_X2_within (d := d + 2) e7) ?_
    refine mEv.stp 0 (S' := (17, _, [some (.ref 0), some (.int p1), some (.int p2), none], [.int v6], memR s)) rfl ?_
    refine mEv.br 1 (S1 := (27, [], [some (.ref 0), some (.int p1), some (.int p2), none], [], memR s)) (S2 := (20, [], [some (.ref 0), some (.int p1), some (.int p2), none], [], memR s)) rfl (fun c8 => ?_) (fun c8 => ?_)
    · have h := (if_pos c8).symm.trans h
      refine mEv.stp 2 (S' := (28, _, [some (.ref 0), some (.int p1), some (.int p2), none], [.ref 0], memR s)) rfl ?_
      obtain ⟨v9, e10, h⟩ := bnd h
      refine mEv.callV (As := []) (st := []) (h := 0) (r := none) (μ1 := memR v9) lk_X2_38 rfl rfl rfl rfl rfl (A_X2_keepState (d := d + 0) e10) ?_
      refine mEv.stp 0 (S' := (31, _, [some (.ref 0), some (.int p1), some (.int p2), none], [], memR v9)) rfl ?_
      obtain ⟨g11, h⟩ := gI_some h
      refine mEv.gd 5 (S' := (40, _, [some (.ref 0), some (.int p1), some (.int p2), none], [.int ((gN_ld (gR_now v9)) (Int32.toNatClampNeg p1))], memR v9)) rfl g11 ?_
      obtain ⟨g12, h⟩ := gI_some h
      refine mEv.gd 7 (S' := (51, _, [some (.ref 0), some (.int p1), some (.int p2), some (.int ((gN_ld (gR_now v9)) (Int32.toNatClampNeg p1)))], [], memRx (gR_sc v9) (gR_ns v9) (gR_bd v9) (gR_no v9) (gR_fu v9) (mkN (gN_tc (gR_now v9)) (gN_hb (gR_now v9)) (gN_x (gR_now v9)) (gN_hg (gR_now v9)) (gN_cc (gR_now v9)) (gN_w (gR_now v9)) (gN_r (gR_now v9)) (gN_hd (gR_now v9)) (gN_st (gR_now v9)) (gN_ct (gR_now v9)) (gN_tt (gR_now v9)) (upd (gN_ld (gR_now v9)) (Int32.toNatClampNeg p1) p2) (gN_ca (gR_now v9))) (gR_tri v9) (gR_s0 v9) (gR_s1 v9) (gR_s2 v9) (gR_s3 v9) (gR_s4 v9) (gR_txt v9))) rfl g12 ?_
      obtain rfl := Option.some.inj h
      exact mEv.tgt memR_mk (mEv.stp 1 (S' := (52, _, [some (.ref 0), some (.int p1), some (.int p2), some (.int ((gN_ld (gR_now v9)) (Int32.toNatClampNeg p1)))], [.int ((gN_ld (gR_now v9)) (Int32.toNatClampNeg p1))], memRx (gR_sc v9) (gR_ns v9) (gR_bd v9) (gR_no v9) (gR_fu v9) (mkN (gN_tc (gR_now v9)) (gN_hb (gR_now v9)) (gN_x (gR_now v9)) (gN_hg (gR_now v9)) (gN_cc (gR_now v9)) (gN_w (gR_now v9)) (gN_r (gR_now v9)) (gN_hd (gR_now v9)) (gN_st (gR_now v9)) (gN_ct (gR_now v9)) (gN_tt (gR_now v9)) (upd (gN_ld (gR_now v9)) (Int32.toNatClampNeg p1) p2) (gN_ca (gR_now v9))) (gR_tri v9) (gR_s0 v9) (gR_s1 v9) (gR_s2 v9) (gR_s3 v9) (gR_s4 v9) (gR_txt v9))) rfl (mEv.reti ⟨_, rfl, rfl⟩))
    · have h := (if_neg c8).symm.trans h
      refine mEv.fg [1, 2] (z' := [some (.ref 0), none, none, none]) rfl ?_
      exact K_X2_load_20 (d := d) h
theorem A_X2_load {d : Nat} {p1 : Int32} {p2 : Int32} {s : RouS} {q : Int32 × RouS} (h : F_X2_load p1 p2 s = some q) : mCall (d + 3) m_X2_load [.ref 0, .int p1, .int p2] (memR s) (some (.int q.1)) (memR q.2) := mCall.intro ok_X2_load pl_X2_load rfl (E_X2_load (d := d) h)
def F_X2_seed (p1 : Int32) (s : RouS) : Option (Int32 × RouS) := (F_X2_within p1 (nI 0) (nI 999999)).bind (fun v1 => if ¬ v1 = (nI 0) then ((F_X2_keepState s).bind (fun v4 => some (((nI 1), (mkR (gR_sc v4) (gR_ns v4) (gR_bd v4) (gR_no v4) (gR_fu v4) (mkN (gN_tc (gR_now v4)) (gN_hb (gR_now v4)) p1 (gN_hg (gR_now v4)) (gN_cc (gR_now v4)) (gN_w (gR_now v4)) (gN_r (gR_now v4)) (gN_hd (gR_now v4)) (gN_st (gR_now v4)) (gN_ct (gR_now v4)) (gN_tt (gR_now v4)) (gN_ld (gR_now v4)) (gN_ca (gR_now v4))) (gR_tri v4) (gR_s0 v4) (gR_s1 v4) (gR_s2 v4) (gR_s3 v4) (gR_s4 v4) (gR_txt v4)))))) else ((F_X2_refuse (-nI 2) s).bind (fun v6 => some ((v6.1, v6.2)))))
set_option maxRecDepth 100000 in
theorem E_X2_seed {d : Nat} {p1 : Int32} {s : RouS} {q : Int32 × RouS} (h : F_X2_seed p1 s = some q) : mEv (d + 3) m_X2_seed none (0, [], [some (.ref 0), some (.int p1)], [], memR s) (some (.int q.1)) (memR q.2) := by
  unfold F_X2_seed at h
  refine mEv.stp 4 (S' := (4, _, [some (.ref 0), some (.int p1)], [.int (nI 999999), .int (nI 0), .int p1], memR s)) rfl ?_
  obtain ⟨v1, e2, h⟩ := bnd h
  refine mEv.callS (As := [.int p1, .int (nI 0), .int (nI 999999)]) (st := []) (r := (some (.int v1))) (μ1 := memR s) lk_X2_30 rfl rfl rfl (A_X2_within (d := d + 2) e2) ?_
  refine mEv.stp 0 (S' := (7, _, [some (.ref 0), some (.int p1)], [.int v1], memR s)) rfl ?_
  refine mEv.br 1 (S1 := (17, [], [some (.ref 0), some (.int p1)], [], memR s)) (S2 := (10, _, [some (.ref 0), some (.int p1)], [], memR s)) rfl (fun c3 => ?_) (fun c3 => ?_)
  · have h := (if_pos c3).symm.trans h
    refine mEv.stp 2 (S' := (18, _, [some (.ref 0), some (.int p1)], [.ref 0], memR s)) rfl ?_
    obtain ⟨v4, e5, h⟩ := bnd h
    refine mEv.callV (As := []) (st := []) (h := 0) (r := none) (μ1 := memR v4) lk_X2_38 rfl rfl rfl rfl rfl (A_X2_keepState (d := d + 0) e5) ?_
    refine mEv.stp 0 (S' := (21, _, [some (.ref 0), some (.int p1)], [], memR v4)) rfl ?_
    obtain rfl := Option.some.inj h
    exact mEv.tgt memR_mk (mEv.stp 5 (S' := (30, _, [some (.ref 0), some (.int p1)], [.int (nI 1)], memRx (gR_sc v4) (gR_ns v4) (gR_bd v4) (gR_no v4) (gR_fu v4) (mkN (gN_tc (gR_now v4)) (gN_hb (gR_now v4)) p1 (gN_hg (gR_now v4)) (gN_cc (gR_now v4)) (gN_w (gR_now v4)) (gN_r (gR_now v4)) (gN_hd (gR_now v4)) (gN_st (gR_now v4)) (gN_ct (gR_now v4)) (gN_tt (gR_now v4)) (gN_ld (gR_now v4)) (gN_ca (gR_now v4))) (gR_tri v4) (gR_s0 v4) (gR_s1 v4) (gR_s2 v4) (gR_s3 v4) (gR_s4 v4) (gR_txt v4))) rfl (mEv.reti ⟨_, rfl, rfl⟩))
  · have h := (if_neg c3).symm.trans h
    refine mEv.stp 2 (S' := (13, _, [some (.ref 0), some (.int p1)], [.int (-nI 2), .ref 0], memR s)) rfl ?_
    obtain ⟨v6, e7, h⟩ := bnd h
    refine mEv.callV (As := [.int (-nI 2)]) (st := []) (h := 0) (r := (some (.int v6.1))) (μ1 := memR v6.2) lk_X2_34 rfl rfl rfl rfl rfl (A_X2_refuse (d := d + 2) e7) ?_
    refine mEv.stp 0 (S' := (16, _, [some (.ref 0), some (.int p1)], [.int v6.1], memR v6.2)) rfl ?_
    obtain rfl := Option.some.inj h
    exact mEv.reti ⟨_, rfl, rfl⟩
theorem A_X2_seed {d : Nat} {p1 : Int32} {s : RouS} {q : Int32 × RouS} (h : F_X2_seed p1 s = some q) : mCall (d + 3) m_X2_seed [.ref 0, .int p1] (memR s) (some (.int q.1)) (memR q.2) := mCall.intro ok_X2_seed pl_X2_seed rfl (E_X2_seed (d := d) h)
def J_X2_of_18  (s : RouS) : Option (Int32 × RouS) := (F_X2_refuse (-nI 2) s).bind (fun v4 => some ((v4.1, v4.2)))
set_option maxRecDepth 100000 in
theorem K_X2_of_18 {d : Nat}  {s : RouS} {q : Int32 × RouS} (h : J_X2_of_18 s = some q) : mEv (d + 2) m_X2_of none (18, [], [some (.ref 0), none, none, none, none], [], memR s) (some (.int q.1)) (memR q.2) := by
  unfold J_X2_of_18 at h
  refine mEv.stp 3 (S' := (21, _, [some (.ref 0), none, none, none, none], [.int (-nI 2), .ref 0], memR s)) rfl ?_
  obtain ⟨v4, e5, h⟩ := bnd h
  refine mEv.callV (As := [.int (-nI 2)]) (st := []) (h := 0) (r := (some (.int v4.1))) (μ1 := memR v4.2) lk_X2_34 rfl rfl rfl rfl rfl (A_X2_refuse (d := d + 1) e5) ?_
  refine mEv.stp 0 (S' := (24, _, [some (.ref 0), none, none, none, none], [.int v4.1], memR v4.2)) rfl ?_
  obtain rfl := Option.some.inj h
  exact mEv.reti ⟨_, rfl, rfl⟩
def F_X2_of (p1 : Int32) (p2 : Int32) (p3 : Int32) (s : RouS) : Option (Int32 × RouS) := (F_X2_isPair p1 p2 s).bind (fun v1 => if v1 = (nI 0) then (J_X2_of_18 s) else ((F_X2_within p3 (nI 0) (nI 3)).bind (fun v6 => if ¬ v6 = (nI 0) then ((F_X0_linkCell p1 p2).bind (fun v9 => if p3 = (nI 0) then (gI v9 36 (some ((((gN_w (gR_now s)) (Int32.toNatClampNeg v9)), s)))) else (if p3 = (nI 1) then (gI v9 36 (some ((((gN_r (gR_now s)) (Int32.toNatClampNeg v9)), s)))) else (if p3 = (nI 2) then ((F_X0_freeWires v9 (gR_now s)).bind (fun v16 => some ((v16, s)))) else ((F_X0_callsOverLink v9 (gR_now s)).bind (fun v18 => some ((v18, s)))))))) else (J_X2_of_18 s))))
set_option maxRecDepth 100000 in
theorem E_X2_of {d : Nat} {p1 : Int32} {p2 : Int32} {p3 : Int32} {s : RouS} {q : Int32 × RouS} (h : F_X2_of p1 p2 p3 s = some q) : mEv (d + 2) m_X2_of none (0, [], [some (.ref 0), some (.int p1), some (.int p2), some (.int p3), none], [], memR s) (some (.int q.1)) (memR q.2) := by
  unfold F_X2_of at h
  refine mEv.stp 4 (S' := (3, _, [some (.ref 0), some (.int p1), some (.int p2), some (.int p3), none], [.int p2, .int p1, .ref 0], memR s)) rfl ?_
  obtain ⟨v1, e2, h⟩ := bnd h
  refine mEv.callV (As := [.int p1, .int p2]) (st := []) (h := 0) (r := (some (.int v1))) (μ1 := memR s) lk_X2_49 rfl rfl rfl rfl rfl (A_X2_isPair (d := d + 0) e2) ?_
  refine mEv.stp 0 (S' := (6, _, [some (.ref 0), some (.int p1), some (.int p2), some (.int p3), none], [.int v1], memR s)) rfl ?_
  refine mEv.br 1 (S1 := (18, [], [some (.ref 0), some (.int p1), some (.int p2), some (.int p3), none], [], memR s)) (S2 := (9, _, [some (.ref 0), some (.int p1), some (.int p2), some (.int p3), none], [], memR s)) rfl (fun c3 => ?_) (fun c3 => ?_)
  · have h := (if_pos c3).symm.trans h
    refine mEv.fg [1, 2, 3] (z' := [some (.ref 0), none, none, none, none]) rfl ?_
    exact K_X2_of_18 (d := d) h
  · have h := (if_neg c3).symm.trans h
    refine mEv.stp 3 (S' := (12, _, [some (.ref 0), some (.int p1), some (.int p2), some (.int p3), none], [.int (nI 3), .int (nI 0), .int p3], memR s)) rfl ?_
    obtain ⟨v6, e7, h⟩ := bnd h
    refine mEv.callS (As := [.int p3, .int (nI 0), .int (nI 3)]) (st := []) (r := (some (.int v6))) (μ1 := memR s) lk_X2_30 rfl rfl rfl (A_X2_within (d := d + 1) e7) ?_
    refine mEv.stp 0 (S' := (15, _, [some (.ref 0), some (.int p1), some (.int p2), some (.int p3), none], [.int v6], memR s)) rfl ?_
    refine mEv.br 1 (S1 := (25, [], [some (.ref 0), some (.int p1), some (.int p2), some (.int p3), none], [], memR s)) (S2 := (18, [], [some (.ref 0), some (.int p1), some (.int p2), some (.int p3), none], [], memR s)) rfl (fun c8 => ?_) (fun c8 => ?_)
    · have h := (if_pos c8).symm.trans h
      refine mEv.stp 3 (S' := (27, _, [some (.ref 0), some (.int p1), some (.int p2), some (.int p3), none], [.int p2, .int p1], memR s)) rfl ?_
      obtain ⟨v9, e10, h⟩ := bnd h
      refine mEv.callS (As := [.int p1, .int p2]) (st := []) (r := (some (.int v9))) (μ1 := memR s) lk_X2_60 rfl rfl rfl (A_X0_linkCell (d := d + 1) e10) ?_
      refine mEv.stp 0 (S' := (30, _, [some (.ref 0), some (.int p1), some (.int p2), some (.int p3), none], [.int v9], memR s)) rfl ?_
      refine mEv.stp 3 (S' := (mSw p3 [(nI 0, 60), (nI 1, 71), (nI 2, 82)] 92, [], [some (.ref 0), some (.int p1), some (.int p2), some (.int p3), some (.int v9)], [], memR s)) rfl ?_
      refine mEv.sw (fun c11 => ?_) (fun c11 => ?_)
      · have h := (if_pos c11).symm.trans h
        obtain ⟨g12, h⟩ := gI_some h
        refine mEv.gd 6 (S' := (70, _, [some (.ref 0), some (.int p1), some (.int p2), some (.int p3), some (.int v9)], [.int ((gN_w (gR_now s)) (Int32.toNatClampNeg v9))], memR s)) rfl g12 ?_
        obtain rfl := Option.some.inj h
        exact mEv.reti ⟨_, rfl, rfl⟩
      · have h := (if_neg c11).symm.trans h
        refine mEv.sw (fun c13 => ?_) (fun c13 => ?_)
        · have h := (if_pos c13).symm.trans h
          obtain ⟨g14, h⟩ := gI_some h
          refine mEv.gd 6 (S' := (81, _, [some (.ref 0), some (.int p1), some (.int p2), some (.int p3), some (.int v9)], [.int ((gN_r (gR_now s)) (Int32.toNatClampNeg v9))], memR s)) rfl g14 ?_
          obtain rfl := Option.some.inj h
          exact mEv.reti ⟨_, rfl, rfl⟩
        · have h := (if_neg c13).symm.trans h
          refine mEv.sw (fun c15 => ?_) (fun c15 => ?_)
          · have h := (if_pos c15).symm.trans h
            refine mEv.stp 4 (S' := (88, _, [some (.ref 0), some (.int p1), some (.int p2), some (.int p3), some (.int v9)], [.int v9, .ref 1], memR s)) rfl ?_
            obtain ⟨v16, e17, h⟩ := bnd h
            refine mEv.callV (As := [.int v9]) (st := []) (h := 1) (r := (some (.int v16))) (μ1 := memR s) lk_X2_78 rfl rfl rfl rfl rfl (lf_N1 (as := [.ref 0, .int v9]) (r := (some (.int v16))) (A_X0_freeWires (d := d + 1) e17)) ?_
            refine mEv.stp 0 (S' := (91, _, [some (.ref 0), some (.int p1), some (.int p2), some (.int p3), some (.int v9)], [.int v16], memR s)) rfl ?_
            obtain rfl := Option.some.inj h
            exact mEv.reti ⟨_, rfl, rfl⟩
          · have h := (if_neg c15).symm.trans h
            refine mEv.stp 0 (S' := (92, [], [some (.ref 0), some (.int p1), some (.int p2), some (.int p3), some (.int v9)], [], memR s)) rfl ?_
            refine mEv.stp 4 (S' := (98, _, [some (.ref 0), some (.int p1), some (.int p2), some (.int p3), some (.int v9)], [.int v9, .ref 1], memR s)) rfl ?_
            obtain ⟨v18, e19, h⟩ := bnd h
            refine mEv.callV (As := [.int v9]) (st := []) (h := 1) (r := (some (.int v18))) (μ1 := memR s) lk_X2_81 rfl rfl rfl rfl rfl (lf_N1 (as := [.ref 0, .int v9]) (r := (some (.int v18))) (A_X0_callsOverLink (d := d + 0) e19)) ?_
            refine mEv.stp 0 (S' := (101, _, [some (.ref 0), some (.int p1), some (.int p2), some (.int p3), some (.int v9)], [.int v18], memR s)) rfl ?_
            obtain rfl := Option.some.inj h
            exact mEv.reti ⟨_, rfl, rfl⟩
    · have h := (if_neg c8).symm.trans h
      refine mEv.fg [1, 2, 3] (z' := [some (.ref 0), none, none, none, none]) rfl ?_
      exact K_X2_of_18 (d := d) h
theorem A_X2_of {d : Nat} {p1 : Int32} {p2 : Int32} {p3 : Int32} {s : RouS} {q : Int32 × RouS} (h : F_X2_of p1 p2 p3 s = some q) : mCall (d + 2) m_X2_of [.ref 0, .int p1, .int p2, .int p3] (memR s) (some (.int q.1)) (memR q.2) := mCall.intro ok_X2_of pl_X2_of rfl (E_X2_of (d := d) h)
def F_X2_sticky (p1 : Int32) (p2 : Int32) (s : RouS) : Option (Int32 × RouS) := (F_X2_isPair p1 p2 s).bind (fun v1 => if v1 = (nI 0) then ((F_X2_refuse (-nI 2) s).bind (fun v4 => some ((v4.1, v4.2)))) else ((F_X0_pairCell p1 p2).bind (fun v6 => gI v6 36 (some ((((gN_st (gR_now s)) (Int32.toNatClampNeg v6)), s))))))
set_option maxRecDepth 100000 in
theorem E_X2_sticky {d : Nat} {p1 : Int32} {p2 : Int32} {s : RouS} {q : Int32 × RouS} (h : F_X2_sticky p1 p2 s = some q) : mEv (d + 2) m_X2_sticky none (0, [], [some (.ref 0), some (.int p1), some (.int p2)], [], memR s) (some (.int q.1)) (memR q.2) := by
  unfold F_X2_sticky at h
  refine mEv.stp 4 (S' := (3, _, [some (.ref 0), some (.int p1), some (.int p2)], [.int p2, .int p1, .ref 0], memR s)) rfl ?_
  obtain ⟨v1, e2, h⟩ := bnd h
  refine mEv.callV (As := [.int p1, .int p2]) (st := []) (h := 0) (r := (some (.int v1))) (μ1 := memR s) lk_X2_49 rfl rfl rfl rfl rfl (A_X2_isPair (d := d + 0) e2) ?_
  refine mEv.stp 0 (S' := (6, _, [some (.ref 0), some (.int p1), some (.int p2)], [.int v1], memR s)) rfl ?_
  refine mEv.br 1 (S1 := (25, [], [some (.ref 0), some (.int p1), some (.int p2)], [], memR s)) (S2 := (9, _, [some (.ref 0), some (.int p1), some (.int p2)], [], memR s)) rfl (fun c3 => ?_) (fun c3 => ?_)
  · have h := (if_pos c3).symm.trans h
    refine mEv.stp 3 (S' := (28, _, [some (.ref 0), some (.int p1), some (.int p2)], [.int (-nI 2), .ref 0], memR s)) rfl ?_
    obtain ⟨v4, e5, h⟩ := bnd h
    refine mEv.callV (As := [.int (-nI 2)]) (st := []) (h := 0) (r := (some (.int v4.1))) (μ1 := memR v4.2) lk_X2_34 rfl rfl rfl rfl rfl (A_X2_refuse (d := d + 1) e5) ?_
    refine mEv.stp 0 (S' := (31, [], [some (.ref 0), some (.int p1), some (.int p2)], [.int v4.1], memR v4.2)) rfl ?_
    obtain rfl := Option.some.inj h
    exact mEv.stp 1 (S' := (31, _, [some (.ref 0), some (.int p1), some (.int p2)], [.int v4.1], memR v4.2)) rfl (mEv.reti ⟨_, rfl, rfl⟩)
  · have h := (if_neg c3).symm.trans h
    refine mEv.stp 5 (S' := (18, _, [some (.ref 0), some (.int p1), some (.int p2)], [.int p2, .int p1, .ref 5], memR s)) rfl ?_
    obtain ⟨v6, e7, h⟩ := bnd h
    refine mEv.callS (As := [.int p1, .int p2]) (st := [.ref 5]) (r := (some (.int v6))) (μ1 := memR s) lk_X2_87 rfl rfl rfl (A_X0_pairCell (d := d + 1) e7) ?_
    refine mEv.stp 0 (S' := (21, _, [some (.ref 0), some (.int p1), some (.int p2)], [.int v6, .ref 5], memR s)) rfl ?_
    obtain ⟨g8, h⟩ := gI_some h
    refine mEv.gd 1 (S' := (22, _, [some (.ref 0), some (.int p1), some (.int p2)], [.int ((gN_st (gR_now s)) (Int32.toNatClampNeg v6))], memR s)) rfl g8 ?_
    obtain rfl := Option.some.inj h
    exact mEv.stp 2 (S' := (31, _, [some (.ref 0), some (.int p1), some (.int p2)], [.int ((gN_st (gR_now s)) (Int32.toNatClampNeg v6))], memR s)) rfl (mEv.reti ⟨_, rfl, rfl⟩)
theorem A_X2_sticky {d : Nat} {p1 : Int32} {p2 : Int32} {s : RouS} {q : Int32 × RouS} (h : F_X2_sticky p1 p2 s = some q) : mCall (d + 2) m_X2_sticky [.ref 0, .int p1, .int p2] (memR s) (some (.int q.1)) (memR q.2) := mCall.intro ok_X2_sticky pl_X2_sticky rfl (E_X2_sticky (d := d) h)
def J_X2_call_19  (s : RouS) : Option (Int32 × RouS) := (F_X2_refuse (-nI 2) s).bind (fun v4 => some ((v4.1, v4.2)))
set_option maxRecDepth 100000 in
theorem K_X2_call_19 {d : Nat}  {s : RouS} {q : Int32 × RouS} (h : J_X2_call_19 s = some q) : mEv (d + 3) m_X2_call none (19, [], [some (.ref 0), none, none, none], [], memR s) (some (.int q.1)) (memR q.2) := by
  unfold J_X2_call_19 at h
  refine mEv.stp 3 (S' := (22, _, [some (.ref 0), none, none, none], [.int (-nI 2), .ref 0], memR s)) rfl ?_
  obtain ⟨v4, e5, h⟩ := bnd h
  refine mEv.callV (As := [.int (-nI 2)]) (st := []) (h := 0) (r := (some (.int v4.1))) (μ1 := memR v4.2) lk_X2_34 rfl rfl rfl rfl rfl (A_X2_refuse (d := d + 2) e5) ?_
  refine mEv.stp 0 (S' := (25, _, [some (.ref 0), none, none, none], [.int v4.1], memR v4.2)) rfl ?_
  obtain rfl := Option.some.inj h
  exact mEv.reti ⟨_, rfl, rfl⟩
def F_X2_call (p1 : Int32) (p2 : Int32) (p3 : Int32) (s : RouS) : Option (Int32 × RouS) := (F_X2_isPair p1 p2 s).bind (fun v1 => if v1 = (nI 0) then (J_X2_call_19 s) else ((F_X2_within p3 (nI 1) (nI 24)).bind (fun v6 => if ¬ v6 = (nI 0) then (if (gN_cc (gR_now s)) < (nI 80) then ((F_X2_keepState s).bind (fun v10 => (F_X0_ask p1 p2 p3 (gR_now v10)).bind (fun v12 => some ((v12.1, (mkR (gR_sc v10) (gR_ns v10) (gR_bd v10) (gR_no v10) (gR_fu v10) v12.2 (gR_tri v10) (gR_s0 v10) (gR_s1 v10) (gR_s2 v10) (gR_s3 v10) (gR_s4 v10) (gR_txt v10))))))) else ((F_X2_refuse (-nI 4) s).bind (fun v14 => some ((v14.1, v14.2))))) else (J_X2_call_19 s))))
set_option maxRecDepth 100000 in
theorem E_X2_call {d : Nat} {p1 : Int32} {p2 : Int32} {p3 : Int32} {s : RouS} {q : Int32 × RouS} (h : F_X2_call p1 p2 p3 s = some q) : mEv (d + 3) m_X2_call none (0, [], [some (.ref 0), some (.int p1), some (.int p2), some (.int p3)], [], memR s) (some (.int q.1)) (memR q.2) := by
  unfold F_X2_call at h
  refine mEv.stp 4 (S' := (3, _, [some (.ref 0), some (.int p1), some (.int p2), some (.int p3)], [.int p2, .int p1, .ref 0], memR s)) rfl ?_
  obtain ⟨v1, e2, h⟩ := bnd h
  refine mEv.callV (As := [.int p1, .int p2]) (st := []) (h := 0) (r := (some (.int v1))) (μ1 := memR s) lk_X2_49 rfl rfl rfl rfl rfl (A_X2_isPair (d := d + 1) e2) ?_
  refine mEv.stp 0 (S' := (6, _, [some (.ref 0), some (.int p1), some (.int p2), some (.int p3)], [.int v1], memR s)) rfl ?_
  refine mEv.br 1 (S1 := (19, [], [some (.ref 0), some (.int p1), some (.int p2), some (.int p3)], [], memR s)) (S2 := (9, _, [some (.ref 0), some (.int p1), some (.int p2), some (.int p3)], [], memR s)) rfl (fun c3 => ?_) (fun c3 => ?_)
  · have h := (if_pos c3).symm.trans h
    refine mEv.fg [1, 2, 3] (z' := [some (.ref 0), none, none, none]) rfl ?_
    exact K_X2_call_19 (d := d) h
  · have h := (if_neg c3).symm.trans h
    refine mEv.stp 3 (S' := (13, _, [some (.ref 0), some (.int p1), some (.int p2), some (.int p3)], [.int (nI 24), .int (nI 1), .int p3], memR s)) rfl ?_
    obtain ⟨v6, e7, h⟩ := bnd h
    refine mEv.callS (As := [.int p3, .int (nI 1), .int (nI 24)]) (st := []) (r := (some (.int v6))) (μ1 := memR s) lk_X2_30 rfl rfl rfl (A_X2_within (d := d + 2) e7) ?_
    refine mEv.stp 0 (S' := (16, _, [some (.ref 0), some (.int p1), some (.int p2), some (.int p3)], [.int v6], memR s)) rfl ?_
    refine mEv.br 1 (S1 := (26, [], [some (.ref 0), some (.int p1), some (.int p2), some (.int p3)], [], memR s)) (S2 := (19, [], [some (.ref 0), some (.int p1), some (.int p2), some (.int p3)], [], memR s)) rfl (fun c8 => ?_) (fun c8 => ?_)
    · have h := (if_pos c8).symm.trans h
      refine mEv.br 6 (S1 := (45, [], [some (.ref 0), some (.int p1), some (.int p2), some (.int p3)], [], memR s)) (S2 := (38, _, [some (.ref 0), some (.int p1), some (.int p2), some (.int p3)], [], memR s)) rfl (fun c9 => ?_) (fun c9 => ?_)
      · have h := (if_pos c9).symm.trans h
        refine mEv.stp 2 (S' := (46, _, [some (.ref 0), some (.int p1), some (.int p2), some (.int p3)], [.ref 0], memR s)) rfl ?_
        obtain ⟨v10, e11, h⟩ := bnd h
        refine mEv.callV (As := []) (st := []) (h := 0) (r := none) (μ1 := memR v10) lk_X2_38 rfl rfl rfl rfl rfl (A_X2_keepState (d := d + 0) e11) ?_
        refine mEv.stp 0 (S' := (49, _, [some (.ref 0), some (.int p1), some (.int p2), some (.int p3)], [], memR v10)) rfl ?_
        refine mEv.stp 5 (S' := (56, _, [some (.ref 0), some (.int p1), some (.int p2), some (.int p3)], [.int p3, .int p2, .int p1, .ref 1], memR v10)) rfl ?_
        obtain ⟨v12, e13, h⟩ := bnd h
        refine mEv.callV (As := [.int p1, .int p2, .int p3]) (st := []) (h := 1) (r := (some (.int v12.1))) (μ1 := memRx (gR_sc v10) (gR_ns v10) (gR_bd v10) (gR_no v10) (gR_fu v10) v12.2 (gR_tri v10) (gR_s0 v10) (gR_s1 v10) (gR_s2 v10) (gR_s3 v10) (gR_s4 v10) (gR_txt v10)) lk_X2_93 rfl rfl rfl rfl rfl (lf_N1 (as := [.ref 0, .int p1, .int p2, .int p3]) (r := (some (.int v12.1))) (A_X0_ask (d := d + 0) e13)) ?_
        refine mEv.stp 0 (S' := (59, _, [some (.ref 0), some (.int p1), some (.int p2), some (.int p3)], [.int v12.1], memRx (gR_sc v10) (gR_ns v10) (gR_bd v10) (gR_no v10) (gR_fu v10) v12.2 (gR_tri v10) (gR_s0 v10) (gR_s1 v10) (gR_s2 v10) (gR_s3 v10) (gR_s4 v10) (gR_txt v10))) rfl ?_
        obtain rfl := Option.some.inj h
        exact mEv.tgt memR_mk (mEv.reti ⟨_, rfl, rfl⟩)
      · have h := (if_neg c9).symm.trans h
        refine mEv.stp 2 (S' := (41, _, [some (.ref 0), some (.int p1), some (.int p2), some (.int p3)], [.int (-nI 4), .ref 0], memR s)) rfl ?_
        obtain ⟨v14, e15, h⟩ := bnd h
        refine mEv.callV (As := [.int (-nI 4)]) (st := []) (h := 0) (r := (some (.int v14.1))) (μ1 := memR v14.2) lk_X2_34 rfl rfl rfl rfl rfl (A_X2_refuse (d := d + 2) e15) ?_
        refine mEv.stp 0 (S' := (44, _, [some (.ref 0), some (.int p1), some (.int p2), some (.int p3)], [.int v14.1], memR v14.2)) rfl ?_
        obtain rfl := Option.some.inj h
        exact mEv.reti ⟨_, rfl, rfl⟩
    · have h := (if_neg c8).symm.trans h
      refine mEv.fg [1, 2, 3] (z' := [some (.ref 0), none, none, none]) rfl ?_
      exact K_X2_call_19 (d := d) h
theorem A_X2_call {d : Nat} {p1 : Int32} {p2 : Int32} {p3 : Int32} {s : RouS} {q : Int32 × RouS} (h : F_X2_call p1 p2 p3 s = some q) : mCall (d + 3) m_X2_call [.ref 0, .int p1, .int p2, .int p3] (memR s) (some (.int q.1)) (memR q.2) := mCall.intro ok_X2_call pl_X2_call rfl (E_X2_call (d := d) h)
def F_X2_hours (p1 : Int32) (s : RouS) : Option (Int32 × RouS) := (F_X2_within p1 (nI 1) (nI 48)).bind (fun v1 => if ¬ v1 = (nI 0) then ((F_X2_keepState s).bind (fun v4 => (F_X0_passHours p1 (gR_now v4)).bind (fun v6 => some ((v6.1, (mkR (gR_sc v4) (gR_ns v4) (gR_bd v4) (gR_no v4) (gR_fu v4) v6.2 (gR_tri v4) (gR_s0 v4) (gR_s1 v4) (gR_s2 v4) (gR_s3 v4) (gR_s4 v4) (gR_txt v4))))))) else ((F_X2_refuse (-nI 2) s).bind (fun v8 => some ((v8.1, v8.2)))))
set_option maxRecDepth 100000 in
theorem E_X2_hours {d : Nat} {p1 : Int32} {s : RouS} {q : Int32 × RouS} (h : F_X2_hours p1 s = some q) : mEv (d + 5) m_X2_hours none (0, [], [some (.ref 0), some (.int p1)], [], memR s) (some (.int q.1)) (memR q.2) := by
  unfold F_X2_hours at h
  refine mEv.stp 4 (S' := (4, _, [some (.ref 0), some (.int p1)], [.int (nI 48), .int (nI 1), .int p1], memR s)) rfl ?_
  obtain ⟨v1, e2, h⟩ := bnd h
  refine mEv.callS (As := [.int p1, .int (nI 1), .int (nI 48)]) (st := []) (r := (some (.int v1))) (μ1 := memR s) lk_X2_30 rfl rfl rfl (A_X2_within (d := d + 4) e2) ?_
  refine mEv.stp 0 (S' := (7, _, [some (.ref 0), some (.int p1)], [.int v1], memR s)) rfl ?_
  refine mEv.br 1 (S1 := (17, [], [some (.ref 0), some (.int p1)], [], memR s)) (S2 := (10, _, [some (.ref 0), some (.int p1)], [], memR s)) rfl (fun c3 => ?_) (fun c3 => ?_)
  · have h := (if_pos c3).symm.trans h
    refine mEv.stp 2 (S' := (18, _, [some (.ref 0), some (.int p1)], [.ref 0], memR s)) rfl ?_
    obtain ⟨v4, e5, h⟩ := bnd h
    refine mEv.callV (As := []) (st := []) (h := 0) (r := none) (μ1 := memR v4) lk_X2_38 rfl rfl rfl rfl rfl (A_X2_keepState (d := d + 2) e5) ?_
    refine mEv.stp 0 (S' := (21, _, [some (.ref 0), some (.int p1)], [], memR v4)) rfl ?_
    refine mEv.stp 3 (S' := (26, _, [some (.ref 0), some (.int p1)], [.int p1, .ref 1], memR v4)) rfl ?_
    obtain ⟨v6, e7, h⟩ := bnd h
    refine mEv.callV (As := [.int p1]) (st := []) (h := 1) (r := (some (.int v6.1))) (μ1 := memRx (gR_sc v4) (gR_ns v4) (gR_bd v4) (gR_no v4) (gR_fu v4) v6.2 (gR_tri v4) (gR_s0 v4) (gR_s1 v4) (gR_s2 v4) (gR_s3 v4) (gR_s4 v4) (gR_txt v4)) lk_X2_97 rfl rfl rfl rfl rfl (lf_N1 (as := [.ref 0, .int p1]) (r := (some (.int v6.1))) (A_X0_passHours (d := d + 0) e7)) ?_
    refine mEv.stp 0 (S' := (29, _, [some (.ref 0), some (.int p1)], [.int v6.1], memRx (gR_sc v4) (gR_ns v4) (gR_bd v4) (gR_no v4) (gR_fu v4) v6.2 (gR_tri v4) (gR_s0 v4) (gR_s1 v4) (gR_s2 v4) (gR_s3 v4) (gR_s4 v4) (gR_txt v4))) rfl ?_
    obtain rfl := Option.some.inj h
    exact mEv.tgt memR_mk (mEv.reti ⟨_, rfl, rfl⟩)
  · have h := (if_neg c3).symm.trans h
    refine mEv.stp 2 (S' := (13, _, [some (.ref 0), some (.int p1)], [.int (-nI 2), .ref 0], memR s)) rfl ?_
    obtain ⟨v8, e9, h⟩ := bnd h
    refine mEv.callV (As := [.int (-nI 2)]) (st := []) (h := 0) (r := (some (.int v8.1))) (μ1 := memR v8.2) lk_X2_34 rfl rfl rfl rfl rfl (A_X2_refuse (d := d + 4) e9) ?_
    refine mEv.stp 0 (S' := (16, _, [some (.ref 0), some (.int p1)], [.int v8.1], memR v8.2)) rfl ?_
    obtain rfl := Option.some.inj h
    exact mEv.reti ⟨_, rfl, rfl⟩
theorem A_X2_hours {d : Nat} {p1 : Int32} {s : RouS} {q : Int32 × RouS} (h : F_X2_hours p1 s = some q) : mCall (d + 5) m_X2_hours [.ref 0, .int p1] (memR s) (some (.int q.1)) (memR q.2) := mCall.intro ok_X2_hours pl_X2_hours rfl (E_X2_hours (d := d) h)
def J_X2_going_13  (s : RouS) : Option (Int32 × RouS) := (F_X2_refuse (-nI 2) s).bind (fun v2 => some ((v2.1, v2.2)))
set_option maxRecDepth 100000 in
theorem K_X2_going_13 {d : Nat}  {s : RouS} {q : Int32 × RouS} (h : J_X2_going_13 s = some q) : mEv (d + 1) m_X2_going none (13, [], [some (.ref 0), none, none], [], memR s) (some (.int q.1)) (memR q.2) := by
  unfold J_X2_going_13 at h
  refine mEv.stp 3 (S' := (16, _, [some (.ref 0), none, none], [.int (-nI 2), .ref 0], memR s)) rfl ?_
  obtain ⟨v2, e3, h⟩ := bnd h
  refine mEv.callV (As := [.int (-nI 2)]) (st := []) (h := 0) (r := (some (.int v2.1))) (μ1 := memR v2.2) lk_X2_34 rfl rfl rfl rfl rfl (A_X2_refuse (d := d + 0) e3) ?_
  refine mEv.stp 0 (S' := (19, _, [some (.ref 0), none, none], [.int v2.1], memR v2.2)) rfl ?_
  obtain rfl := Option.some.inj h
  exact mEv.reti ⟨_, rfl, rfl⟩
def F_X2_going (p1 : Int32) (p2 : Int32) (s : RouS) : Option (Int32 × RouS) := if p1 < (nI 0) then (J_X2_going_13 s) else ((F_X2_within p2 (nI 0) (nI 3)).bind (fun v4 => if ¬ v4 = (nI 0) then (if (gN_cc (gR_now s)) ≤ p1 then (some (((-nI 1), s))) else (gI ((p1 * (nI 4)) + p2) 320 (some ((((gN_ca (gR_now s)) (Int32.toNatClampNeg ((p1 * (nI 4)) + p2))), s))))) else (J_X2_going_13 s)))
set_option maxRecDepth 100000 in
theorem E_X2_going {d : Nat} {p1 : Int32} {p2 : Int32} {s : RouS} {q : Int32 × RouS} (h : F_X2_going p1 p2 s = some q) : mEv (d + 1) m_X2_going none (0, [], [some (.ref 0), some (.int p1), some (.int p2)], [], memR s) (some (.int q.1)) (memR q.2) := by
  unfold F_X2_going at h
  refine mEv.br 3 (S1 := (13, [], [some (.ref 0), some (.int p1), some (.int p2)], [], memR s)) (S2 := (4, _, [some (.ref 0), some (.int p1), some (.int p2)], [], memR s)) rfl (fun c1 => ?_) (fun c1 => ?_)
  · have h := (if_pos c1).symm.trans h
    refine mEv.fg [1, 2] (z' := [some (.ref 0), none, none]) rfl ?_
    exact K_X2_going_13 (d := d) h
  · have h := (if_neg c1).symm.trans h
    refine mEv.stp 3 (S' := (7, _, [some (.ref 0), some (.int p1), some (.int p2)], [.int (nI 3), .int (nI 0), .int p2], memR s)) rfl ?_
    obtain ⟨v4, e5, h⟩ := bnd h
    refine mEv.callS (As := [.int p2, .int (nI 0), .int (nI 3)]) (st := []) (r := (some (.int v4))) (μ1 := memR s) lk_X2_30 rfl rfl rfl (A_X2_within (d := d + 0) e5) ?_
    refine mEv.stp 0 (S' := (10, _, [some (.ref 0), some (.int p1), some (.int p2)], [.int v4], memR s)) rfl ?_
    refine mEv.br 1 (S1 := (20, [], [some (.ref 0), some (.int p1), some (.int p2)], [], memR s)) (S2 := (13, [], [some (.ref 0), some (.int p1), some (.int p2)], [], memR s)) rfl (fun c6 => ?_) (fun c6 => ?_)
    · have h := (if_pos c6).symm.trans h
      refine mEv.br 6 (S1 := (47, [], [some (.ref 0), some (.int p1), some (.int p2)], [], memR s)) (S2 := (31, _, [some (.ref 0), some (.int p1), some (.int p2)], [], memR s)) rfl (fun c7 => ?_) (fun c7 => ?_)
      · have h := (if_pos c7).symm.trans h
        obtain rfl := Option.some.inj h
        exact mEv.stp 3 (S' := (48, _, [some (.ref 0), some (.int p1), some (.int p2)], [.int (-nI 1)], memR s)) rfl (mEv.reti ⟨_, rfl, rfl⟩)
      · have h := (if_neg c7).symm.trans h
        obtain ⟨g8, h⟩ := gI_some h
        refine mEv.gd 9 (S' := (44, _, [some (.ref 0), some (.int p1), some (.int p2)], [.int ((gN_ca (gR_now s)) (Int32.toNatClampNeg ((p1 * (nI 4)) + p2)))], memR s)) rfl g8 ?_
        obtain rfl := Option.some.inj h
        exact mEv.stp 2 (S' := (48, _, [some (.ref 0), some (.int p1), some (.int p2)], [.int ((gN_ca (gR_now s)) (Int32.toNatClampNeg ((p1 * (nI 4)) + p2)))], memR s)) rfl (mEv.reti ⟨_, rfl, rfl⟩)
    · have h := (if_neg c6).symm.trans h
      refine mEv.fg [1, 2] (z' := [some (.ref 0), none, none]) rfl ?_
      exact K_X2_going_13 (d := d) h
theorem A_X2_going {d : Nat} {p1 : Int32} {p2 : Int32} {s : RouS} {q : Int32 × RouS} (h : F_X2_going p1 p2 s = some q) : mCall (d + 1) m_X2_going [.ref 0, .int p1, .int p2] (memR s) (some (.int q.1)) (memR q.2) := mCall.intro ok_X2_going pl_X2_going rfl (E_X2_going (d := d) h)
def F_X2_ends (p1 : Int32) (s : RouS) : Option (Int32 × RouS) := if (nI 0) ≤ p1 then (if p1 < (gN_cc (gR_now s)) then ((F_X2_keepState s).bind (fun v3 => (F_X0_endCall p1 (gR_now v3)).bind (fun v5 => some (((gN_cc v5), (mkR (gR_sc v3) (gR_ns v3) (gR_bd v3) (gR_no v3) (gR_fu v3) v5 (gR_tri v3) (gR_s0 v3) (gR_s1 v3) (gR_s2 v3) (gR_s3 v3) (gR_s4 v3) (gR_txt v3))))))) else ((F_X2_refuse (-nI 3) s).bind (fun v7 => some ((v7.1, v7.2))))) else ((F_X2_refuse (-nI 2) s).bind (fun v9 => some ((v9.1, v9.2))))
set_option maxRecDepth 100000 in
theorem E_X2_ends {d : Nat} {p1 : Int32} {s : RouS} {q : Int32 × RouS} (h : F_X2_ends p1 s = some q) : mEv (d + 3) m_X2_ends none (0, [], [some (.ref 0), some (.int p1)], [], memR s) (some (.int q.1)) (memR q.2) := by
  unfold F_X2_ends at h
  refine mEv.br 3 (S1 := (11, [], [some (.ref 0), some (.int p1)], [], memR s)) (S2 := (4, _, [some (.ref 0), some (.int p1)], [], memR s)) rfl (fun c1 => ?_) (fun c1 => ?_)
  · have h := (if_pos c1).symm.trans h
    refine mEv.br 6 (S1 := (29, [], [some (.ref 0), some (.int p1)], [], memR s)) (S2 := (22, _, [some (.ref 0), some (.int p1)], [], memR s)) rfl (fun c2 => ?_) (fun c2 => ?_)
    · have h := (if_pos c2).symm.trans h
      refine mEv.stp 2 (S' := (30, _, [some (.ref 0), some (.int p1)], [.ref 0], memR s)) rfl ?_
      obtain ⟨v3, e4, h⟩ := bnd h
      refine mEv.callV (As := []) (st := []) (h := 0) (r := none) (μ1 := memR v3) lk_X2_38 rfl rfl rfl rfl rfl (A_X2_keepState (d := d + 0) e4) ?_
      refine mEv.stp 0 (S' := (33, _, [some (.ref 0), some (.int p1)], [], memR v3)) rfl ?_
      refine mEv.stp 3 (S' := (38, _, [some (.ref 0), some (.int p1)], [.int p1, .ref 1], memR v3)) rfl ?_
      obtain ⟨v5, e6, h⟩ := bnd h
      refine mEv.callV (As := [.int p1]) (st := []) (h := 1) (r := none) (μ1 := memRx (gR_sc v3) (gR_ns v3) (gR_bd v3) (gR_no v3) (gR_fu v3) v5 (gR_tri v3) (gR_s0 v3) (gR_s1 v3) (gR_s2 v3) (gR_s3 v3) (gR_s4 v3) (gR_txt v3)) lk_X2_103 rfl rfl rfl rfl rfl (lf_N1 (as := [.ref 0, .int p1]) (r := none) (A_X0_endCall (d := d + 0) e6)) ?_
      refine mEv.stp 0 (S' := (41, _, [some (.ref 0), some (.int p1)], [], memRx (gR_sc v3) (gR_ns v3) (gR_bd v3) (gR_no v3) (gR_fu v3) v5 (gR_tri v3) (gR_s0 v3) (gR_s1 v3) (gR_s2 v3) (gR_s3 v3) (gR_s4 v3) (gR_txt v3))) rfl ?_
      obtain rfl := Option.some.inj h
      exact mEv.tgt memR_mk (mEv.stp 3 (S' := (48, _, [some (.ref 0), some (.int p1)], [.int (gN_cc v5)], memRx (gR_sc v3) (gR_ns v3) (gR_bd v3) (gR_no v3) (gR_fu v3) v5 (gR_tri v3) (gR_s0 v3) (gR_s1 v3) (gR_s2 v3) (gR_s3 v3) (gR_s4 v3) (gR_txt v3))) rfl (mEv.reti ⟨_, rfl, rfl⟩))
    · have h := (if_neg c2).symm.trans h
      refine mEv.stp 2 (S' := (25, _, [some (.ref 0), some (.int p1)], [.int (-nI 3), .ref 0], memR s)) rfl ?_
      obtain ⟨v7, e8, h⟩ := bnd h
      refine mEv.callV (As := [.int (-nI 3)]) (st := []) (h := 0) (r := (some (.int v7.1))) (μ1 := memR v7.2) lk_X2_34 rfl rfl rfl rfl rfl (A_X2_refuse (d := d + 2) e8) ?_
      refine mEv.stp 0 (S' := (28, _, [some (.ref 0), some (.int p1)], [.int v7.1], memR v7.2)) rfl ?_
      obtain rfl := Option.some.inj h
      exact mEv.reti ⟨_, rfl, rfl⟩
  · have h := (if_neg c1).symm.trans h
    refine mEv.stp 2 (S' := (7, _, [some (.ref 0), some (.int p1)], [.int (-nI 2), .ref 0], memR s)) rfl ?_
    obtain ⟨v9, e10, h⟩ := bnd h
    refine mEv.callV (As := [.int (-nI 2)]) (st := []) (h := 0) (r := (some (.int v9.1))) (μ1 := memR v9.2) lk_X2_34 rfl rfl rfl rfl rfl (A_X2_refuse (d := d + 2) e10) ?_
    refine mEv.stp 0 (S' := (10, _, [some (.ref 0), some (.int p1)], [.int v9.1], memR v9.2)) rfl ?_
    obtain rfl := Option.some.inj h
    exact mEv.reti ⟨_, rfl, rfl⟩
theorem A_X2_ends {d : Nat} {p1 : Int32} {s : RouS} {q : Int32 × RouS} (h : F_X2_ends p1 s = some q) : mCall (d + 3) m_X2_ends [.ref 0, .int p1] (memR s) (some (.int q.1)) (memR q.2) := mCall.intro ok_X2_ends pl_X2_ends rfl (E_X2_ends (d := d) h)
def F_X2_all (p1 : Int32) (s : RouS) : Option (Int32 × RouS) := (F_X2_within p1 (nI 0) (nI 4)).bind (fun v1 => if v1 = (nI 0) then ((F_X2_refuse (-nI 2) s).bind (fun v4 => some ((v4.1, v4.2)))) else (gI p1 5 (some ((((gN_tt (gR_now s)) (Int32.toNatClampNeg p1)), s)))))
set_option maxRecDepth 100000 in
theorem E_X2_all {d : Nat} {p1 : Int32} {s : RouS} {q : Int32 × RouS} (h : F_X2_all p1 s = some q) : mEv (d + 1) m_X2_all none (0, [], [some (.ref 0), some (.int p1)], [], memR s) (some (.int q.1)) (memR q.2) := by
  unfold F_X2_all at h
  refine mEv.stp 4 (S' := (3, _, [some (.ref 0), some (.int p1)], [.int (nI 4), .int (nI 0), .int p1], memR s)) rfl ?_
  obtain ⟨v1, e2, h⟩ := bnd h
  refine mEv.callS (As := [.int p1, .int (nI 0), .int (nI 4)]) (st := []) (r := (some (.int v1))) (μ1 := memR s) lk_X2_30 rfl rfl rfl (A_X2_within (d := d + 0) e2) ?_
  refine mEv.stp 0 (S' := (6, _, [some (.ref 0), some (.int p1)], [.int v1], memR s)) rfl ?_
  refine mEv.br 1 (S1 := (21, [], [some (.ref 0), some (.int p1)], [], memR s)) (S2 := (9, _, [some (.ref 0), some (.int p1)], [], memR s)) rfl (fun c3 => ?_) (fun c3 => ?_)
  · have h := (if_pos c3).symm.trans h
    refine mEv.stp 3 (S' := (24, _, [some (.ref 0), some (.int p1)], [.int (-nI 2), .ref 0], memR s)) rfl ?_
    obtain ⟨v4, e5, h⟩ := bnd h
    refine mEv.callV (As := [.int (-nI 2)]) (st := []) (h := 0) (r := (some (.int v4.1))) (μ1 := memR v4.2) lk_X2_34 rfl rfl rfl rfl rfl (A_X2_refuse (d := d + 0) e5) ?_
    refine mEv.stp 0 (S' := (27, [], [some (.ref 0), some (.int p1)], [.int v4.1], memR v4.2)) rfl ?_
    obtain rfl := Option.some.inj h
    exact mEv.stp 1 (S' := (27, _, [some (.ref 0), some (.int p1)], [.int v4.1], memR v4.2)) rfl (mEv.reti ⟨_, rfl, rfl⟩)
  · have h := (if_neg c3).symm.trans h
    obtain ⟨g6, h⟩ := gI_some h
    refine mEv.gd 5 (S' := (18, _, [some (.ref 0), some (.int p1)], [.int ((gN_tt (gR_now s)) (Int32.toNatClampNeg p1))], memR s)) rfl g6 ?_
    obtain rfl := Option.some.inj h
    exact mEv.stp 2 (S' := (27, _, [some (.ref 0), some (.int p1)], [.int ((gN_tt (gR_now s)) (Int32.toNatClampNeg p1))], memR s)) rfl (mEv.reti ⟨_, rfl, rfl⟩)
theorem A_X2_all {d : Nat} {p1 : Int32} {s : RouS} {q : Int32 × RouS} (h : F_X2_all p1 s = some q) : mCall (d + 1) m_X2_all [.ref 0, .int p1] (memR s) (some (.int q.1)) (memR q.2) := mCall.intro ok_X2_all pl_X2_all rfl (E_X2_all (d := d) h)
def J_X2_pair_18  (s : RouS) : Option (Int32 × RouS) := (F_X2_refuse (-nI 2) s).bind (fun v4 => some ((v4.1, v4.2)))
set_option maxRecDepth 100000 in
theorem K_X2_pair_18 {d : Nat}  {s : RouS} {q : Int32 × RouS} (h : J_X2_pair_18 s = some q) : mEv (d + 2) m_X2_pair none (18, [], [some (.ref 0), none, none, none], [], memR s) (some (.int q.1)) (memR q.2) := by
  unfold J_X2_pair_18 at h
  refine mEv.stp 3 (S' := (21, _, [some (.ref 0), none, none, none], [.int (-nI 2), .ref 0], memR s)) rfl ?_
  obtain ⟨v4, e5, h⟩ := bnd h
  refine mEv.callV (As := [.int (-nI 2)]) (st := []) (h := 0) (r := (some (.int v4.1))) (μ1 := memR v4.2) lk_X2_34 rfl rfl rfl rfl rfl (A_X2_refuse (d := d + 1) e5) ?_
  refine mEv.stp 0 (S' := (24, _, [some (.ref 0), none, none, none], [.int v4.1], memR v4.2)) rfl ?_
  obtain rfl := Option.some.inj h
  exact mEv.reti ⟨_, rfl, rfl⟩
def F_X2_pair (p1 : Int32) (p2 : Int32) (p3 : Int32) (s : RouS) : Option (Int32 × RouS) := (F_X2_isPair p1 p2 s).bind (fun v1 => if v1 = (nI 0) then (J_X2_pair_18 s) else ((F_X2_within p3 (nI 0) (nI 4)).bind (fun v6 => if ¬ v6 = (nI 0) then ((F_X0_pairCell p1 p2).bind (fun v9 => gI ((p3 * (nI 36)) + v9) 180 (some ((((gN_ct (gR_now s)) (Int32.toNatClampNeg ((p3 * (nI 36)) + v9))), s))))) else (J_X2_pair_18 s))))
set_option maxRecDepth 100000 in
theorem E_X2_pair {d : Nat} {p1 : Int32} {p2 : Int32} {p3 : Int32} {s : RouS} {q : Int32 × RouS} (h : F_X2_pair p1 p2 p3 s = some q) : mEv (d + 2) m_X2_pair none (0, [], [some (.ref 0), some (.int p1), some (.int p2), some (.int p3)], [], memR s) (some (.int q.1)) (memR q.2) := by
  unfold F_X2_pair at h
  refine mEv.stp 4 (S' := (3, _, [some (.ref 0), some (.int p1), some (.int p2), some (.int p3)], [.int p2, .int p1, .ref 0], memR s)) rfl ?_
  obtain ⟨v1, e2, h⟩ := bnd h
  refine mEv.callV (As := [.int p1, .int p2]) (st := []) (h := 0) (r := (some (.int v1))) (μ1 := memR s) lk_X2_49 rfl rfl rfl rfl rfl (A_X2_isPair (d := d + 0) e2) ?_
  refine mEv.stp 0 (S' := (6, _, [some (.ref 0), some (.int p1), some (.int p2), some (.int p3)], [.int v1], memR s)) rfl ?_
  refine mEv.br 1 (S1 := (18, [], [some (.ref 0), some (.int p1), some (.int p2), some (.int p3)], [], memR s)) (S2 := (9, _, [some (.ref 0), some (.int p1), some (.int p2), some (.int p3)], [], memR s)) rfl (fun c3 => ?_) (fun c3 => ?_)
  · have h := (if_pos c3).symm.trans h
    refine mEv.fg [1, 2, 3] (z' := [some (.ref 0), none, none, none]) rfl ?_
    exact K_X2_pair_18 (d := d) h
  · have h := (if_neg c3).symm.trans h
    refine mEv.stp 3 (S' := (12, _, [some (.ref 0), some (.int p1), some (.int p2), some (.int p3)], [.int (nI 4), .int (nI 0), .int p3], memR s)) rfl ?_
    obtain ⟨v6, e7, h⟩ := bnd h
    refine mEv.callS (As := [.int p3, .int (nI 0), .int (nI 4)]) (st := []) (r := (some (.int v6))) (μ1 := memR s) lk_X2_30 rfl rfl rfl (A_X2_within (d := d + 1) e7) ?_
    refine mEv.stp 0 (S' := (15, _, [some (.ref 0), some (.int p1), some (.int p2), some (.int p3)], [.int v6], memR s)) rfl ?_
    refine mEv.br 1 (S1 := (25, [], [some (.ref 0), some (.int p1), some (.int p2), some (.int p3)], [], memR s)) (S2 := (18, [], [some (.ref 0), some (.int p1), some (.int p2), some (.int p3)], [], memR s)) rfl (fun c8 => ?_) (fun c8 => ?_)
    · have h := (if_pos c8).symm.trans h
      refine mEv.stp 9 (S' := (38, _, [some (.ref 0), some (.int p1), some (.int p2), some (.int p3)], [.int p2, .int p1, .int (p3 * (nI 36)), .ref 6], memR s)) rfl ?_
      obtain ⟨v9, e10, h⟩ := bnd h
      refine mEv.callS (As := [.int p1, .int p2]) (st := [.int (p3 * (nI 36)), .ref 6]) (r := (some (.int v9))) (μ1 := memR s) lk_X2_87 rfl rfl rfl (A_X0_pairCell (d := d + 1) e10) ?_
      refine mEv.stp 0 (S' := (41, _, [some (.ref 0), some (.int p1), some (.int p2), some (.int p3)], [.int v9, .int (p3 * (nI 36)), .ref 6], memR s)) rfl ?_
      obtain ⟨g11, h⟩ := gI_some h
      refine mEv.gd 2 (S' := (43, _, [some (.ref 0), some (.int p1), some (.int p2), some (.int p3)], [.int ((gN_ct (gR_now s)) (Int32.toNatClampNeg ((p3 * (nI 36)) + v9)))], memR s)) rfl g11 ?_
      obtain rfl := Option.some.inj h
      exact mEv.reti ⟨_, rfl, rfl⟩
    · have h := (if_neg c8).symm.trans h
      refine mEv.fg [1, 2, 3] (z' := [some (.ref 0), none, none, none]) rfl ?_
      exact K_X2_pair_18 (d := d) h
theorem A_X2_pair {d : Nat} {p1 : Int32} {p2 : Int32} {p3 : Int32} {s : RouS} {q : Int32 × RouS} (h : F_X2_pair p1 p2 p3 s = some q) : mCall (d + 2) m_X2_pair [.ref 0, .int p1, .int p2, .int p3] (memR s) (some (.int q.1)) (memR q.2) := mCall.intro ok_X2_pair pl_X2_pair rfl (E_X2_pair (d := d) h)
def J_X2_worst_38 (x1 : Int32) (y0 : Int32) (s : RouS) : Option (Int32 × RouS) := if x1 = (nI 1) then ((F_X0_refusedAt y0 (gR_now s)).bind (fun v8 => some ((v8, s)))) else (if x1 = (nI 3) then ((F_X0_freeWires y0 (gR_now s)).bind (fun v11 => some ((v11, s)))) else (gZ (nI 6) (gZ (nI 6) (some (((((y0 / (nI 6)) * (nI 10)) + (y0 - y0 / (nI 6) * (nI 6))), s))))))
set_option maxRecDepth 100000 in
theorem K_X2_worst_38 {d : Nat} {x1 : Int32} {y0 : Int32} {s : RouS} {q : Int32 × RouS} (h : J_X2_worst_38 x1 y0 s = some q) : mEv (d + 2) m_X2_worst none (38, [], [some (.ref 0), some (.int x1), none], [.int y0], memR s) (some (.int q.1)) (memR q.2) := by
  unfold J_X2_worst_38 at h
  refine mEv.stp 4 (S' := (mSw x1 [(nI 1, 68), (nI 3, 77)] 86, [], [some (.ref 0), some (.int x1), some (.int y0)], [], memR s)) rfl ?_
  refine mEv.sw (fun c7 => ?_) (fun c7 => ?_)
  · have h := (if_pos c7).symm.trans h
    refine mEv.stp 4 (S' := (73, _, [some (.ref 0), some (.int x1), some (.int y0)], [.int y0, .ref 1], memR s)) rfl ?_
    obtain ⟨v8, e9, h⟩ := bnd h
    refine mEv.callV (As := [.int y0]) (st := []) (h := 1) (r := (some (.int v8))) (μ1 := memR s) lk_X2_119 rfl rfl rfl rfl rfl (lf_N1 (as := [.ref 0, .int y0]) (r := (some (.int v8))) (A_X0_refusedAt (d := d + 1) e9)) ?_
    refine mEv.stp 0 (S' := (76, _, [some (.ref 0), some (.int x1), some (.int y0)], [.int v8], memR s)) rfl ?_
    obtain rfl := Option.some.inj h
    exact mEv.reti ⟨_, rfl, rfl⟩
  · have h := (if_neg c7).symm.trans h
    refine mEv.sw (fun c10 => ?_) (fun c10 => ?_)
    · have h := (if_pos c10).symm.trans h
      refine mEv.stp 4 (S' := (82, _, [some (.ref 0), some (.int x1), some (.int y0)], [.int y0, .ref 1], memR s)) rfl ?_
      obtain ⟨v11, e12, h⟩ := bnd h
      refine mEv.callV (As := [.int y0]) (st := []) (h := 1) (r := (some (.int v11))) (μ1 := memR s) lk_X2_78 rfl rfl rfl rfl rfl (lf_N1 (as := [.ref 0, .int y0]) (r := (some (.int v11))) (A_X0_freeWires (d := d + 1) e12)) ?_
      refine mEv.stp 0 (S' := (85, _, [some (.ref 0), some (.int x1), some (.int y0)], [.int v11], memR s)) rfl ?_
      obtain rfl := Option.some.inj h
      exact mEv.reti ⟨_, rfl, rfl⟩
    · have h := (if_neg c10).symm.trans h
      refine mEv.stp 0 (S' := (86, [], [some (.ref 0), some (.int x1), some (.int y0)], [], memR s)) rfl ?_
      obtain ⟨g13, h⟩ := gZ_some h
      refine mEv.gd 4 (S' := (90, _, [some (.ref 0), some (.int x1), some (.int y0)], [.int (y0 / (nI 6))], memR s)) rfl g13 ?_
      obtain ⟨g14, h⟩ := gZ_some h
      refine mEv.gd 5 (S' := (97, _, [some (.ref 0), some (.int x1), some (.int y0)], [.int (y0 - y0 / (nI 6) * (nI 6)), .int ((y0 / (nI 6)) * (nI 10))], memR s)) rfl g14 ?_
      obtain rfl := Option.some.inj h
      exact mEv.stp 1 (S' := (98, _, [some (.ref 0), some (.int x1), some (.int y0)], [.int (((y0 / (nI 6)) * (nI 10)) + (y0 - y0 / (nI 6) * (nI 6)))], memR s)) rfl (mEv.reti ⟨_, rfl, rfl⟩)
def F_X2_worst (p1 : Int32) (s : RouS) : Option (Int32 × RouS) := (F_X2_within p1 (nI 0) (nI 3)).bind (fun v1 => if ¬ v1 = (nI 0) then (if (nI 2) ≤ p1 then ((F_X0_scarcestLink (gR_now s)).bind (fun v5 => J_X2_worst_38 p1 v5 s)) else ((F_X0_mostRefusedPair (gR_now s)).bind (fun v15 => J_X2_worst_38 p1 v15 s))) else ((F_X2_refuse (-nI 2) s).bind (fun v17 => some ((v17.1, v17.2)))))
set_option maxRecDepth 100000 in
theorem E_X2_worst {d : Nat} {p1 : Int32} {s : RouS} {q : Int32 × RouS} (h : F_X2_worst p1 s = some q) : mEv (d + 2) m_X2_worst none (0, [], [some (.ref 0), some (.int p1), none], [], memR s) (some (.int q.1)) (memR q.2) := by
  unfold F_X2_worst at h
  refine mEv.stp 4 (S' := (3, _, [some (.ref 0), some (.int p1), none], [.int (nI 3), .int (nI 0), .int p1], memR s)) rfl ?_
  obtain ⟨v1, e2, h⟩ := bnd h
  refine mEv.callS (As := [.int p1, .int (nI 0), .int (nI 3)]) (st := []) (r := (some (.int v1))) (μ1 := memR s) lk_X2_30 rfl rfl rfl (A_X2_within (d := d + 1) e2) ?_
  refine mEv.stp 0 (S' := (6, _, [some (.ref 0), some (.int p1), none], [.int v1], memR s)) rfl ?_
  refine mEv.br 1 (S1 := (16, [], [some (.ref 0), some (.int p1), none], [], memR s)) (S2 := (9, _, [some (.ref 0), some (.int p1), none], [], memR s)) rfl (fun c3 => ?_) (fun c3 => ?_)
  · have h := (if_pos c3).symm.trans h
    refine mEv.br 4 (S1 := (31, [], [some (.ref 0), some (.int p1), none], [], memR s)) (S2 := (21, _, [some (.ref 0), some (.int p1), none], [], memR s)) rfl (fun c4 => ?_) (fun c4 => ?_)
    · have h := (if_pos c4).symm.trans h
      refine mEv.stp 3 (S' := (35, _, [some (.ref 0), some (.int p1), none], [.ref 1], memR s)) rfl ?_
      obtain ⟨v5, e6, h⟩ := bnd h
      refine mEv.callV (As := []) (st := []) (h := 1) (r := (some (.int v5))) (μ1 := memR s) lk_X2_116 rfl rfl rfl rfl rfl (lf_N1 (as := [.ref 0]) (r := (some (.int v5))) (A_X0_scarcestLink (d := d + 0) e6)) ?_
      refine mEv.stp 0 (S' := (38, [], [some (.ref 0), some (.int p1), none], [.int v5], memR s)) rfl ?_
      exact K_X2_worst_38 (d := d) h
    · have h := (if_neg c4).symm.trans h
      refine mEv.stp 2 (S' := (25, _, [some (.ref 0), some (.int p1), none], [.ref 1], memR s)) rfl ?_
      obtain ⟨v15, e16, h⟩ := bnd h
      refine mEv.callV (As := []) (st := []) (h := 1) (r := (some (.int v15))) (μ1 := memR s) lk_X2_112 rfl rfl rfl rfl rfl (lf_N1 (as := [.ref 0]) (r := (some (.int v15))) (A_X0_mostRefusedPair (d := d + 0) e16)) ?_
      refine mEv.stp 0 (S' := (28, _, [some (.ref 0), some (.int p1), none], [.int v15], memR s)) rfl ?_
      refine mEv.stp 1 (S' := (38, [], [some (.ref 0), some (.int p1), none], [.int v15], memR s)) rfl ?_
      exact K_X2_worst_38 (d := d) h
  · have h := (if_neg c3).symm.trans h
    refine mEv.stp 2 (S' := (12, _, [some (.ref 0), some (.int p1), none], [.int (-nI 2), .ref 0], memR s)) rfl ?_
    obtain ⟨v17, e18, h⟩ := bnd h
    refine mEv.callV (As := [.int (-nI 2)]) (st := []) (h := 0) (r := (some (.int v17.1))) (μ1 := memR v17.2) lk_X2_34 rfl rfl rfl rfl rfl (A_X2_refuse (d := d + 1) e18) ?_
    refine mEv.stp 0 (S' := (15, _, [some (.ref 0), some (.int p1), none], [.int v17.1], memR v17.2)) rfl ?_
    obtain rfl := Option.some.inj h
    exact mEv.reti ⟨_, rfl, rfl⟩
theorem A_X2_worst {d : Nat} {p1 : Int32} {s : RouS} {q : Int32 × RouS} (h : F_X2_worst p1 s = some q) : mCall (d + 2) m_X2_worst [.ref 0, .int p1] (memR s) (some (.int q.1)) (memR q.2) := mCall.intro ok_X2_worst pl_X2_worst rfl (E_X2_worst (d := d) h)
def F_X2_burden  (s : RouS) : Option (Int32) := if ¬ (gN_cc (gR_now s)) = (nI 0) then ((F_X0_wiresHeld (gR_now s)).bind (fun v2 => gZ (gN_cc (gR_now s)) (some (((v2 * (nI 1000)) / (gN_cc (gR_now s))))))) else (some ((nI 0)))
set_option maxRecDepth 100000 in
theorem E_X2_burden {d : Nat}  {s : RouS} {q : Int32} (h : F_X2_burden s = some q) : mEv (d + 1) m_X2_burden none (0, [], [some (.ref 0)], [], memR s) (some (.int q)) (memR s) := by
  unfold F_X2_burden at h
  refine mEv.br 5 (S1 := (14, [], [some (.ref 0)], [], memR s)) (S2 := (10, _, [some (.ref 0)], [], memR s)) rfl (fun c1 => ?_) (fun c1 => ?_)
  · have h := (if_pos c1).symm.trans h
    refine mEv.stp 3 (S' := (18, _, [some (.ref 0)], [.ref 1], memR s)) rfl ?_
    obtain ⟨v2, e3, h⟩ := bnd h
    refine mEv.callV (As := []) (st := []) (h := 1) (r := (some (.int v2))) (μ1 := memR s) lk_X2_122 rfl rfl rfl rfl rfl (lf_N1 (as := [.ref 0]) (r := (some (.int v2))) (A_X0_wiresHeld (d := d + 0) e3)) ?_
    refine mEv.stp 0 (S' := (21, _, [some (.ref 0)], [.int v2], memR s)) rfl ?_
    obtain ⟨g4, h⟩ := gZ_some h
    refine mEv.gd 6 (S' := (33, [], [some (.ref 0)], [.int ((v2 * (nI 1000)) / (gN_cc (gR_now s)))], memR s)) rfl g4 ?_
    obtain rfl := Option.some.inj h
    exact mEv.stp 1 (S' := (33, _, [some (.ref 0)], [.int ((v2 * (nI 1000)) / (gN_cc (gR_now s)))], memR s)) rfl (mEv.reti ⟨_, rfl, rfl⟩)
  · have h := (if_neg c1).symm.trans h
    obtain rfl := Option.some.inj h
    exact mEv.stp 3 (S' := (33, _, [some (.ref 0)], [.int (nI 0)], memR s)) rfl (mEv.reti ⟨_, rfl, rfl⟩)
theorem A_X2_burden {d : Nat}  {s : RouS} {q : Int32} (h : F_X2_burden s = some q) : mCall (d + 1) m_X2_burden [.ref 0] (memR s) (some (.int q)) (memR s) := mCall.intro ok_X2_burden pl_X2_burden rfl (E_X2_burden (d := d) h)
def B_X2_refusedWith_28 (x2 : Int32) (x3 : Int32) (x4 : Int32) (x5 : Int32) (s : RouS) : Option ((Int32 × Int32 × RouS) ⊕ (Int32 × RouS)) := if x2 ≤ x5 then (some (.inr (x4, s))) else (if x3 ≤ x4 then (some (.inr (x4, s))) else ((F_X0_passHours (nI 1) (gR_tri s)).bind (fun v7 => gI (nI 4) 5 (gI (nI 4) 5 (some (.inl ((((gN_tt v7.2) (Int32.toNatClampNeg (nI 4))) - ((gN_tt (gR_now s)) (Int32.toNatClampNeg (nI 4)))), (x5 + (nI 1)), (mkR (gR_sc s) (gR_ns s) (gR_bd s) (gR_no s) (gR_fu s) (gR_now s) v7.2 (gR_s0 s) (gR_s1 s) (gR_s2 s) (gR_s3 s) (gR_s4 s) (gR_txt s)))))))))
set_option maxRecDepth 100000 in
theorem H_X2_refusedWith_28 {d : Nat} {x2 : Int32} {x3 : Int32} {x4 : Int32} {x5 : Int32} {s : RouS} {q : (Int32 × Int32 × RouS) ⊕ (Int32 × RouS)} {r0 : Option Value} {mu0 : MMe} (h : B_X2_refusedWith_28 x2 x3 x4 x5 s = some q) (hk : Sum.elim (fun x : Int32 × Int32 × RouS => mEv (d + 5) m_X2_refusedWith none (28, [], [some (.ref 0), none, some (.int x2), some (.int x3), some (.int x.1), some (.int x.2.1)], [], memR x.2.2) r0 mu0) (fun z : Int32 × RouS => mEv (d + 5) m_X2_refusedWith none (76, [], [none, none, none, none, some (.int z.1), none], [], memR z.2) r0 mu0) q) : mEv (d + 5) m_X2_refusedWith none (28, [], [some (.ref 0), none, some (.int x2), some (.int x3), some (.int x4), some (.int x5)], [], memR s) r0 mu0 := by
  unfold B_X2_refusedWith_28 at h
  refine mEv.br 4 (S1 := (76, [], [some (.ref 0), none, some (.int x2), some (.int x3), some (.int x4), some (.int x5)], [], memR s)) (S2 := (34, _, [some (.ref 0), none, some (.int x2), some (.int x3), some (.int x4), some (.int x5)], [], memR s)) rfl (fun c5 => ?_) (fun c5 => ?_)
  · have h := (if_pos c5).symm.trans h
    refine mEv.fg [0, 2, 3, 5] (z' := [none, none, none, none, some (.int x4), none]) rfl ?_
    obtain rfl := Option.some.inj h
    exact hk
  · have h := (if_neg c5).symm.trans h
    refine mEv.br 3 (S1 := (76, [], [some (.ref 0), none, some (.int x2), some (.int x3), some (.int x4), some (.int x5)], [], memR s)) (S2 := (40, _, [some (.ref 0), none, some (.int x2), some (.int x3), some (.int x4), some (.int x5)], [], memR s)) rfl (fun c6 => ?_) (fun c6 => ?_)
    · have h := (if_pos c6).symm.trans h
      refine mEv.fg [0, 2, 3, 5] (z' := [none, none, none, none, some (.int x4), none]) rfl ?_
      obtain rfl := Option.some.inj h
      exact hk
    · have h := (if_neg c6).symm.trans h
      refine mEv.stp 3 (S' := (45, _, [some (.ref 0), none, some (.int x2), some (.int x3), some (.int x4), some (.int x5)], [.int (nI 1), .ref 10], memR s)) rfl ?_
      obtain ⟨v7, e8, h⟩ := bnd h
      refine mEv.callV (As := [.int (nI 1)]) (st := []) (h := 10) (r := (some (.int v7.1))) (μ1 := memRx (gR_sc s) (gR_ns s) (gR_bd s) (gR_no s) (gR_fu s) (gR_now s) v7.2 (gR_s0 s) (gR_s1 s) (gR_s2 s) (gR_s3 s) (gR_s4 s) (gR_txt s)) lk_X2_97 rfl rfl rfl rfl rfl (lf_N10 (as := [.ref 0, .int (nI 1)]) (r := (some (.int v7.1))) (A_X0_passHours (d := d + 0) e8)) ?_
      refine mEv.stp 0 (S' := (48, _, [some (.ref 0), none, some (.int x2), some (.int x3), some (.int x4), some (.int x5)], [.int v7.1], memRx (gR_sc s) (gR_ns s) (gR_bd s) (gR_no s) (gR_fu s) (gR_now s) v7.2 (gR_s0 s) (gR_s1 s) (gR_s2 s) (gR_s3 s) (gR_s4 s) (gR_txt s))) rfl ?_
      obtain ⟨g9, h⟩ := gI_some h
      refine mEv.gd 6 (S' := (58, _, [some (.ref 0), none, some (.int x2), some (.int x3), some (.int x4), some (.int x5)], [.int ((gN_tt v7.2) (Int32.toNatClampNeg (nI 4)))], memRx (gR_sc s) (gR_ns s) (gR_bd s) (gR_no s) (gR_fu s) (gR_now s) v7.2 (gR_s0 s) (gR_s1 s) (gR_s2 s) (gR_s3 s) (gR_s4 s) (gR_txt s))) rfl g9 ?_
      obtain ⟨g10, h⟩ := gI_some h
      refine mEv.gd 5 (S' := (67, _, [some (.ref 0), none, some (.int x2), some (.int x3), some (.int x4), some (.int x5)], [.int ((gN_tt (gR_now s)) (Int32.toNatClampNeg (nI 4))), .int ((gN_tt v7.2) (Int32.toNatClampNeg (nI 4)))], memRx (gR_sc s) (gR_ns s) (gR_bd s) (gR_no s) (gR_fu s) (gR_now s) v7.2 (gR_s0 s) (gR_s1 s) (gR_s2 s) (gR_s3 s) (gR_s4 s) (gR_txt s))) rfl g10 ?_
      refine mEv.stp 4 (S' := (28, [], [some (.ref 0), none, some (.int x2), some (.int x3), some (.int (((gN_tt v7.2) (Int32.toNatClampNeg (nI 4))) - ((gN_tt (gR_now s)) (Int32.toNatClampNeg (nI 4))))), some (.int (x5 + (nI 1)))], [], memRx (gR_sc s) (gR_ns s) (gR_bd s) (gR_no s) (gR_fu s) (gR_now s) v7.2 (gR_s0 s) (gR_s1 s) (gR_s2 s) (gR_s3 s) (gR_s4 s) (gR_txt s))) rfl ?_
      refine mEv.mem memR_mk ?_
      obtain rfl := Option.some.inj h
      exact hk
def F_X2_refusedWith (p1 : Int32) (p2 : Int32) (p3 : Int32) (s : RouS) : Option (Int32 × RouS) := (F_X0_copyFrom (gR_now s) (gR_tri s)).bind (fun v1 => (F_X0_fill p1 36 (gN_r v1)).bind (fun v3 => (mWh (fun x => B_X2_refusedWith_28 p2 p3 x.1 x.2.1 x.2.2) fuel0 ((nI 0), (nI 0), (mkR (gR_sc s) (gR_ns s) (gR_bd s) (gR_no s) (gR_fu s) (gR_now s) (mkN (gN_tc v1) (gN_hb v1) (gN_x v1) (gN_hg v1) (gN_cc v1) (gN_w v1) v3 (gN_hd v1) (gN_st v1) (gN_ct v1) (gN_tt v1) (gN_ld v1) (gN_ca v1)) (gR_s0 s) (gR_s1 s) (gR_s2 s) (gR_s3 s) (gR_s4 s) (gR_txt s)))).bind (fun z11 => some ((z11.1, z11.2)))))
set_option maxRecDepth 100000 in
theorem E_X2_refusedWith {d : Nat} {p1 : Int32} {p2 : Int32} {p3 : Int32} {s : RouS} {q : Int32 × RouS} (h : F_X2_refusedWith p1 p2 p3 s = some q) : mEv (d + 5) m_X2_refusedWith none (0, [], [some (.ref 0), some (.int p1), some (.int p2), some (.int p3), none, none], [], memR s) (some (.int q.1)) (memR q.2) := by
  unfold F_X2_refusedWith at h
  refine mEv.stp 5 (S' := (8, _, [some (.ref 0), some (.int p1), some (.int p2), some (.int p3), none, none], [.ref 1, .ref 10], memR s)) rfl ?_
  obtain ⟨v1, e2, h⟩ := bnd h
  refine mEv.callV (As := [.ref 1]) (st := []) (h := 10) (r := none) (μ1 := memRx (gR_sc s) (gR_ns s) (gR_bd s) (gR_no s) (gR_fu s) (gR_now s) v1 (gR_s0 s) (gR_s1 s) (gR_s2 s) (gR_s3 s) (gR_s4 s) (gR_txt s)) lk_X2_161 rfl rfl rfl rfl rfl (lf_NN10_1 (as := [.ref 0, .ref 9]) (r := none) (A_X0_copyFrom (d := d + 3) e2)) ?_
  refine mEv.stp 0 (S' := (11, _, [some (.ref 0), some (.int p1), some (.int p2), some (.int p3), none, none], [], memRx (gR_sc s) (gR_ns s) (gR_bd s) (gR_no s) (gR_fu s) (gR_now s) v1 (gR_s0 s) (gR_s1 s) (gR_s2 s) (gR_s3 s) (gR_s4 s) (gR_txt s))) rfl ?_
  refine mEv.stp 4 (S' := (19, _, [some (.ref 0), some (.int p1), some (.int p2), some (.int p3), none, none], [.int p1, .ref 12], memRx (gR_sc s) (gR_ns s) (gR_bd s) (gR_no s) (gR_fu s) (gR_now s) v1 (gR_s0 s) (gR_s1 s) (gR_s2 s) (gR_s3 s) (gR_s4 s) (gR_txt s))) rfl ?_
  obtain ⟨v3, e4, h⟩ := bnd h
  refine mEv.callS (As := [.ref 12, .int p1]) (st := []) (r := none) (μ1 := memRx (gR_sc s) (gR_ns s) (gR_bd s) (gR_no s) (gR_fu s) (gR_now s) (mkN (gN_tc v1) (gN_hb v1) (gN_x v1) (gN_hg v1) (gN_cc v1) (gN_w v1) v3 (gN_hd v1) (gN_st v1) (gN_ct v1) (gN_tt v1) (gN_ld v1) (gN_ca v1)) (gR_s0 s) (gR_s1 s) (gR_s2 s) (gR_s3 s) (gR_s4 s) (gR_txt s)) lk_X2_64 rfl rfl rfl (lf_F12 (as := [.ref 0, .int p1]) (r := none) (A_X0_fill (d := d + 4) e4)) ?_
  refine mEv.stp 0 (S' := (22, _, [some (.ref 0), some (.int p1), some (.int p2), some (.int p3), none, none], [], memRx (gR_sc s) (gR_ns s) (gR_bd s) (gR_no s) (gR_fu s) (gR_now s) (mkN (gN_tc v1) (gN_hb v1) (gN_x v1) (gN_hg v1) (gN_cc v1) (gN_w v1) v3 (gN_hd v1) (gN_st v1) (gN_ct v1) (gN_tt v1) (gN_ld v1) (gN_ca v1)) (gR_s0 s) (gR_s1 s) (gR_s2 s) (gR_s3 s) (gR_s4 s) (gR_txt s))) rfl ?_
  refine mEv.stp 4 (S' := (28, [], [some (.ref 0), some (.int p1), some (.int p2), some (.int p3), some (.int (nI 0)), some (.int (nI 0))], [], memRx (gR_sc s) (gR_ns s) (gR_bd s) (gR_no s) (gR_fu s) (gR_now s) (mkN (gN_tc v1) (gN_hb v1) (gN_x v1) (gN_hg v1) (gN_cc v1) (gN_w v1) v3 (gN_hd v1) (gN_st v1) (gN_ct v1) (gN_tt v1) (gN_ld v1) (gN_ca v1)) (gR_s0 s) (gR_s1 s) (gR_s2 s) (gR_s3 s) (gR_s4 s) (gR_txt s))) rfl ?_
  refine mEv.fg [1] (z' := [some (.ref 0), none, some (.int p2), some (.int p3), some (.int (nI 0)), some (.int (nI 0))]) rfl ?_
  refine mEv.mem memR_mk ?_
  obtain ⟨z11, e12, h⟩ := bnd h
  refine mWh_ind (b := (fun x => B_X2_refusedWith_28 p2 p3 x.1 x.2.1 x.2.2)) (P := fun x : Int32 × Int32 × RouS => mEv (d + 5) m_X2_refusedWith none (28, [], [some (.ref 0), none, some (.int p2), some (.int p3), some (.int x.1), some (.int x.2.1)], [], memR x.2.2) (some (.int q.1)) (memR q.2)) (K := fun z : Int32 × RouS => mEv (d + 5) m_X2_refusedWith none (76, [], [none, none, none, none, some (.int z.1), none], [], memR z.2) (some (.int q.1)) (memR q.2)) (fun x u hq hk => H_X2_refusedWith_28 (d := d) (x2 := p2) (x3 := p3) (x4 := x.1) (x5 := x.2.1) (s := x.2.2) (q := u) (r0 := (some (.int q.1))) (mu0 := (memR q.2)) hq hk) fuel0 ((nI 0), (nI 0), (mkR (gR_sc s) (gR_ns s) (gR_bd s) (gR_no s) (gR_fu s) (gR_now s) (mkN (gN_tc v1) (gN_hb v1) (gN_x v1) (gN_hg v1) (gN_cc v1) (gN_w v1) v3 (gN_hd v1) (gN_st v1) (gN_ct v1) (gN_tt v1) (gN_ld v1) (gN_ca v1)) (gR_s0 s) (gR_s1 s) (gR_s2 s) (gR_s3 s) (gR_s4 s) (gR_txt s))) z11 e12 ?_
  refine mEv.stp 0 (S' := (76, [], [none, none, none, none, some (.int z11.1), none], [], memR z11.2)) rfl ?_
  obtain rfl := Option.some.inj h
  exact mEv.stp 2 (S' := (78, _, [none, none, none, none, some (.int z11.1), none], [.int z11.1], memR z11.2)) rfl (mEv.reti ⟨_, rfl, rfl⟩)
theorem A_X2_refusedWith {d : Nat} {p1 : Int32} {p2 : Int32} {p3 : Int32} {s : RouS} {q : Int32 × RouS} (h : F_X2_refusedWith p1 p2 p3 s = some q) : mCall (d + 5) m_X2_refusedWith [.ref 0, .int p1, .int p2, .int p3] (memR s) (some (.int q.1)) (memR q.2) := mCall.intro ok_X2_refusedWith pl_X2_refusedWith rfl (E_X2_refusedWith (d := d) h)
def J_X2_would_20  (s : RouS) : Option (Int32 × RouS) := (F_X2_refuse (-nI 2) s).bind (fun v4 => some ((v4.1, v4.2)))
set_option maxRecDepth 100000 in
theorem K_X2_would_20 {d : Nat}  {s : RouS} {q : Int32 × RouS} (h : J_X2_would_20 s = some q) : mEv (d + 6) m_X2_would none (20, [], [some (.ref 0), none, none], [], memR s) (some (.int q.1)) (memR q.2) := by
  unfold J_X2_would_20 at h
  refine mEv.stp 3 (S' := (23, _, [some (.ref 0), none, none], [.int (-nI 2), .ref 0], memR s)) rfl ?_
  obtain ⟨v4, e5, h⟩ := bnd h
  refine mEv.callV (As := [.int (-nI 2)]) (st := []) (h := 0) (r := (some (.int v4.1))) (μ1 := memR v4.2) lk_X2_34 rfl rfl rfl rfl rfl (A_X2_refuse (d := d + 5) e5) ?_
  refine mEv.stp 0 (S' := (26, _, [some (.ref 0), none, none], [.int v4.1], memR v4.2)) rfl ?_
  obtain rfl := Option.some.inj h
  exact mEv.reti ⟨_, rfl, rfl⟩
def F_X2_would (p1 : Int32) (p2 : Int32) (s : RouS) : Option (Int32 × RouS) := (F_X2_within p1 (nI 1) (nI 48)).bind (fun v1 => if v1 = (nI 0) then (J_X2_would_20 s) else ((F_X2_within p2 (nI 0) (nI 30)).bind (fun v6 => if ¬ v6 = (nI 0) then ((F_X2_refusedWith p2 p1 (nI 1000000) s).bind (fun v9 => some ((v9.1, v9.2)))) else (J_X2_would_20 s))))
set_option maxRecDepth 100000 in
theorem E_X2_would {d : Nat} {p1 : Int32} {p2 : Int32} {s : RouS} {q : Int32 × RouS} (h : F_X2_would p1 p2 s = some q) : mEv (d + 6) m_X2_would none (0, [], [some (.ref 0), some (.int p1), some (.int p2)], [], memR s) (some (.int q.1)) (memR q.2) := by
  unfold F_X2_would at h
  refine mEv.stp 4 (S' := (4, _, [some (.ref 0), some (.int p1), some (.int p2)], [.int (nI 48), .int (nI 1), .int p1], memR s)) rfl ?_
  obtain ⟨v1, e2, h⟩ := bnd h
  refine mEv.callS (As := [.int p1, .int (nI 1), .int (nI 48)]) (st := []) (r := (some (.int v1))) (μ1 := memR s) lk_X2_30 rfl rfl rfl (A_X2_within (d := d + 5) e2) ?_
  refine mEv.stp 0 (S' := (7, _, [some (.ref 0), some (.int p1), some (.int p2)], [.int v1], memR s)) rfl ?_
  refine mEv.br 1 (S1 := (20, [], [some (.ref 0), some (.int p1), some (.int p2)], [], memR s)) (S2 := (10, _, [some (.ref 0), some (.int p1), some (.int p2)], [], memR s)) rfl (fun c3 => ?_) (fun c3 => ?_)
  · have h := (if_pos c3).symm.trans h
    refine mEv.fg [1, 2] (z' := [some (.ref 0), none, none]) rfl ?_
    exact K_X2_would_20 (d := d) h
  · have h := (if_neg c3).symm.trans h
    refine mEv.stp 3 (S' := (14, _, [some (.ref 0), some (.int p1), some (.int p2)], [.int (nI 30), .int (nI 0), .int p2], memR s)) rfl ?_
    obtain ⟨v6, e7, h⟩ := bnd h
    refine mEv.callS (As := [.int p2, .int (nI 0), .int (nI 30)]) (st := []) (r := (some (.int v6))) (μ1 := memR s) lk_X2_30 rfl rfl rfl (A_X2_within (d := d + 5) e7) ?_
    refine mEv.stp 0 (S' := (17, _, [some (.ref 0), some (.int p1), some (.int p2)], [.int v6], memR s)) rfl ?_
    refine mEv.br 1 (S1 := (27, [], [some (.ref 0), some (.int p1), some (.int p2)], [], memR s)) (S2 := (20, [], [some (.ref 0), some (.int p1), some (.int p2)], [], memR s)) rfl (fun c8 => ?_) (fun c8 => ?_)
    · have h := (if_pos c8).symm.trans h
      refine mEv.stp 5 (S' := (32, _, [some (.ref 0), some (.int p1), some (.int p2)], [.int (nI 1000000), .int p1, .int p2, .ref 0], memR s)) rfl ?_
      obtain ⟨v9, e10, h⟩ := bnd h
      refine mEv.callV (As := [.int p2, .int p1, .int (nI 1000000)]) (st := []) (h := 0) (r := (some (.int v9.1))) (μ1 := memR v9.2) lk_X2_126 rfl rfl rfl rfl rfl (A_X2_refusedWith (d := d + 0) e10) ?_
      refine mEv.stp 0 (S' := (35, _, [some (.ref 0), some (.int p1), some (.int p2)], [.int v9.1], memR v9.2)) rfl ?_
      obtain rfl := Option.some.inj h
      exact mEv.reti ⟨_, rfl, rfl⟩
    · have h := (if_neg c8).symm.trans h
      refine mEv.fg [1, 2] (z' := [some (.ref 0), none, none]) rfl ?_
      exact K_X2_would_20 (d := d) h
theorem A_X2_would {d : Nat} {p1 : Int32} {p2 : Int32} {s : RouS} {q : Int32 × RouS} (h : F_X2_would p1 p2 s = some q) : mCall (d + 6) m_X2_would [.ref 0, .int p1, .int p2] (memR s) (some (.int q.1)) (memR q.2) := mCall.intro ok_X2_would pl_X2_would rfl (E_X2_would (d := d) h)
def J_X2_best_19  (s : RouS) : Option (Int32 × RouS) := (F_X2_refuse (-nI 2) s).bind (fun v4 => some ((v4.1, v4.2)))
set_option maxRecDepth 100000 in
theorem K_X2_best_19 {d : Nat}  {s : RouS} {q : Int32 × RouS} (h : J_X2_best_19 s = some q) : mEv (d + 6) m_X2_best none (19, [], [some (.ref 0), none, none, none, none, none, none], [], memR s) (some (.int q.1)) (memR q.2) := by
  unfold J_X2_best_19 at h
  refine mEv.stp 3 (S' := (22, _, [some (.ref 0), none, none, none, none, none, none], [.int (-nI 2), .ref 0], memR s)) rfl ?_
  obtain ⟨v4, e5, h⟩ := bnd h
  refine mEv.callV (As := [.int (-nI 2)]) (st := []) (h := 0) (r := (some (.int v4.1))) (μ1 := memR v4.2) lk_X2_34 rfl rfl rfl rfl rfl (A_X2_refuse (d := d + 5) e5) ?_
  refine mEv.stp 0 (S' := (25, _, [some (.ref 0), none, none, none, none, none, none], [.int v4.1], memR v4.2)) rfl ?_
  obtain rfl := Option.some.inj h
  exact mEv.reti ⟨_, rfl, rfl⟩
def B_X2_best_35 (x1 : Int32) (x2 : Int32) (x3 : Int32) (x4 : Int32) (x5 : Int32) (s : RouS) : Option ((Int32 × Int32 × Int32 × RouS) ⊕ (Int32 × Int32 × RouS)) := if (nI 30) < x5 then (some (.inr (x3, x4, s))) else (if x4 ≤ (nI 0) then (some (.inr (x3, x4, s))) else ((F_X2_refusedWith x5 x1 x4 s).bind (fun v11 => if x4 ≤ v11.1 then (some (.inl (x3, x4, (x5 + (nI 1)), v11.2))) else (some (.inl (x5, v11.1, (x5 + (nI 1)), v11.2))))))
set_option maxRecDepth 100000 in
theorem H_X2_best_35 {d : Nat} {x1 : Int32} {x2 : Int32} {x3 : Int32} {x4 : Int32} {x5 : Int32} {s : RouS} {q : (Int32 × Int32 × Int32 × RouS) ⊕ (Int32 × Int32 × RouS)} {r0 : Option Value} {mu0 : MMe} (h : B_X2_best_35 x1 x2 x3 x4 x5 s = some q) (hk : Sum.elim (fun x : Int32 × Int32 × Int32 × RouS => mEv (d + 6) m_X2_best none (35, [], [some (.ref 0), some (.int x1), some (.int x2), some (.int x.1), some (.int x.2.1), some (.int x.2.2.1), none], [], memR x.2.2.2) r0 mu0) (fun z : Int32 × Int32 × RouS => mEv (d + 6) m_X2_best none (78, [], [none, none, some (.int x2), some (.int z.1), some (.int z.2.1), none, none], [], memR z.2.2) r0 mu0) q) : mEv (d + 6) m_X2_best none (35, [], [some (.ref 0), some (.int x1), some (.int x2), some (.int x3), some (.int x4), some (.int x5), none], [], memR s) r0 mu0 := by
  unfold B_X2_best_35 at h
  refine mEv.br 4 (S1 := (78, [], [some (.ref 0), some (.int x1), some (.int x2), some (.int x3), some (.int x4), some (.int x5), none], [], memR s)) (S2 := (42, _, [some (.ref 0), some (.int x1), some (.int x2), some (.int x3), some (.int x4), some (.int x5), none], [], memR s)) rfl (fun c9 => ?_) (fun c9 => ?_)
  · have h := (if_pos c9).symm.trans h
    refine mEv.fg [0, 1, 5] (z' := [none, none, some (.int x2), some (.int x3), some (.int x4), none, none]) rfl ?_
    obtain rfl := Option.some.inj h
    exact hk
  · have h := (if_neg c9).symm.trans h
    refine mEv.br 2 (S1 := (78, [], [some (.ref 0), some (.int x1), some (.int x2), some (.int x3), some (.int x4), some (.int x5), none], [], memR s)) (S2 := (47, _, [some (.ref 0), some (.int x1), some (.int x2), some (.int x3), some (.int x4), some (.int x5), none], [], memR s)) rfl (fun c10 => ?_) (fun c10 => ?_)
    · have h := (if_pos c10).symm.trans h
      refine mEv.fg [0, 1, 5] (z' := [none, none, some (.int x2), some (.int x3), some (.int x4), none, none]) rfl ?_
      obtain rfl := Option.some.inj h
      exact hk
    · have h := (if_neg c10).symm.trans h
      refine mEv.stp 4 (S' := (53, _, [some (.ref 0), some (.int x1), some (.int x2), some (.int x3), some (.int x4), some (.int x5), none], [.int x4, .int x1, .int x5, .ref 0], memR s)) rfl ?_
      obtain ⟨v11, e12, h⟩ := bnd h
      refine mEv.callV (As := [.int x5, .int x1, .int x4]) (st := []) (h := 0) (r := (some (.int v11.1))) (μ1 := memR v11.2) lk_X2_126 rfl rfl rfl rfl rfl (A_X2_refusedWith (d := d + 0) e12) ?_
      refine mEv.stp 0 (S' := (56, _, [some (.ref 0), some (.int x1), some (.int x2), some (.int x3), some (.int x4), some (.int x5), none], [.int v11.1], memR v11.2)) rfl ?_
      refine mEv.br 4 (S1 := (72, [], [some (.ref 0), some (.int x1), some (.int x2), some (.int x3), some (.int x4), some (.int x5), some (.int v11.1)], [], memR v11.2)) (S2 := (65, _, [some (.ref 0), some (.int x1), some (.int x2), some (.int x3), some (.int x4), some (.int x5), some (.int v11.1)], [], memR v11.2)) rfl (fun c13 => ?_) (fun c13 => ?_)
      · have h := (if_pos c13).symm.trans h
        refine mEv.stp 3 (S' := (35, [], [some (.ref 0), some (.int x1), some (.int x2), some (.int x3), some (.int x4), some (.int (x5 + (nI 1))), some (.int v11.1)], [], memR v11.2)) rfl ?_
        refine mEv.fg [6] (z' := [some (.ref 0), some (.int x1), some (.int x2), some (.int x3), some (.int x4), some (.int (x5 + (nI 1))), none]) rfl ?_
        obtain rfl := Option.some.inj h
        exact hk
      · have h := (if_neg c13).symm.trans h
        refine mEv.stp 7 (S' := (35, [], [some (.ref 0), some (.int x1), some (.int x2), some (.int x5), some (.int v11.1), some (.int (x5 + (nI 1))), some (.int v11.1)], [], memR v11.2)) rfl ?_
        refine mEv.fg [6] (z' := [some (.ref 0), some (.int x1), some (.int x2), some (.int x5), some (.int v11.1), some (.int (x5 + (nI 1))), none]) rfl ?_
        obtain rfl := Option.some.inj h
        exact hk
def F_X2_best (p1 : Int32) (p2 : Int32) (s : RouS) : Option (Int32 × RouS) := (F_X2_within p1 (nI 1) (nI 48)).bind (fun v1 => if v1 = (nI 0) then (J_X2_best_19 s) else ((F_X2_within p2 (nI 0) (nI 1)).bind (fun v6 => if ¬ v6 = (nI 0) then ((mWh (fun x => B_X2_best_35 p1 p2 x.1 x.2.1 x.2.2.1 x.2.2.2) fuel0 ((nI 0), (nI 1000000), (nI 0), s)).bind (fun z14 => if ¬ p2 = (nI 0) then (some ((z14.2.1, z14.2.2))) else (some ((z14.1, z14.2.2))))) else (J_X2_best_19 s))))
set_option maxRecDepth 100000 in
theorem E_X2_best {d : Nat} {p1 : Int32} {p2 : Int32} {s : RouS} {q : Int32 × RouS} (h : F_X2_best p1 p2 s = some q) : mEv (d + 6) m_X2_best none (0, [], [some (.ref 0), some (.int p1), some (.int p2), none, none, none, none], [], memR s) (some (.int q.1)) (memR q.2) := by
  unfold F_X2_best at h
  refine mEv.stp 4 (S' := (4, _, [some (.ref 0), some (.int p1), some (.int p2), none, none, none, none], [.int (nI 48), .int (nI 1), .int p1], memR s)) rfl ?_
  obtain ⟨v1, e2, h⟩ := bnd h
  refine mEv.callS (As := [.int p1, .int (nI 1), .int (nI 48)]) (st := []) (r := (some (.int v1))) (μ1 := memR s) lk_X2_30 rfl rfl rfl (A_X2_within (d := d + 5) e2) ?_
  refine mEv.stp 0 (S' := (7, _, [some (.ref 0), some (.int p1), some (.int p2), none, none, none, none], [.int v1], memR s)) rfl ?_
  refine mEv.br 1 (S1 := (19, [], [some (.ref 0), some (.int p1), some (.int p2), none, none, none, none], [], memR s)) (S2 := (10, _, [some (.ref 0), some (.int p1), some (.int p2), none, none, none, none], [], memR s)) rfl (fun c3 => ?_) (fun c3 => ?_)
  · have h := (if_pos c3).symm.trans h
    refine mEv.fg [1, 2] (z' := [some (.ref 0), none, none, none, none, none, none]) rfl ?_
    exact K_X2_best_19 (d := d) h
  · have h := (if_neg c3).symm.trans h
    refine mEv.stp 3 (S' := (13, _, [some (.ref 0), some (.int p1), some (.int p2), none, none, none, none], [.int (nI 1), .int (nI 0), .int p2], memR s)) rfl ?_
    obtain ⟨v6, e7, h⟩ := bnd h
    refine mEv.callS (As := [.int p2, .int (nI 0), .int (nI 1)]) (st := []) (r := (some (.int v6))) (μ1 := memR s) lk_X2_30 rfl rfl rfl (A_X2_within (d := d + 5) e7) ?_
    refine mEv.stp 0 (S' := (16, _, [some (.ref 0), some (.int p1), some (.int p2), none, none, none, none], [.int v6], memR s)) rfl ?_
    refine mEv.br 1 (S1 := (26, [], [some (.ref 0), some (.int p1), some (.int p2), none, none, none, none], [], memR s)) (S2 := (19, [], [some (.ref 0), some (.int p1), some (.int p2), none, none, none, none], [], memR s)) rfl (fun c8 => ?_) (fun c8 => ?_)
    · have h := (if_pos c8).symm.trans h
      refine mEv.stp 7 (S' := (35, [], [some (.ref 0), some (.int p1), some (.int p2), some (.int (nI 0)), some (.int (nI 1000000)), some (.int (nI 0)), none], [], memR s)) rfl ?_
      obtain ⟨z14, e15, h⟩ := bnd h
      refine mWh_ind (b := (fun x => B_X2_best_35 p1 p2 x.1 x.2.1 x.2.2.1 x.2.2.2)) (P := fun x : Int32 × Int32 × Int32 × RouS => mEv (d + 6) m_X2_best none (35, [], [some (.ref 0), some (.int p1), some (.int p2), some (.int x.1), some (.int x.2.1), some (.int x.2.2.1), none], [], memR x.2.2.2) (some (.int q.1)) (memR q.2)) (K := fun z : Int32 × Int32 × RouS => mEv (d + 6) m_X2_best none (78, [], [none, none, some (.int p2), some (.int z.1), some (.int z.2.1), none, none], [], memR z.2.2) (some (.int q.1)) (memR q.2)) (fun x u hq hk => H_X2_best_35 (d := d) (x1 := p1) (x2 := p2) (x3 := x.1) (x4 := x.2.1) (x5 := x.2.2.1) (s := x.2.2.2) (q := u) (r0 := (some (.int q.1))) (mu0 := (memR q.2)) hq hk) fuel0 ((nI 0), (nI 1000000), (nI 0), s) z14 e15 ?_
      refine mEv.stp 0 (S' := (78, [], [none, none, some (.int p2), some (.int z14.1), some (.int z14.2.1), none, none], [], memR z14.2.2)) rfl ?_
      refine mEv.br 3 (S1 := (86, [], [none, none, some (.int p2), some (.int z14.1), some (.int z14.2.1), none, none], [], memR z14.2.2)) (S2 := (82, _, [none, none, some (.int p2), some (.int z14.1), some (.int z14.2.1), none, none], [], memR z14.2.2)) rfl (fun c16 => ?_) (fun c16 => ?_)
      · have h := (if_pos c16).symm.trans h
        obtain rfl := Option.some.inj h
        exact mEv.stp 3 (S' := (88, _, [none, none, some (.int p2), some (.int z14.1), some (.int z14.2.1), none, none], [.int z14.2.1], memR z14.2.2)) rfl (mEv.reti ⟨_, rfl, rfl⟩)
      · have h := (if_neg c16).symm.trans h
        obtain rfl := Option.some.inj h
        exact mEv.stp 3 (S' := (88, _, [none, none, some (.int p2), some (.int z14.1), some (.int z14.2.1), none, none], [.int z14.1], memR z14.2.2)) rfl (mEv.reti ⟨_, rfl, rfl⟩)
    · have h := (if_neg c8).symm.trans h
      refine mEv.fg [1, 2] (z' := [some (.ref 0), none, none, none, none, none, none]) rfl ?_
      exact K_X2_best_19 (d := d) h
theorem A_X2_best {d : Nat} {p1 : Int32} {p2 : Int32} {s : RouS} {q : Int32 × RouS} (h : F_X2_best p1 p2 s = some q) : mCall (d + 6) m_X2_best [.ref 0, .int p1, .int p2] (memR s) (some (.int q.1)) (memR q.2) := mCall.intro ok_X2_best pl_X2_best rfl (E_X2_best (d := d) h)
def B_X2_choked_34 (x1 : Int32) (x3 : Int32) (x2 : Int32) (x4 : Int32) (s : RouS) : Option ((Int32 × Int32) ⊕ (Int32)) := if (gN_tc (gR_now s)) ≤ x4 then (some (.inr (x2))) else (if x3 = x4 then (some (.inl (x2, (x4 + (nI 1))))) else (if ¬ x1 = (nI 0) then ((F_X0_hasAnyWay x3 x4 (gR_now s)).bind (fun v8 => if ¬ v8 = (nI 0) then (some (.inl (x2, (x4 + (nI 1))))) else (some (.inl ((x2 + (nI 1)), (x4 + (nI 1))))))) else ((F_X0_wayNow x3 x4 (gR_now s)).bind (fun v11 => if ¬ v11 = (-nI 5) then (some (.inl (x2, (x4 + (nI 1))))) else (some (.inl ((x2 + (nI 1)), (x4 + (nI 1)))))))))
set_option maxRecDepth 100000 in
theorem H_X2_choked_34 {d : Nat} {x1 : Int32} {x3 : Int32} {x2 : Int32} {x4 : Int32} {s : RouS} {q : (Int32 × Int32) ⊕ (Int32)} {r0 : Option Value} {mu0 : MMe} (h : B_X2_choked_34 x1 x3 x2 x4 s = some q) (hk : Sum.elim (fun x : Int32 × Int32 => mEv (d + 2) m_X2_choked none (34, [], [some (.ref 0), some (.int x1), some (.int x.1), some (.int x3), some (.int x.2)], [], memR s) r0 mu0) (fun z : Int32 => mEv (d + 2) m_X2_choked none (96, [], [some (.ref 0), some (.int x1), some (.int z), some (.int x3), none], [], memR s) r0 mu0) q) : mEv (d + 2) m_X2_choked none (34, [], [some (.ref 0), some (.int x1), some (.int x2), some (.int x3), some (.int x4)], [], memR s) r0 mu0 := by
  unfold B_X2_choked_34 at h
  refine mEv.br 6 (S1 := (96, [], [some (.ref 0), some (.int x1), some (.int x2), some (.int x3), some (.int x4)], [], memR s)) (S2 := (46, _, [some (.ref 0), some (.int x1), some (.int x2), some (.int x3), some (.int x4)], [], memR s)) rfl (fun c5 => ?_) (fun c5 => ?_)
  · have h := (if_pos c5).symm.trans h
    refine mEv.fg [4] (z' := [some (.ref 0), some (.int x1), some (.int x2), some (.int x3), none]) rfl ?_
    obtain rfl := Option.some.inj h
    exact hk
  · have h := (if_neg c5).symm.trans h
    refine mEv.br 3 (S1 := (90, [], [some (.ref 0), some (.int x1), some (.int x2), some (.int x3), some (.int x4)], [], memR s)) (S2 := (52, _, [some (.ref 0), some (.int x1), some (.int x2), some (.int x3), some (.int x4)], [], memR s)) rfl (fun c6 => ?_) (fun c6 => ?_)
    · have h := (if_pos c6).symm.trans h
      refine mEv.stp 3 (S' := (34, [], [some (.ref 0), some (.int x1), some (.int x2), some (.int x3), some (.int (x4 + (nI 1)))], [], memR s)) rfl ?_
      obtain rfl := Option.some.inj h
      exact hk
    · have h := (if_neg c6).symm.trans h
      refine mEv.br 2 (S1 := (74, [], [some (.ref 0), some (.int x1), some (.int x2), some (.int x3), some (.int x4)], [], memR s)) (S2 := (56, _, [some (.ref 0), some (.int x1), some (.int x2), some (.int x3), some (.int x4)], [], memR s)) rfl (fun c7 => ?_) (fun c7 => ?_)
      · have h := (if_pos c7).symm.trans h
        refine mEv.stp 5 (S' := (81, _, [some (.ref 0), some (.int x1), some (.int x2), some (.int x3), some (.int x4)], [.int x4, .int x3, .ref 1], memR s)) rfl ?_
        obtain ⟨v8, e9, h⟩ := bnd h
        refine mEv.callV (As := [.int x3, .int x4]) (st := []) (h := 1) (r := (some (.int v8))) (μ1 := memR s) lk_X2_132 rfl rfl rfl rfl rfl (lf_N1 (as := [.ref 0, .int x3, .int x4]) (r := (some (.int v8))) (A_X0_hasAnyWay (d := d + 0) e9)) ?_
        refine mEv.stp 0 (S' := (84, _, [some (.ref 0), some (.int x1), some (.int x2), some (.int x3), some (.int x4)], [.int v8], memR s)) rfl ?_
        refine mEv.br 1 (S1 := (90, [], [some (.ref 0), some (.int x1), some (.int x2), some (.int x3), some (.int x4)], [], memR s)) (S2 := (87, [], [some (.ref 0), some (.int x1), some (.int x2), some (.int x3), some (.int x4)], [], memR s)) rfl (fun c10 => ?_) (fun c10 => ?_)
        · have h := (if_pos c10).symm.trans h
          refine mEv.stp 3 (S' := (34, [], [some (.ref 0), some (.int x1), some (.int x2), some (.int x3), some (.int (x4 + (nI 1)))], [], memR s)) rfl ?_
          obtain rfl := Option.some.inj h
          exact hk
        · have h := (if_neg c10).symm.trans h
          refine mEv.stp 5 (S' := (34, [], [some (.ref 0), some (.int x1), some (.int (x2 + (nI 1))), some (.int x3), some (.int (x4 + (nI 1)))], [], memR s)) rfl ?_
          obtain rfl := Option.some.inj h
          exact hk
      · have h := (if_neg c7).symm.trans h
        refine mEv.stp 4 (S' := (63, _, [some (.ref 0), some (.int x1), some (.int x2), some (.int x3), some (.int x4)], [.int x4, .int x3, .ref 1], memR s)) rfl ?_
        obtain ⟨v11, e12, h⟩ := bnd h
        refine mEv.callV (As := [.int x3, .int x4]) (st := []) (h := 1) (r := (some (.int v11))) (μ1 := memR s) lk_X2_129 rfl rfl rfl rfl rfl (lf_N1 (as := [.ref 0, .int x3, .int x4]) (r := (some (.int v11))) (A_X0_wayNow (d := d + 0) e12)) ?_
        refine mEv.stp 0 (S' := (66, _, [some (.ref 0), some (.int x1), some (.int x2), some (.int x3), some (.int x4)], [.int v11], memR s)) rfl ?_
        refine mEv.br 2 (S1 := (90, [], [some (.ref 0), some (.int x1), some (.int x2), some (.int x3), some (.int x4)], [], memR s)) (S2 := (71, _, [some (.ref 0), some (.int x1), some (.int x2), some (.int x3), some (.int x4)], [], memR s)) rfl (fun c13 => ?_) (fun c13 => ?_)
        · have h := (if_pos c13).symm.trans h
          refine mEv.stp 3 (S' := (34, [], [some (.ref 0), some (.int x1), some (.int x2), some (.int x3), some (.int (x4 + (nI 1)))], [], memR s)) rfl ?_
          obtain rfl := Option.some.inj h
          exact hk
        · have h := (if_neg c13).symm.trans h
          refine mEv.stp 6 (S' := (34, [], [some (.ref 0), some (.int x1), some (.int (x2 + (nI 1))), some (.int x3), some (.int (x4 + (nI 1)))], [], memR s)) rfl ?_
          obtain rfl := Option.some.inj h
          exact hk
def B_X2_choked_20 (x1 : Int32) (x2 : Int32) (x3 : Int32) (s : RouS) : Option ((Int32 × Int32) ⊕ (Int32)) := if (gN_tc (gR_now s)) ≤ x3 then (some (.inr (x2))) else ((mWh (fun x => B_X2_choked_34 x1 x3 x.1 x.2 s) fuel0 (x2, (nI 0))).bind (fun z14 => some (.inl (z14, (x3 + (nI 1))))))
set_option maxRecDepth 100000 in
theorem H_X2_choked_20 {d : Nat} {x1 : Int32} {x2 : Int32} {x3 : Int32} {s : RouS} {q : (Int32 × Int32) ⊕ (Int32)} {r0 : Option Value} {mu0 : MMe} (h : B_X2_choked_20 x1 x2 x3 s = some q) (hk : Sum.elim (fun x : Int32 × Int32 => mEv (d + 2) m_X2_choked none (20, [], [some (.ref 0), some (.int x1), some (.int x.1), some (.int x.2), none], [], memR s) r0 mu0) (fun z : Int32 => mEv (d + 2) m_X2_choked none (102, [], [none, none, some (.int z), none, none], [], memR s) r0 mu0) q) : mEv (d + 2) m_X2_choked none (20, [], [some (.ref 0), some (.int x1), some (.int x2), some (.int x3), none], [], memR s) r0 mu0 := by
  unfold B_X2_choked_20 at h
  refine mEv.br 6 (S1 := (102, [], [some (.ref 0), some (.int x1), some (.int x2), some (.int x3), none], [], memR s)) (S2 := (31, _, [some (.ref 0), some (.int x1), some (.int x2), some (.int x3), none], [], memR s)) rfl (fun c4 => ?_) (fun c4 => ?_)
  · have h := (if_pos c4).symm.trans h
    refine mEv.fg [0, 1, 3] (z' := [none, none, some (.int x2), none, none]) rfl ?_
    obtain rfl := Option.some.inj h
    exact hk
  · have h := (if_neg c4).symm.trans h
    refine mEv.stp 2 (S' := (34, [], [some (.ref 0), some (.int x1), some (.int x2), some (.int x3), some (.int (nI 0))], [], memR s)) rfl ?_
    obtain ⟨z14, e15, h⟩ := bnd h
    refine mWh_ind (b := (fun x => B_X2_choked_34 x1 x3 x.1 x.2 s)) (P := fun x : Int32 × Int32 => mEv (d + 2) m_X2_choked none (34, [], [some (.ref 0), some (.int x1), some (.int x.1), some (.int x3), some (.int x.2)], [], memR s) r0 mu0) (K := fun z : Int32 => mEv (d + 2) m_X2_choked none (96, [], [some (.ref 0), some (.int x1), some (.int z), some (.int x3), none], [], memR s) r0 mu0) (fun x u hq hk => H_X2_choked_34 (d := d) (x1 := x1) (x3 := x3) (x2 := x.1) (x4 := x.2) (s := s) (q := u) (r0 := r0) (mu0 := mu0) hq hk) fuel0 (x2, (nI 0)) z14 e15 ?_
    refine mEv.stp 0 (S' := (96, [], [some (.ref 0), some (.int x1), some (.int z14), some (.int x3), none], [], memR s)) rfl ?_
    refine mEv.stp 3 (S' := (20, [], [some (.ref 0), some (.int x1), some (.int z14), some (.int (x3 + (nI 1))), none], [], memR s)) rfl ?_
    obtain rfl := Option.some.inj h
    exact hk
def F_X2_choked (p1 : Int32) (s : RouS) : Option (Int32 × RouS) := (F_X2_within p1 (nI 0) (nI 1)).bind (fun v1 => if ¬ v1 = (nI 0) then ((mWh (fun x => B_X2_choked_20 p1 x.1 x.2 s) fuel0 ((nI 0), (nI 0))).bind (fun z16 => some ((z16, s)))) else ((F_X2_refuse (-nI 2) s).bind (fun v18 => some ((v18.1, v18.2)))))
set_option maxRecDepth 100000 in
theorem E_X2_choked {d : Nat} {p1 : Int32} {s : RouS} {q : Int32 × RouS} (h : F_X2_choked p1 s = some q) : mEv (d + 2) m_X2_choked none (0, [], [some (.ref 0), some (.int p1), none, none, none], [], memR s) (some (.int q.1)) (memR q.2) := by
  unfold F_X2_choked at h
  refine mEv.stp 4 (S' := (3, _, [some (.ref 0), some (.int p1), none, none, none], [.int (nI 1), .int (nI 0), .int p1], memR s)) rfl ?_
  obtain ⟨v1, e2, h⟩ := bnd h
  refine mEv.callS (As := [.int p1, .int (nI 0), .int (nI 1)]) (st := []) (r := (some (.int v1))) (μ1 := memR s) lk_X2_30 rfl rfl rfl (A_X2_within (d := d + 1) e2) ?_
  refine mEv.stp 0 (S' := (6, _, [some (.ref 0), some (.int p1), none, none, none], [.int v1], memR s)) rfl ?_
  refine mEv.br 1 (S1 := (16, [], [some (.ref 0), some (.int p1), none, none, none], [], memR s)) (S2 := (9, _, [some (.ref 0), some (.int p1), none, none, none], [], memR s)) rfl (fun c3 => ?_) (fun c3 => ?_)
  · have h := (if_pos c3).symm.trans h
    refine mEv.stp 5 (S' := (20, [], [some (.ref 0), some (.int p1), some (.int (nI 0)), some (.int (nI 0)), none], [], memR s)) rfl ?_
    obtain ⟨z16, e17, h⟩ := bnd h
    refine mWh_ind (b := (fun x => B_X2_choked_20 p1 x.1 x.2 s)) (P := fun x : Int32 × Int32 => mEv (d + 2) m_X2_choked none (20, [], [some (.ref 0), some (.int p1), some (.int x.1), some (.int x.2), none], [], memR s) (some (.int q.1)) (memR q.2)) (K := fun z : Int32 => mEv (d + 2) m_X2_choked none (102, [], [none, none, some (.int z), none, none], [], memR s) (some (.int q.1)) (memR q.2)) (fun x u hq hk => H_X2_choked_20 (d := d) (x1 := p1) (x2 := x.1) (x3 := x.2) (s := s) (q := u) (r0 := (some (.int q.1))) (mu0 := (memR q.2)) hq hk) fuel0 ((nI 0), (nI 0)) z16 e17 ?_
    refine mEv.stp 0 (S' := (102, [], [none, none, some (.int z16), none, none], [], memR s)) rfl ?_
    obtain rfl := Option.some.inj h
    exact mEv.stp 2 (S' := (103, _, [none, none, some (.int z16), none, none], [.int z16], memR s)) rfl (mEv.reti ⟨_, rfl, rfl⟩)
  · have h := (if_neg c3).symm.trans h
    refine mEv.stp 2 (S' := (12, _, [some (.ref 0), some (.int p1), none, none, none], [.int (-nI 2), .ref 0], memR s)) rfl ?_
    obtain ⟨v18, e19, h⟩ := bnd h
    refine mEv.callV (As := [.int (-nI 2)]) (st := []) (h := 0) (r := (some (.int v18.1))) (μ1 := memR v18.2) lk_X2_34 rfl rfl rfl rfl rfl (A_X2_refuse (d := d + 1) e19) ?_
    refine mEv.stp 0 (S' := (15, _, [some (.ref 0), some (.int p1), none, none, none], [.int v18.1], memR v18.2)) rfl ?_
    obtain rfl := Option.some.inj h
    exact mEv.reti ⟨_, rfl, rfl⟩
theorem A_X2_choked {d : Nat} {p1 : Int32} {s : RouS} {q : Int32 × RouS} (h : F_X2_choked p1 s = some q) : mCall (d + 2) m_X2_choked [.ref 0, .int p1] (memR s) (some (.int q.1)) (memR q.2) := mCall.intro ok_X2_choked pl_X2_choked rfl (E_X2_choked (d := d) h)
def F_X2_type (p1 : Int32) (s : RouS) : Option (Int32 × RouS) := (F_X2_within p1 (nI 0) (nI 127)).bind (fun v1 => if ¬ v1 = (nI 0) then ((F_X1_append p1 (gR_txt s)).bind (fun v4 => if v4.1 = (nI 0) then ((F_X2_refuse (-nI 4) (mkR (gR_sc s) (gR_ns s) (gR_bd s) (gR_no s) (gR_fu s) (gR_now s) (gR_tri s) (gR_s0 s) (gR_s1 s) (gR_s2 s) (gR_s3 s) (gR_s4 s) v4.2)).bind (fun v7 => some ((v7.1, v7.2)))) else (some (((gT_ln v4.2), (mkR (gR_sc s) (gR_ns s) (gR_bd s) (gR_no s) (gR_fu s) (gR_now s) (gR_tri s) (gR_s0 s) (gR_s1 s) (gR_s2 s) (gR_s3 s) (gR_s4 s) v4.2)))))) else ((F_X2_refuse (-nI 2) s).bind (fun v9 => some ((v9.1, v9.2)))))
set_option maxRecDepth 100000 in
theorem E_X2_type {d : Nat} {p1 : Int32} {s : RouS} {q : Int32 × RouS} (h : F_X2_type p1 s = some q) : mEv (d + 1) m_X2_type none (0, [], [some (.ref 0), some (.int p1)], [], memR s) (some (.int q.1)) (memR q.2) := by
  unfold F_X2_type at h
  refine mEv.stp 4 (S' := (4, _, [some (.ref 0), some (.int p1)], [.int (nI 127), .int (nI 0), .int p1], memR s)) rfl ?_
  obtain ⟨v1, e2, h⟩ := bnd h
  refine mEv.callS (As := [.int p1, .int (nI 0), .int (nI 127)]) (st := []) (r := (some (.int v1))) (μ1 := memR s) lk_X2_30 rfl rfl rfl (A_X2_within (d := d + 0) e2) ?_
  refine mEv.stp 0 (S' := (7, _, [some (.ref 0), some (.int p1)], [.int v1], memR s)) rfl ?_
  refine mEv.br 1 (S1 := (17, [], [some (.ref 0), some (.int p1)], [], memR s)) (S2 := (10, _, [some (.ref 0), some (.int p1)], [], memR s)) rfl (fun c3 => ?_) (fun c3 => ?_)
  · have h := (if_pos c3).symm.trans h
    refine mEv.stp 4 (S' := (22, _, [some (.ref 0), some (.int p1)], [.int p1, .ref 65], memR s)) rfl ?_
    obtain ⟨v4, e5, h⟩ := bnd h
    refine mEv.callV (As := [.int p1]) (st := []) (h := 65) (r := (some (.int v4.1))) (μ1 := memRx (gR_sc s) (gR_ns s) (gR_bd s) (gR_no s) (gR_fu s) (gR_now s) (gR_tri s) (gR_s0 s) (gR_s1 s) (gR_s2 s) (gR_s3 s) (gR_s4 s) v4.2) lk_X2_135 rfl rfl rfl rfl rfl (lf_T65 (as := [.ref 0, .int p1]) (r := (some (.int v4.1))) (A_X1_append (d := d + 0) e5)) ?_
    refine mEv.stp 0 (S' := (25, _, [some (.ref 0), some (.int p1)], [.int v4.1], memRx (gR_sc s) (gR_ns s) (gR_bd s) (gR_no s) (gR_fu s) (gR_now s) (gR_tri s) (gR_s0 s) (gR_s1 s) (gR_s2 s) (gR_s3 s) (gR_s4 s) v4.2)) rfl ?_
    refine mEv.br 1 (S1 := (38, [], [some (.ref 0), some (.int p1)], [], memRx (gR_sc s) (gR_ns s) (gR_bd s) (gR_no s) (gR_fu s) (gR_now s) (gR_tri s) (gR_s0 s) (gR_s1 s) (gR_s2 s) (gR_s3 s) (gR_s4 s) v4.2)) (S2 := (28, _, [some (.ref 0), some (.int p1)], [], memRx (gR_sc s) (gR_ns s) (gR_bd s) (gR_no s) (gR_fu s) (gR_now s) (gR_tri s) (gR_s0 s) (gR_s1 s) (gR_s2 s) (gR_s3 s) (gR_s4 s) v4.2)) rfl (fun c6 => ?_) (fun c6 => ?_)
    · have h := (if_pos c6).symm.trans h
      refine mEv.stp 3 (S' := (41, _, [some (.ref 0), some (.int p1)], [.int (-nI 4), .ref 0], memRx (gR_sc s) (gR_ns s) (gR_bd s) (gR_no s) (gR_fu s) (gR_now s) (gR_tri s) (gR_s0 s) (gR_s1 s) (gR_s2 s) (gR_s3 s) (gR_s4 s) v4.2)) rfl ?_
      obtain ⟨v7, e8, h⟩ := bnd h
      refine mEv.callV (As := [.int (-nI 4)]) (st := []) (h := 0) (r := (some (.int v7.1))) (μ1 := memR v7.2) lk_X2_34 rfl rfl rfl rfl rfl (mCall.cast memR_mk (A_X2_refuse (d := d + 0) e8)) ?_
      refine mEv.stp 0 (S' := (44, [], [some (.ref 0), some (.int p1)], [.int v7.1], memR v7.2)) rfl ?_
      obtain rfl := Option.some.inj h
      exact mEv.stp 1 (S' := (44, _, [some (.ref 0), some (.int p1)], [.int v7.1], memR v7.2)) rfl (mEv.reti ⟨_, rfl, rfl⟩)
    · have h := (if_neg c6).symm.trans h
      obtain rfl := Option.some.inj h
      exact mEv.tgt memR_mk (mEv.stp 5 (S' := (44, _, [some (.ref 0), some (.int p1)], [.int (gT_ln v4.2)], memRx (gR_sc s) (gR_ns s) (gR_bd s) (gR_no s) (gR_fu s) (gR_now s) (gR_tri s) (gR_s0 s) (gR_s1 s) (gR_s2 s) (gR_s3 s) (gR_s4 s) v4.2)) rfl (mEv.reti ⟨_, rfl, rfl⟩))
  · have h := (if_neg c3).symm.trans h
    refine mEv.stp 2 (S' := (13, _, [some (.ref 0), some (.int p1)], [.int (-nI 2), .ref 0], memR s)) rfl ?_
    obtain ⟨v9, e10, h⟩ := bnd h
    refine mEv.callV (As := [.int (-nI 2)]) (st := []) (h := 0) (r := (some (.int v9.1))) (μ1 := memR v9.2) lk_X2_34 rfl rfl rfl rfl rfl (A_X2_refuse (d := d + 0) e10) ?_
    refine mEv.stp 0 (S' := (16, _, [some (.ref 0), some (.int p1)], [.int v9.1], memR v9.2)) rfl ?_
    obtain rfl := Option.some.inj h
    exact mEv.reti ⟨_, rfl, rfl⟩
theorem A_X2_type {d : Nat} {p1 : Int32} {s : RouS} {q : Int32 × RouS} (h : F_X2_type p1 s = some q) : mCall (d + 1) m_X2_type [.ref 0, .int p1] (memR s) (some (.int q.1)) (memR q.2) := mCall.intro ok_X2_type pl_X2_type rfl (E_X2_type (d := d) h)
def F_X2_clear  (s : RouS) : Option (Int32 × RouS) := some (((gT_ln (gR_txt s)), (mkR (gR_sc s) (gR_ns s) (gR_bd s) (gR_no s) (gR_fu s) (gR_now s) (gR_tri s) (gR_s0 s) (gR_s1 s) (gR_s2 s) (gR_s3 s) (gR_s4 s) (mkT (nI 0) (gT_oc (gR_txt s)) (gT_tn (gR_txt s)) (gT_pl (gR_txt s)) (gT_ft (gR_txt s)) (gT_by (gR_txt s)) (gT_od (gR_txt s))))))
set_option maxRecDepth 100000 in
theorem E_X2_clear {d : Nat}  {s : RouS} {q : Int32 × RouS} (h : F_X2_clear s = some q) : mEv d m_X2_clear none (0, [], [some (.ref 0), none], [], memR s) (some (.int q.1)) (memR q.2) := by
  unfold F_X2_clear at h
  obtain rfl := Option.some.inj h
  exact mEv.tgt memR_mk (mEv.stp 10 (S' := (17, _, [some (.ref 0), some (.int (gT_ln (gR_txt s)))], [.int (gT_ln (gR_txt s))], memRx (gR_sc s) (gR_ns s) (gR_bd s) (gR_no s) (gR_fu s) (gR_now s) (gR_tri s) (gR_s0 s) (gR_s1 s) (gR_s2 s) (gR_s3 s) (gR_s4 s) (mkT (nI 0) (gT_oc (gR_txt s)) (gT_tn (gR_txt s)) (gT_pl (gR_txt s)) (gT_ft (gR_txt s)) (gT_by (gR_txt s)) (gT_od (gR_txt s))))) rfl (mEv.reti ⟨_, rfl, rfl⟩))
theorem A_X2_clear {d : Nat}  {s : RouS} {q : Int32 × RouS} (h : F_X2_clear s = some q) : mCall d m_X2_clear [.ref 0] (memR s) (some (.int q.1)) (memR q.2) := mCall.intro ok_X2_clear pl_X2_clear rfl (E_X2_clear (d := d) h)
def B_X2_does_33 (x2 : Int32) (x3 : Int32) (s : RouS) : Option ((Int32 × Int32 × RouS) ⊕ (Int32 × RouS)) := if (gT_oc (gR_txt s)) ≤ x3 then (some (.inr (x2, s))) else ((F_X0_doOrder (x3 * (nI 4)) (gT_od (gR_txt s)) (gR_now s)).bind (fun v7 => if v7.1 = (nI 0) then (some (.inl (x2, (x3 + (nI 1)), (mkR (gR_sc s) (gR_ns s) (gR_bd s) (gR_no s) (gR_fu s) v7.2 (gR_tri s) (gR_s0 s) (gR_s1 s) (gR_s2 s) (gR_s3 s) (gR_s4 s) (gR_txt s))))) else (some (.inl ((x2 + (nI 1)), (x3 + (nI 1)), (mkR (gR_sc s) (gR_ns s) (gR_bd s) (gR_no s) (gR_fu s) v7.2 (gR_tri s) (gR_s0 s) (gR_s1 s) (gR_s2 s) (gR_s3 s) (gR_s4 s) (gR_txt s)))))))
set_option maxRecDepth 100000 in
theorem H_X2_does_33 {d : Nat} {x2 : Int32} {x3 : Int32} {s : RouS} {q : (Int32 × Int32 × RouS) ⊕ (Int32 × RouS)} {r0 : Option Value} {mu0 : MMe} (h : B_X2_does_33 x2 x3 s = some q) (hk : Sum.elim (fun x : Int32 × Int32 × RouS => mEv (d + 6) m_X2_does none (33, [], [some (.ref 0), none, some (.int x.1), some (.int x.2.1)], [], memR x.2.2) r0 mu0) (fun z : Int32 × RouS => mEv (d + 6) m_X2_does none (73, [], [none, none, some (.int z.1), none], [], memR z.2) r0 mu0) q) : mEv (d + 6) m_X2_does none (33, [], [some (.ref 0), none, some (.int x2), some (.int x3)], [], memR s) r0 mu0 := by
  unfold B_X2_does_33 at h
  refine mEv.br 6 (S1 := (73, [], [some (.ref 0), none, some (.int x2), some (.int x3)], [], memR s)) (S2 := (44, _, [some (.ref 0), none, some (.int x2), some (.int x3)], [], memR s)) rfl (fun c6 => ?_) (fun c6 => ?_)
  · have h := (if_pos c6).symm.trans h
    refine mEv.fg [0, 3] (z' := [none, none, some (.int x2), none]) rfl ?_
    obtain rfl := Option.some.inj h
    exact hk
  · have h := (if_neg c6).symm.trans h
    refine mEv.stp 8 (S' := (58, _, [some (.ref 0), none, some (.int x2), some (.int x3)], [.int (x3 * (nI 4)), .ref 67, .ref 1], memR s)) rfl ?_
    obtain ⟨v7, e8, h⟩ := bnd h
    refine mEv.callV (As := [.ref 67, .int (x3 * (nI 4))]) (st := []) (h := 1) (r := (some (.int v7.1))) (μ1 := memRx (gR_sc s) (gR_ns s) (gR_bd s) (gR_no s) (gR_fu s) v7.2 (gR_tri s) (gR_s0 s) (gR_s1 s) (gR_s2 s) (gR_s3 s) (gR_s4 s) (gR_txt s)) lk_X2_151 rfl rfl rfl rfl rfl (lf_NO1_67 (as := [.ref 0, .ref 9, .int (x3 * (nI 4))]) (r := (some (.int v7.1))) (A_X0_doOrder (d := d + 0) e8)) ?_
    refine mEv.stp 0 (S' := (61, _, [some (.ref 0), none, some (.int x2), some (.int x3)], [.int v7.1], memRx (gR_sc s) (gR_ns s) (gR_bd s) (gR_no s) (gR_fu s) v7.2 (gR_tri s) (gR_s0 s) (gR_s1 s) (gR_s2 s) (gR_s3 s) (gR_s4 s) (gR_txt s))) rfl ?_
    refine mEv.br 1 (S1 := (67, [], [some (.ref 0), none, some (.int x2), some (.int x3)], [], memRx (gR_sc s) (gR_ns s) (gR_bd s) (gR_no s) (gR_fu s) v7.2 (gR_tri s) (gR_s0 s) (gR_s1 s) (gR_s2 s) (gR_s3 s) (gR_s4 s) (gR_txt s))) (S2 := (64, _, [some (.ref 0), none, some (.int x2), some (.int x3)], [], memRx (gR_sc s) (gR_ns s) (gR_bd s) (gR_no s) (gR_fu s) v7.2 (gR_tri s) (gR_s0 s) (gR_s1 s) (gR_s2 s) (gR_s3 s) (gR_s4 s) (gR_txt s))) rfl (fun c9 => ?_) (fun c9 => ?_)
    · have h := (if_pos c9).symm.trans h
      refine mEv.stp 3 (S' := (33, [], [some (.ref 0), none, some (.int x2), some (.int (x3 + (nI 1)))], [], memRx (gR_sc s) (gR_ns s) (gR_bd s) (gR_no s) (gR_fu s) v7.2 (gR_tri s) (gR_s0 s) (gR_s1 s) (gR_s2 s) (gR_s3 s) (gR_s4 s) (gR_txt s))) rfl ?_
      refine mEv.mem memR_mk ?_
      obtain rfl := Option.some.inj h
      exact hk
    · have h := (if_neg c9).symm.trans h
      refine mEv.stp 4 (S' := (33, [], [some (.ref 0), none, some (.int (x2 + (nI 1))), some (.int (x3 + (nI 1)))], [], memRx (gR_sc s) (gR_ns s) (gR_bd s) (gR_no s) (gR_fu s) v7.2 (gR_tri s) (gR_s0 s) (gR_s1 s) (gR_s2 s) (gR_s3 s) (gR_s4 s) (gR_txt s))) rfl ?_
      refine mEv.mem memR_mk ?_
      obtain rfl := Option.some.inj h
      exact hk
def F_X2_does  (s : RouS) : Option (Int32 × RouS) := (F_X1_read (gN_tc (gR_now s)) (gR_txt s)).bind (fun v1 => if v1.1 = (-nI 1) then ((F_X2_keepState (mkR (gR_sc s) (gR_ns s) (gR_bd s) (gR_no s) (gR_fu s) (gR_now s) (gR_tri s) (gR_s0 s) (gR_s1 s) (gR_s2 s) (gR_s3 s) (gR_s4 s) v1.2)).bind (fun v4 => (mWh (fun x => B_X2_does_33 x.1 x.2.1 x.2.2) fuel0 ((nI 0), (nI 0), v4)).bind (fun z10 => some ((z10.1, z10.2))))) else (some ((((-nI 10) - v1.1), (mkR (gR_sc s) (gR_ns s) (gR_bd s) (gR_no s) (gR_fu s) (gR_now s) (gR_tri s) (gR_s0 s) (gR_s1 s) (gR_s2 s) (gR_s3 s) (gR_s4 s) v1.2)))))
set_option maxRecDepth 100000 in
theorem E_X2_does {d : Nat}  {s : RouS} {q : Int32 × RouS} (h : F_X2_does s = some q) : mEv (d + 6) m_X2_does none (0, [], [some (.ref 0), none, none, none], [], memR s) (some (.int q.1)) (memR q.2) := by
  unfold F_X2_does at h
  refine mEv.stp 6 (S' := (11, _, [some (.ref 0), none, none, none], [.int (gN_tc (gR_now s)), .ref 65], memR s)) rfl ?_
  obtain ⟨v1, e2, h⟩ := bnd h
  refine mEv.callV (As := [.int (gN_tc (gR_now s))]) (st := []) (h := 65) (r := (some (.int v1.1))) (μ1 := memRx (gR_sc s) (gR_ns s) (gR_bd s) (gR_no s) (gR_fu s) (gR_now s) (gR_tri s) (gR_s0 s) (gR_s1 s) (gR_s2 s) (gR_s3 s) (gR_s4 s) v1.2) lk_X2_142 rfl rfl rfl rfl rfl (lf_T65 (as := [.ref 0, .int (gN_tc (gR_now s))]) (r := (some (.int v1.1))) (A_X1_read (d := d + 1) e2)) ?_
  refine mEv.stp 0 (S' := (14, _, [some (.ref 0), none, none, none], [.int v1.1], memRx (gR_sc s) (gR_ns s) (gR_bd s) (gR_no s) (gR_fu s) (gR_now s) (gR_tri s) (gR_s0 s) (gR_s1 s) (gR_s2 s) (gR_s3 s) (gR_s4 s) v1.2)) rfl ?_
  refine mEv.br 4 (S1 := (25, [], [some (.ref 0), some (.int v1.1), none, none], [], memRx (gR_sc s) (gR_ns s) (gR_bd s) (gR_no s) (gR_fu s) (gR_now s) (gR_tri s) (gR_s0 s) (gR_s1 s) (gR_s2 s) (gR_s3 s) (gR_s4 s) v1.2)) (S2 := (20, _, [some (.ref 0), some (.int v1.1), none, none], [], memRx (gR_sc s) (gR_ns s) (gR_bd s) (gR_no s) (gR_fu s) (gR_now s) (gR_tri s) (gR_s0 s) (gR_s1 s) (gR_s2 s) (gR_s3 s) (gR_s4 s) v1.2)) rfl (fun c3 => ?_) (fun c3 => ?_)
  · have h := (if_pos c3).symm.trans h
    refine mEv.stp 2 (S' := (26, _, [some (.ref 0), some (.int v1.1), none, none], [.ref 0], memRx (gR_sc s) (gR_ns s) (gR_bd s) (gR_no s) (gR_fu s) (gR_now s) (gR_tri s) (gR_s0 s) (gR_s1 s) (gR_s2 s) (gR_s3 s) (gR_s4 s) v1.2)) rfl ?_
    obtain ⟨v4, e5, h⟩ := bnd h
    refine mEv.callV (As := []) (st := []) (h := 0) (r := none) (μ1 := memR v4) lk_X2_38 rfl rfl rfl rfl rfl (mCall.cast memR_mk (A_X2_keepState (d := d + 3) e5)) ?_
    refine mEv.stp 0 (S' := (29, _, [some (.ref 0), some (.int v1.1), none, none], [], memR v4)) rfl ?_
    refine mEv.stp 4 (S' := (33, [], [some (.ref 0), some (.int v1.1), some (.int (nI 0)), some (.int (nI 0))], [], memR v4)) rfl ?_
    refine mEv.fg [1] (z' := [some (.ref 0), none, some (.int (nI 0)), some (.int (nI 0))]) rfl ?_
    obtain ⟨z10, e11, h⟩ := bnd h
    refine mWh_ind (b := (fun x => B_X2_does_33 x.1 x.2.1 x.2.2)) (P := fun x : Int32 × Int32 × RouS => mEv (d + 6) m_X2_does none (33, [], [some (.ref 0), none, some (.int x.1), some (.int x.2.1)], [], memR x.2.2) (some (.int q.1)) (memR q.2)) (K := fun z : Int32 × RouS => mEv (d + 6) m_X2_does none (73, [], [none, none, some (.int z.1), none], [], memR z.2) (some (.int q.1)) (memR q.2)) (fun x u hq hk => H_X2_does_33 (d := d) (x2 := x.1) (x3 := x.2.1) (s := x.2.2) (q := u) (r0 := (some (.int q.1))) (mu0 := (memR q.2)) hq hk) fuel0 ((nI 0), (nI 0), v4) z10 e11 ?_
    refine mEv.stp 0 (S' := (73, [], [none, none, some (.int z10.1), none], [], memR z10.2)) rfl ?_
    obtain rfl := Option.some.inj h
    exact mEv.stp 2 (S' := (74, _, [none, none, some (.int z10.1), none], [.int z10.1], memR z10.2)) rfl (mEv.reti ⟨_, rfl, rfl⟩)
  · have h := (if_neg c3).symm.trans h
    obtain rfl := Option.some.inj h
    exact mEv.tgt memR_mk (mEv.stp 3 (S' := (24, _, [some (.ref 0), some (.int v1.1), none, none], [.int ((-nI 10) - v1.1)], memRx (gR_sc s) (gR_ns s) (gR_bd s) (gR_no s) (gR_fu s) (gR_now s) (gR_tri s) (gR_s0 s) (gR_s1 s) (gR_s2 s) (gR_s3 s) (gR_s4 s) v1.2)) rfl (mEv.reti ⟨_, rfl, rfl⟩))
theorem A_X2_does {d : Nat}  {s : RouS} {q : Int32 × RouS} (h : F_X2_does s = some q) : mCall (d + 6) m_X2_does [.ref 0] (memR s) (some (.int q.1)) (memR q.2) := mCall.intro ok_X2_does pl_X2_does rfl (E_X2_does (d := d) h)
def F_X2_undo  (s : RouS) : Option (Int32 × RouS) := if ¬ (gR_sc s) = (nI 0) then (gZ (nI 5) (gI ((((gR_ns s) + (nI 5)) - (nI 1)) - (((gR_ns s) + (nI 5)) - (nI 1)) / (nI 5) * (nI 5)) 5 (if ((((gR_ns s) + (nI 5)) - (nI 1)) - (((gR_ns s) + (nI 5)) - (nI 1)) / (nI 5) * (nI 5)) = (nI 0) then ((F_X0_copyFrom (gR_s0 s) (gR_now s)).bind (fun v5 => some ((((gR_sc s) - (nI 1)), (mkR ((gR_sc s) - (nI 1)) ((((gR_ns s) + (nI 5)) - (nI 1)) - (((gR_ns s) + (nI 5)) - (nI 1)) / (nI 5) * (nI 5)) (gR_bd s) (gR_no s) (gR_fu s) v5 (gR_tri s) (gR_s0 s) (gR_s1 s) (gR_s2 s) (gR_s3 s) (gR_s4 s) (gR_txt s)))))) else (if ((((gR_ns s) + (nI 5)) - (nI 1)) - (((gR_ns s) + (nI 5)) - (nI 1)) / (nI 5) * (nI 5)) = (nI 1) then ((F_X0_copyFrom (gR_s1 s) (gR_now s)).bind (fun v8 => some ((((gR_sc s) - (nI 1)), (mkR ((gR_sc s) - (nI 1)) ((((gR_ns s) + (nI 5)) - (nI 1)) - (((gR_ns s) + (nI 5)) - (nI 1)) / (nI 5) * (nI 5)) (gR_bd s) (gR_no s) (gR_fu s) v8 (gR_tri s) (gR_s0 s) (gR_s1 s) (gR_s2 s) (gR_s3 s) (gR_s4 s) (gR_txt s)))))) else (if ((((gR_ns s) + (nI 5)) - (nI 1)) - (((gR_ns s) + (nI 5)) - (nI 1)) / (nI 5) * (nI 5)) = (nI 2) then ((F_X0_copyFrom (gR_s2 s) (gR_now s)).bind (fun v11 => some ((((gR_sc s) - (nI 1)), (mkR ((gR_sc s) - (nI 1)) ((((gR_ns s) + (nI 5)) - (nI 1)) - (((gR_ns s) + (nI 5)) - (nI 1)) / (nI 5) * (nI 5)) (gR_bd s) (gR_no s) (gR_fu s) v11 (gR_tri s) (gR_s0 s) (gR_s1 s) (gR_s2 s) (gR_s3 s) (gR_s4 s) (gR_txt s)))))) else (if ((((gR_ns s) + (nI 5)) - (nI 1)) - (((gR_ns s) + (nI 5)) - (nI 1)) / (nI 5) * (nI 5)) = (nI 3) then ((F_X0_copyFrom (gR_s3 s) (gR_now s)).bind (fun v14 => some ((((gR_sc s) - (nI 1)), (mkR ((gR_sc s) - (nI 1)) ((((gR_ns s) + (nI 5)) - (nI 1)) - (((gR_ns s) + (nI 5)) - (nI 1)) / (nI 5) * (nI 5)) (gR_bd s) (gR_no s) (gR_fu s) v14 (gR_tri s) (gR_s0 s) (gR_s1 s) (gR_s2 s) (gR_s3 s) (gR_s4 s) (gR_txt s)))))) else (if ((((gR_ns s) + (nI 5)) - (nI 1)) - (((gR_ns s) + (nI 5)) - (nI 1)) / (nI 5) * (nI 5)) = (nI 4) then ((F_X0_copyFrom (gR_s4 s) (gR_now s)).bind (fun v17 => some ((((gR_sc s) - (nI 1)), (mkR ((gR_sc s) - (nI 1)) ((((gR_ns s) + (nI 5)) - (nI 1)) - (((gR_ns s) + (nI 5)) - (nI 1)) / (nI 5) * (nI 5)) (gR_bd s) (gR_no s) (gR_fu s) v17 (gR_tri s) (gR_s0 s) (gR_s1 s) (gR_s2 s) (gR_s3 s) (gR_s4 s) (gR_txt s)))))) else (none)))))))) else ((F_X2_refuse (-nI 3) s).bind (fun v19 => some ((v19.1, v19.2))))
set_option maxRecDepth 100000 in
theorem E_X2_undo {d : Nat}  {s : RouS} {q : Int32 × RouS} (h : F_X2_undo s = some q) : mEv (d + 2) m_X2_undo none (0, [], [some (.ref 0)], [], memR s) (some (.int q.1)) (memR q.2) := by
  unfold F_X2_undo at h
  refine mEv.br 4 (S1 := (14, [], [some (.ref 0)], [], memR s)) (S2 := (7, _, [some (.ref 0)], [], memR s)) rfl (fun c1 => ?_) (fun c1 => ?_)
  · have h := (if_pos c1).symm.trans h
    obtain ⟨g2, h⟩ := gZ_some h
    refine mEv.gd 16 (S' := (35, _, [some (.ref 0)], [.int ((((gR_ns s) + (nI 5)) - (nI 1)) - (((gR_ns s) + (nI 5)) - (nI 1)) / (nI 5) * (nI 5)), .ref 0], memRx ((gR_sc s) - (nI 1)) (gR_ns s) (gR_bd s) (gR_no s) (gR_fu s) (gR_now s) (gR_tri s) (gR_s0 s) (gR_s1 s) (gR_s2 s) (gR_s3 s) (gR_s4 s) (gR_txt s))) rfl g2 ?_
    obtain ⟨g3, h⟩ := gI_some h
    refine mEv.gd 8 (S' := (51, _, [some (.ref 0)], [(va_rf (m_sts (Int32.toNatClampNeg ((((gR_ns s) + (nI 5)) - (nI 1)) - (((gR_ns s) + (nI 5)) - (nI 1)) / (nI 5) * (nI 5))))), .ref 1], memRx ((gR_sc s) - (nI 1)) ((((gR_ns s) + (nI 5)) - (nI 1)) - (((gR_ns s) + (nI 5)) - (nI 1)) / (nI 5) * (nI 5)) (gR_bd s) (gR_no s) (gR_fu s) (gR_now s) (gR_tri s) (gR_s0 s) (gR_s1 s) (gR_s2 s) (gR_s3 s) (gR_s4 s) (gR_txt s))) rfl g3 ?_
    by_cases c4 : ((((gR_ns s) + (nI 5)) - (nI 1)) - (((gR_ns s) + (nI 5)) - (nI 1)) / (nI 5) * (nI 5)) = (nI 0)
    · have h := (if_pos c4).symm.trans h
      rw [show (va_rf (m_sts (Int32.toNatClampNeg ((((gR_ns s) + (nI 5)) - (nI 1)) - (((gR_ns s) + (nI 5)) - (nI 1)) / (nI 5) * (nI 5))))) = Value.ref 20 from by rw [c4]; rfl]
      refine mEv.stp 0 (S' := (51, _, [some (.ref 0)], [.ref 20, .ref 1], memRx ((gR_sc s) - (nI 1)) ((((gR_ns s) + (nI 5)) - (nI 1)) - (((gR_ns s) + (nI 5)) - (nI 1)) / (nI 5) * (nI 5)) (gR_bd s) (gR_no s) (gR_fu s) (gR_now s) (gR_tri s) (gR_s0 s) (gR_s1 s) (gR_s2 s) (gR_s3 s) (gR_s4 s) (gR_txt s))) rfl ?_
      obtain ⟨v5, e6, h⟩ := bnd h
      refine mEv.callV (As := [.ref 20]) (st := []) (h := 1) (r := none) (μ1 := memRx ((gR_sc s) - (nI 1)) ((((gR_ns s) + (nI 5)) - (nI 1)) - (((gR_ns s) + (nI 5)) - (nI 1)) / (nI 5) * (nI 5)) (gR_bd s) (gR_no s) (gR_fu s) v5 (gR_tri s) (gR_s0 s) (gR_s1 s) (gR_s2 s) (gR_s3 s) (gR_s4 s) (gR_txt s)) lk_X2_161 rfl rfl rfl rfl rfl (lf_NN1_20 (as := [.ref 0, .ref 9]) (r := none) (A_X0_copyFrom (d := d + 0) e6)) ?_
      refine mEv.stp 0 (S' := (54, _, [some (.ref 0)], [], memRx ((gR_sc s) - (nI 1)) ((((gR_ns s) + (nI 5)) - (nI 1)) - (((gR_ns s) + (nI 5)) - (nI 1)) / (nI 5) * (nI 5)) (gR_bd s) (gR_no s) (gR_fu s) v5 (gR_tri s) (gR_s0 s) (gR_s1 s) (gR_s2 s) (gR_s3 s) (gR_s4 s) (gR_txt s))) rfl ?_
      obtain rfl := Option.some.inj h
      exact mEv.tgt memR_mk (mEv.stp 2 (S' := (58, _, [some (.ref 0)], [.int ((gR_sc s) - (nI 1))], memRx ((gR_sc s) - (nI 1)) ((((gR_ns s) + (nI 5)) - (nI 1)) - (((gR_ns s) + (nI 5)) - (nI 1)) / (nI 5) * (nI 5)) (gR_bd s) (gR_no s) (gR_fu s) v5 (gR_tri s) (gR_s0 s) (gR_s1 s) (gR_s2 s) (gR_s3 s) (gR_s4 s) (gR_txt s))) rfl (mEv.reti ⟨_, rfl, rfl⟩))
    · have h := (if_neg c4).symm.trans h
      by_cases c7 : ((((gR_ns s) + (nI 5)) - (nI 1)) - (((gR_ns s) + (nI 5)) - (nI 1)) / (nI 5) * (nI 5)) = (nI 1)
      · have h := (if_pos c7).symm.trans h
        rw [show (va_rf (m_sts (Int32.toNatClampNeg ((((gR_ns s) + (nI 5)) - (nI 1)) - (((gR_ns s) + (nI 5)) - (nI 1)) / (nI 5) * (nI 5))))) = Value.ref 29 from by rw [c7]; rfl]
        refine mEv.stp 0 (S' := (51, _, [some (.ref 0)], [.ref 29, .ref 1], memRx ((gR_sc s) - (nI 1)) ((((gR_ns s) + (nI 5)) - (nI 1)) - (((gR_ns s) + (nI 5)) - (nI 1)) / (nI 5) * (nI 5)) (gR_bd s) (gR_no s) (gR_fu s) (gR_now s) (gR_tri s) (gR_s0 s) (gR_s1 s) (gR_s2 s) (gR_s3 s) (gR_s4 s) (gR_txt s))) rfl ?_
        obtain ⟨v8, e9, h⟩ := bnd h
        refine mEv.callV (As := [.ref 29]) (st := []) (h := 1) (r := none) (μ1 := memRx ((gR_sc s) - (nI 1)) ((((gR_ns s) + (nI 5)) - (nI 1)) - (((gR_ns s) + (nI 5)) - (nI 1)) / (nI 5) * (nI 5)) (gR_bd s) (gR_no s) (gR_fu s) v8 (gR_tri s) (gR_s0 s) (gR_s1 s) (gR_s2 s) (gR_s3 s) (gR_s4 s) (gR_txt s)) lk_X2_161 rfl rfl rfl rfl rfl (lf_NN1_29 (as := [.ref 0, .ref 9]) (r := none) (A_X0_copyFrom (d := d + 0) e9)) ?_
        refine mEv.stp 0 (S' := (54, _, [some (.ref 0)], [], memRx ((gR_sc s) - (nI 1)) ((((gR_ns s) + (nI 5)) - (nI 1)) - (((gR_ns s) + (nI 5)) - (nI 1)) / (nI 5) * (nI 5)) (gR_bd s) (gR_no s) (gR_fu s) v8 (gR_tri s) (gR_s0 s) (gR_s1 s) (gR_s2 s) (gR_s3 s) (gR_s4 s) (gR_txt s))) rfl ?_
        obtain rfl := Option.some.inj h
        exact mEv.tgt memR_mk (mEv.stp 2 (S' := (58, _, [some (.ref 0)], [.int ((gR_sc s) - (nI 1))], memRx ((gR_sc s) - (nI 1)) ((((gR_ns s) + (nI 5)) - (nI 1)) - (((gR_ns s) + (nI 5)) - (nI 1)) / (nI 5) * (nI 5)) (gR_bd s) (gR_no s) (gR_fu s) v8 (gR_tri s) (gR_s0 s) (gR_s1 s) (gR_s2 s) (gR_s3 s) (gR_s4 s) (gR_txt s))) rfl (mEv.reti ⟨_, rfl, rfl⟩))
      · have h := (if_neg c7).symm.trans h
        by_cases c10 : ((((gR_ns s) + (nI 5)) - (nI 1)) - (((gR_ns s) + (nI 5)) - (nI 1)) / (nI 5) * (nI 5)) = (nI 2)
        · have h := (if_pos c10).symm.trans h
          rw [show (va_rf (m_sts (Int32.toNatClampNeg ((((gR_ns s) + (nI 5)) - (nI 1)) - (((gR_ns s) + (nI 5)) - (nI 1)) / (nI 5) * (nI 5))))) = Value.ref 38 from by rw [c10]; rfl]
          refine mEv.stp 0 (S' := (51, _, [some (.ref 0)], [.ref 38, .ref 1], memRx ((gR_sc s) - (nI 1)) ((((gR_ns s) + (nI 5)) - (nI 1)) - (((gR_ns s) + (nI 5)) - (nI 1)) / (nI 5) * (nI 5)) (gR_bd s) (gR_no s) (gR_fu s) (gR_now s) (gR_tri s) (gR_s0 s) (gR_s1 s) (gR_s2 s) (gR_s3 s) (gR_s4 s) (gR_txt s))) rfl ?_
          obtain ⟨v11, e12, h⟩ := bnd h
          refine mEv.callV (As := [.ref 38]) (st := []) (h := 1) (r := none) (μ1 := memRx ((gR_sc s) - (nI 1)) ((((gR_ns s) + (nI 5)) - (nI 1)) - (((gR_ns s) + (nI 5)) - (nI 1)) / (nI 5) * (nI 5)) (gR_bd s) (gR_no s) (gR_fu s) v11 (gR_tri s) (gR_s0 s) (gR_s1 s) (gR_s2 s) (gR_s3 s) (gR_s4 s) (gR_txt s)) lk_X2_161 rfl rfl rfl rfl rfl (lf_NN1_38 (as := [.ref 0, .ref 9]) (r := none) (A_X0_copyFrom (d := d + 0) e12)) ?_
          refine mEv.stp 0 (S' := (54, _, [some (.ref 0)], [], memRx ((gR_sc s) - (nI 1)) ((((gR_ns s) + (nI 5)) - (nI 1)) - (((gR_ns s) + (nI 5)) - (nI 1)) / (nI 5) * (nI 5)) (gR_bd s) (gR_no s) (gR_fu s) v11 (gR_tri s) (gR_s0 s) (gR_s1 s) (gR_s2 s) (gR_s3 s) (gR_s4 s) (gR_txt s))) rfl ?_
          obtain rfl := Option.some.inj h
          exact mEv.tgt memR_mk (mEv.stp 2 (S' := (58, _, [some (.ref 0)], [.int ((gR_sc s) - (nI 1))], memRx ((gR_sc s) - (nI 1)) ((((gR_ns s) + (nI 5)) - (nI 1)) - (((gR_ns s) + (nI 5)) - (nI 1)) / (nI 5) * (nI 5)) (gR_bd s) (gR_no s) (gR_fu s) v11 (gR_tri s) (gR_s0 s) (gR_s1 s) (gR_s2 s) (gR_s3 s) (gR_s4 s) (gR_txt s))) rfl (mEv.reti ⟨_, rfl, rfl⟩))
        · have h := (if_neg c10).symm.trans h
          by_cases c13 : ((((gR_ns s) + (nI 5)) - (nI 1)) - (((gR_ns s) + (nI 5)) - (nI 1)) / (nI 5) * (nI 5)) = (nI 3)
          · have h := (if_pos c13).symm.trans h
            rw [show (va_rf (m_sts (Int32.toNatClampNeg ((((gR_ns s) + (nI 5)) - (nI 1)) - (((gR_ns s) + (nI 5)) - (nI 1)) / (nI 5) * (nI 5))))) = Value.ref 47 from by rw [c13]; rfl]
            refine mEv.stp 0 (S' := (51, _, [some (.ref 0)], [.ref 47, .ref 1], memRx ((gR_sc s) - (nI 1)) ((((gR_ns s) + (nI 5)) - (nI 1)) - (((gR_ns s) + (nI 5)) - (nI 1)) / (nI 5) * (nI 5)) (gR_bd s) (gR_no s) (gR_fu s) (gR_now s) (gR_tri s) (gR_s0 s) (gR_s1 s) (gR_s2 s) (gR_s3 s) (gR_s4 s) (gR_txt s))) rfl ?_
            obtain ⟨v14, e15, h⟩ := bnd h
            refine mEv.callV (As := [.ref 47]) (st := []) (h := 1) (r := none) (μ1 := memRx ((gR_sc s) - (nI 1)) ((((gR_ns s) + (nI 5)) - (nI 1)) - (((gR_ns s) + (nI 5)) - (nI 1)) / (nI 5) * (nI 5)) (gR_bd s) (gR_no s) (gR_fu s) v14 (gR_tri s) (gR_s0 s) (gR_s1 s) (gR_s2 s) (gR_s3 s) (gR_s4 s) (gR_txt s)) lk_X2_161 rfl rfl rfl rfl rfl (lf_NN1_47 (as := [.ref 0, .ref 9]) (r := none) (A_X0_copyFrom (d := d + 0) e15)) ?_
            refine mEv.stp 0 (S' := (54, _, [some (.ref 0)], [], memRx ((gR_sc s) - (nI 1)) ((((gR_ns s) + (nI 5)) - (nI 1)) - (((gR_ns s) + (nI 5)) - (nI 1)) / (nI 5) * (nI 5)) (gR_bd s) (gR_no s) (gR_fu s) v14 (gR_tri s) (gR_s0 s) (gR_s1 s) (gR_s2 s) (gR_s3 s) (gR_s4 s) (gR_txt s))) rfl ?_
            obtain rfl := Option.some.inj h
            exact mEv.tgt memR_mk (mEv.stp 2 (S' := (58, _, [some (.ref 0)], [.int ((gR_sc s) - (nI 1))], memRx ((gR_sc s) - (nI 1)) ((((gR_ns s) + (nI 5)) - (nI 1)) - (((gR_ns s) + (nI 5)) - (nI 1)) / (nI 5) * (nI 5)) (gR_bd s) (gR_no s) (gR_fu s) v14 (gR_tri s) (gR_s0 s) (gR_s1 s) (gR_s2 s) (gR_s3 s) (gR_s4 s) (gR_txt s))) rfl (mEv.reti ⟨_, rfl, rfl⟩))
          · have h := (if_neg c13).symm.trans h
            by_cases c16 : ((((gR_ns s) + (nI 5)) - (nI 1)) - (((gR_ns s) + (nI 5)) - (nI 1)) / (nI 5) * (nI 5)) = (nI 4)
            · have h := (if_pos c16).symm.trans h
              rw [show (va_rf (m_sts (Int32.toNatClampNeg ((((gR_ns s) + (nI 5)) - (nI 1)) - (((gR_ns s) + (nI 5)) - (nI 1)) / (nI 5) * (nI 5))))) = Value.ref 56 from by rw [c16]; rfl]
              refine mEv.stp 0 (S' := (51, _, [some (.ref 0)], [.ref 56, .ref 1], memRx ((gR_sc s) - (nI 1)) ((((gR_ns s) + (nI 5)) - (nI 1)) - (((gR_ns s) + (nI 5)) - (nI 1)) / (nI 5) * (nI 5)) (gR_bd s) (gR_no s) (gR_fu s) (gR_now s) (gR_tri s) (gR_s0 s) (gR_s1 s) (gR_s2 s) (gR_s3 s) (gR_s4 s) (gR_txt s))) rfl ?_
              obtain ⟨v17, e18, h⟩ := bnd h
              refine mEv.callV (As := [.ref 56]) (st := []) (h := 1) (r := none) (μ1 := memRx ((gR_sc s) - (nI 1)) ((((gR_ns s) + (nI 5)) - (nI 1)) - (((gR_ns s) + (nI 5)) - (nI 1)) / (nI 5) * (nI 5)) (gR_bd s) (gR_no s) (gR_fu s) v17 (gR_tri s) (gR_s0 s) (gR_s1 s) (gR_s2 s) (gR_s3 s) (gR_s4 s) (gR_txt s)) lk_X2_161 rfl rfl rfl rfl rfl (lf_NN1_56 (as := [.ref 0, .ref 9]) (r := none) (A_X0_copyFrom (d := d + 0) e18)) ?_
              refine mEv.stp 0 (S' := (54, _, [some (.ref 0)], [], memRx ((gR_sc s) - (nI 1)) ((((gR_ns s) + (nI 5)) - (nI 1)) - (((gR_ns s) + (nI 5)) - (nI 1)) / (nI 5) * (nI 5)) (gR_bd s) (gR_no s) (gR_fu s) v17 (gR_tri s) (gR_s0 s) (gR_s1 s) (gR_s2 s) (gR_s3 s) (gR_s4 s) (gR_txt s))) rfl ?_
              obtain rfl := Option.some.inj h
              exact mEv.tgt memR_mk (mEv.stp 2 (S' := (58, _, [some (.ref 0)], [.int ((gR_sc s) - (nI 1))], memRx ((gR_sc s) - (nI 1)) ((((gR_ns s) + (nI 5)) - (nI 1)) - (((gR_ns s) + (nI 5)) - (nI 1)) / (nI 5) * (nI 5)) (gR_bd s) (gR_no s) (gR_fu s) v17 (gR_tri s) (gR_s0 s) (gR_s1 s) (gR_s2 s) (gR_s3 s) (gR_s4 s) (gR_txt s))) rfl (mEv.reti ⟨_, rfl, rfl⟩))
            · have h := (if_neg c16).symm.trans h
              cases h
  · have h := (if_neg c1).symm.trans h
    refine mEv.stp 2 (S' := (10, _, [some (.ref 0)], [.int (-nI 3), .ref 0], memR s)) rfl ?_
    obtain ⟨v19, e20, h⟩ := bnd h
    refine mEv.callV (As := [.int (-nI 3)]) (st := []) (h := 0) (r := (some (.int v19.1))) (μ1 := memR v19.2) lk_X2_34 rfl rfl rfl rfl rfl (A_X2_refuse (d := d + 1) e20) ?_
    refine mEv.stp 0 (S' := (13, _, [some (.ref 0)], [.int v19.1], memR v19.2)) rfl ?_
    obtain rfl := Option.some.inj h
    exact mEv.reti ⟨_, rfl, rfl⟩
theorem A_X2_undo {d : Nat}  {s : RouS} {q : Int32 × RouS} (h : F_X2_undo s = some q) : mCall (d + 2) m_X2_undo [.ref 0] (memR s) (some (.int q.1)) (memR q.2) := mCall.intro ok_X2_undo pl_X2_undo rfl (E_X2_undo (d := d) h)
def F_X2_told (p1 : Int32) (s : RouS) : Option (Int32 × RouS) := if p1 = (nI 0) then (some (((gR_bd s), s))) else (if p1 = (nI 1) then (some (((gR_no s), s))) else (if p1 = (nI 2) then (some (((gR_fu s), s))) else (if p1 = (nI 3) then (some (((gT_ln (gR_txt s)), s))) else (if p1 = (nI 4) then (some (((gN_tc (gR_now s)), s))) else (if p1 = (nI 5) then (some (((gN_hb (gR_now s)), s))) else (if p1 = (nI 6) then (some (((gN_cc (gR_now s)), s))) else (if p1 = (nI 7) then (some (((gN_hg (gR_now s)), s))) else (if p1 = (nI 8) then (some (((gN_x (gR_now s)), s))) else (if p1 = (nI 9) then (some (((gR_sc s), s))) else ((F_X2_refuse (-nI 2) s).bind (fun v11 => some ((v11.1, v11.2)))))))))))))
set_option maxRecDepth 100000 in
theorem E_X2_told {d : Nat} {p1 : Int32} {s : RouS} {q : Int32 × RouS} (h : F_X2_told p1 s = some q) : mEv (d + 1) m_X2_told none (0, [], [some (.ref 0), some (.int p1)], [], memR s) (some (.int q.1)) (memR q.2) := by
  unfold F_X2_told at h
  refine mEv.stp 3 (S' := (mSw p1 [(nI 0, 56), (nI 1, 61), (nI 2, 66), (nI 3, 71), (nI 4, 79), (nI 5, 87), (nI 6, 95), (nI 7, 103), (nI 8, 111), (nI 9, 119)] 124, [], [some (.ref 0), some (.int p1)], [], memR s)) rfl ?_
  refine mEv.sw (fun c1 => ?_) (fun c1 => ?_)
  · have h := (if_pos c1).symm.trans h
    obtain rfl := Option.some.inj h
    exact mEv.stp 3 (S' := (60, _, [some (.ref 0), some (.int p1)], [.int (gR_bd s)], memR s)) rfl (mEv.reti ⟨_, rfl, rfl⟩)
  · have h := (if_neg c1).symm.trans h
    refine mEv.sw (fun c2 => ?_) (fun c2 => ?_)
    · have h := (if_pos c2).symm.trans h
      obtain rfl := Option.some.inj h
      exact mEv.stp 3 (S' := (65, _, [some (.ref 0), some (.int p1)], [.int (gR_no s)], memR s)) rfl (mEv.reti ⟨_, rfl, rfl⟩)
    · have h := (if_neg c2).symm.trans h
      refine mEv.sw (fun c3 => ?_) (fun c3 => ?_)
      · have h := (if_pos c3).symm.trans h
        obtain rfl := Option.some.inj h
        exact mEv.stp 3 (S' := (70, _, [some (.ref 0), some (.int p1)], [.int (gR_fu s)], memR s)) rfl (mEv.reti ⟨_, rfl, rfl⟩)
      · have h := (if_neg c3).symm.trans h
        refine mEv.sw (fun c4 => ?_) (fun c4 => ?_)
        · have h := (if_pos c4).symm.trans h
          obtain rfl := Option.some.inj h
          exact mEv.stp 4 (S' := (78, _, [some (.ref 0), some (.int p1)], [.int (gT_ln (gR_txt s))], memR s)) rfl (mEv.reti ⟨_, rfl, rfl⟩)
        · have h := (if_neg c4).symm.trans h
          refine mEv.sw (fun c5 => ?_) (fun c5 => ?_)
          · have h := (if_pos c5).symm.trans h
            obtain rfl := Option.some.inj h
            exact mEv.stp 4 (S' := (86, _, [some (.ref 0), some (.int p1)], [.int (gN_tc (gR_now s))], memR s)) rfl (mEv.reti ⟨_, rfl, rfl⟩)
          · have h := (if_neg c5).symm.trans h
            refine mEv.sw (fun c6 => ?_) (fun c6 => ?_)
            · have h := (if_pos c6).symm.trans h
              obtain rfl := Option.some.inj h
              exact mEv.stp 4 (S' := (94, _, [some (.ref 0), some (.int p1)], [.int (gN_hb (gR_now s))], memR s)) rfl (mEv.reti ⟨_, rfl, rfl⟩)
            · have h := (if_neg c6).symm.trans h
              refine mEv.sw (fun c7 => ?_) (fun c7 => ?_)
              · have h := (if_pos c7).symm.trans h
                obtain rfl := Option.some.inj h
                exact mEv.stp 4 (S' := (102, _, [some (.ref 0), some (.int p1)], [.int (gN_cc (gR_now s))], memR s)) rfl (mEv.reti ⟨_, rfl, rfl⟩)
              · have h := (if_neg c7).symm.trans h
                refine mEv.sw (fun c8 => ?_) (fun c8 => ?_)
                · have h := (if_pos c8).symm.trans h
                  obtain rfl := Option.some.inj h
                  exact mEv.stp 4 (S' := (110, _, [some (.ref 0), some (.int p1)], [.int (gN_hg (gR_now s))], memR s)) rfl (mEv.reti ⟨_, rfl, rfl⟩)
                · have h := (if_neg c8).symm.trans h
                  refine mEv.sw (fun c9 => ?_) (fun c9 => ?_)
                  · have h := (if_pos c9).symm.trans h
                    obtain rfl := Option.some.inj h
                    exact mEv.stp 4 (S' := (118, _, [some (.ref 0), some (.int p1)], [.int (gN_x (gR_now s))], memR s)) rfl (mEv.reti ⟨_, rfl, rfl⟩)
                  · have h := (if_neg c9).symm.trans h
                    refine mEv.sw (fun c10 => ?_) (fun c10 => ?_)
                    · have h := (if_pos c10).symm.trans h
                      obtain rfl := Option.some.inj h
                      exact mEv.stp 3 (S' := (123, _, [some (.ref 0), some (.int p1)], [.int (gR_sc s)], memR s)) rfl (mEv.reti ⟨_, rfl, rfl⟩)
                    · have h := (if_neg c10).symm.trans h
                      refine mEv.stp 0 (S' := (124, [], [some (.ref 0), some (.int p1)], [], memR s)) rfl ?_
                      refine mEv.stp 3 (S' := (127, _, [some (.ref 0), some (.int p1)], [.int (-nI 2), .ref 0], memR s)) rfl ?_
                      obtain ⟨v11, e12, h⟩ := bnd h
                      refine mEv.callV (As := [.int (-nI 2)]) (st := []) (h := 0) (r := (some (.int v11.1))) (μ1 := memR v11.2) lk_X2_34 rfl rfl rfl rfl rfl (A_X2_refuse (d := d + 0) e12) ?_
                      refine mEv.stp 0 (S' := (130, _, [some (.ref 0), some (.int p1)], [.int v11.1], memR v11.2)) rfl ?_
                      obtain rfl := Option.some.inj h
                      exact mEv.reti ⟨_, rfl, rfl⟩
theorem A_X2_told {d : Nat} {p1 : Int32} {s : RouS} {q : Int32 × RouS} (h : F_X2_told p1 s = some q) : mCall (d + 1) m_X2_told [.ref 0, .int p1] (memR s) (some (.int q.1)) (memR q.2) := mCall.intro ok_X2_told pl_X2_told rfl (E_X2_told (d := d) h)
def B_X2_digest_6 (x1 : Int64) (x3 : Int32) (s : RouS) : Option ((Int64 × Int32 × RouS) ⊕ (Int64 × RouS)) := if (nI 9) < x3 then (some (.inr (x1, s))) else ((F_X2_told x3 s).bind (fun v2 => some (.inl ((((lN 31) * x1) + (Int32.toInt64 v2.1)), (x3 + (nI 1)), v2.2))))
set_option maxRecDepth 100000 in
theorem H_X2_digest_6 {d : Nat} {x1 : Int64} {x3 : Int32} {s : RouS} {q : (Int64 × Int32 × RouS) ⊕ (Int64 × RouS)} {r0 : Option Value} {mu0 : MMe} (h : B_X2_digest_6 x1 x3 s = some q) (hk : Sum.elim (fun x : Int64 × Int32 × RouS => mEv (d + 2) m_X2_digest none (6, [], [some (.ref 0), some (.long x.1), none, some (.int x.2.1)], [], memR x.2.2) r0 mu0) (fun z : Int64 × RouS => mEv (d + 2) m_X2_digest none (31, [], [some (.ref 0), some (.long z.1), none, none], [], memR z.2) r0 mu0) q) : mEv (d + 2) m_X2_digest none (6, [], [some (.ref 0), some (.long x1), none, some (.int x3)], [], memR s) r0 mu0 := by
  unfold B_X2_digest_6 at h
  refine mEv.br 4 (S1 := (31, [], [some (.ref 0), some (.long x1), none, some (.int x3)], [], memR s)) (S2 := (12, _, [some (.ref 0), some (.long x1), none, some (.int x3)], [], memR s)) rfl (fun c1 => ?_) (fun c1 => ?_)
  · have h := (if_pos c1).symm.trans h
    refine mEv.fg [3] (z' := [some (.ref 0), some (.long x1), none, none]) rfl ?_
    obtain rfl := Option.some.inj h
    exact hk
  · have h := (if_neg c1).symm.trans h
    refine mEv.stp 5 (S' := (19, _, [some (.ref 0), some (.long x1), none, some (.int x3)], [.int x3, .ref 0, .long ((lN 31) * x1)], memR s)) rfl ?_
    obtain ⟨v2, e3, h⟩ := bnd h
    refine mEv.callV (As := [.int x3]) (st := [.long ((lN 31) * x1)]) (h := 0) (r := (some (.int v2.1))) (μ1 := memR v2.2) lk_X2_181 rfl rfl rfl rfl rfl (A_X2_told (d := d + 0) e3) ?_
    refine mEv.stp 0 (S' := (22, _, [some (.ref 0), some (.long x1), none, some (.int x3)], [.int v2.1, .long ((lN 31) * x1)], memR v2.2)) rfl ?_
    refine mEv.stp 5 (S' := (6, [], [some (.ref 0), some (.long (((lN 31) * x1) + (Int32.toInt64 v2.1))), none, some (.int (x3 + (nI 1)))], [], memR v2.2)) rfl ?_
    obtain rfl := Option.some.inj h
    exact hk
def F_X2_digest  (s : RouS) : Option (Int64 × RouS) := (mWh (fun x => B_X2_digest_6 x.1 x.2.1 x.2.2) fuel0 ((lN 2129), (nI 0), s)).bind (fun z4 => (F_X0_mixLinks z4.1 (gR_now z4.2)).bind (fun v6 => (F_X0_mixPairs v6 (gR_now z4.2)).bind (fun v8 => (F_X0_mixLoadsAndCalls v8 (gR_now z4.2)).bind (fun v10 => some ((v10, z4.2))))))
set_option maxRecDepth 100000 in
theorem E_X2_digest {d : Nat}  {s : RouS} {q : Int64 × RouS} (h : F_X2_digest s = some q) : mEv (d + 2) m_X2_digest none (0, [], [some (.ref 0), none, none, none], [], memR s) (some (.long q.1)) (memR q.2) := by
  unfold F_X2_digest at h
  refine mEv.stp 5 (S' := (6, [], [some (.ref 0), some (.long (lN 2129)), none, some (.int (nI 0))], [], memR s)) rfl ?_
  obtain ⟨z4, e5, h⟩ := bnd h
  refine mWh_ind (b := (fun x => B_X2_digest_6 x.1 x.2.1 x.2.2)) (P := fun x : Int64 × Int32 × RouS => mEv (d + 2) m_X2_digest none (6, [], [some (.ref 0), some (.long x.1), none, some (.int x.2.1)], [], memR x.2.2) (some (.long q.1)) (memR q.2)) (K := fun z : Int64 × RouS => mEv (d + 2) m_X2_digest none (31, [], [some (.ref 0), some (.long z.1), none, none], [], memR z.2) (some (.long q.1)) (memR q.2)) (fun x u hq hk => H_X2_digest_6 (d := d) (x1 := x.1) (x3 := x.2.1) (s := x.2.2) (q := u) (r0 := (some (.long q.1))) (mu0 := (memR q.2)) hq hk) fuel0 ((lN 2129), (nI 0), s) z4 e5 ?_
  refine mEv.stp 0 (S' := (31, [], [some (.ref 0), some (.long z4.1), none, none], [], memR z4.2)) rfl ?_
  refine mEv.stp 4 (S' := (36, _, [some (.ref 0), some (.long z4.1), none, none], [.long z4.1, .ref 1], memR z4.2)) rfl ?_
  obtain ⟨v6, e7, h⟩ := bnd h
  refine mEv.callV (As := [.long z4.1]) (st := []) (h := 1) (r := (some (.long v6))) (μ1 := memR z4.2) lk_X2_184 rfl rfl rfl rfl rfl (lf_N1 (as := [.ref 0, .long z4.1]) (r := (some (.long v6))) (A_X0_mixLinks (d := d + 0) e7)) ?_
  refine mEv.stp 0 (S' := (39, _, [some (.ref 0), some (.long z4.1), none, none], [.long v6], memR z4.2)) rfl ?_
  refine mEv.stp 4 (S' := (45, _, [some (.ref 0), some (.long v6), none, none], [.long v6, .ref 1], memR z4.2)) rfl ?_
  obtain ⟨v8, e9, h⟩ := bnd h
  refine mEv.callV (As := [.long v6]) (st := []) (h := 1) (r := (some (.long v8))) (μ1 := memR z4.2) lk_X2_188 rfl rfl rfl rfl rfl (lf_N1 (as := [.ref 0, .long v6]) (r := (some (.long v8))) (A_X0_mixPairs (d := d + 0) e9)) ?_
  refine mEv.stp 0 (S' := (48, _, [some (.ref 0), some (.long v6), none, none], [.long v8], memR z4.2)) rfl ?_
  refine mEv.stp 4 (S' := (54, _, [some (.ref 0), some (.long v8), none, none], [.long v8, .ref 1], memR z4.2)) rfl ?_
  obtain ⟨v10, e11, h⟩ := bnd h
  refine mEv.callV (As := [.long v8]) (st := []) (h := 1) (r := (some (.long v10))) (μ1 := memR z4.2) lk_X2_191 rfl rfl rfl rfl rfl (lf_N1 (as := [.ref 0, .long v8]) (r := (some (.long v10))) (A_X0_mixLoadsAndCalls (d := d + 1) e11)) ?_
  refine mEv.stp 0 (S' := (57, _, [some (.ref 0), some (.long v8), none, none], [.long v10], memR z4.2)) rfl ?_
  obtain rfl := Option.some.inj h
  exact mEv.retl rfl
theorem A_X2_digest {d : Nat}  {s : RouS} {q : Int64 × RouS} (h : F_X2_digest s = some q) : mCall (d + 2) m_X2_digest [.ref 0] (memR s) (some (.long q.1)) (memR q.2) := mCall.intro ok_X2_digest pl_X2_digest rfl (E_X2_digest (d := d) h)
end
