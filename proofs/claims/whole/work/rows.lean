section
-- ===== PART A: goes FIRST, ahead of the names: the tables' words, and 'selects' of the private methods out of them =====
/-- a private method of a class that the tables say can be made, by its rows of tables_1 -/
def lw_okq (q : MethodName × Nat) : Prop := (q.1.cls ≠ "java/lang/invoke/MethodHandle" ∧ q.1.cls ≠ "java/lang/invoke/VarHandle") ∧ Cond.instantiable q.1.cls q.2 ∈ tables_1 ∧ Cond.privateMethod q.1 ∈ tables_1 ∧ Cond.instanceMethod q.1 ∈ tables_1
theorem lw_p0 : lw_okq (⟨"StickyRoutes", "refuse", "(I)I"⟩, 9) := ⟨⟨by decide +kernel, by decide +kernel⟩, List.mem_of_getElem? (i := 8) (by decide +kernel), List.mem_of_getElem? (i := 155) (by decide +kernel), List.mem_of_getElem? (i := 156) (by decide +kernel)⟩
theorem lw_p1 : lw_okq (⟨"StickyRoutes", "keepState", "()V"⟩, 9) := ⟨⟨by decide +kernel, by decide +kernel⟩, List.mem_of_getElem? (i := 8) (by decide +kernel), List.mem_of_getElem? (i := 159) (by decide +kernel), List.mem_of_getElem? (i := 160) (by decide +kernel)⟩
theorem lw_p2 : lw_okq (⟨"StickyRoutes", "isPair", "(II)Z"⟩, 9) := ⟨⟨by decide +kernel, by decide +kernel⟩, List.mem_of_getElem? (i := 8) (by decide +kernel), List.mem_of_getElem? (i := 175) (by decide +kernel), List.mem_of_getElem? (i := 176) (by decide +kernel)⟩
theorem lw_p3 : lw_okq (⟨"StickyRoutes$Net", "count", "(II)V"⟩, 13) := ⟨⟨by decide +kernel, by decide +kernel⟩, List.mem_of_getElem? (i := 16) (by decide +kernel), List.mem_of_getElem? (i := 226) (by decide +kernel), List.mem_of_getElem? (i := 227) (by decide +kernel)⟩
theorem lw_p4 : lw_okq (⟨"StickyRoutes$Net", "servesOver", "(I)Z"⟩, 13) := ⟨⟨by decide +kernel, by decide +kernel⟩, List.mem_of_getElem? (i := 16) (by decide +kernel), List.mem_of_getElem? (i := 235) (by decide +kernel), List.mem_of_getElem? (i := 236) (by decide +kernel)⟩
theorem lw_p5 : lw_okq (⟨"StickyRoutes$Net", "redraw", "(II)V"⟩, 13) := ⟨⟨by decide +kernel, by decide +kernel⟩, List.mem_of_getElem? (i := 16) (by decide +kernel), List.mem_of_getElem? (i := 239) (by decide +kernel), List.mem_of_getElem? (i := 240) (by decide +kernel)⟩
theorem lw_p6 : lw_okq (⟨"StickyRoutes$Net", "advanceX", "()V"⟩, 13) := ⟨⟨by decide +kernel, by decide +kernel⟩, List.mem_of_getElem? (i := 16) (by decide +kernel), List.mem_of_getElem? (i := 243) (by decide +kernel), List.mem_of_getElem? (i := 244) (by decide +kernel)⟩
theorem lw_p7 : lw_okq (⟨"StickyRoutes$Net", "addCall", "(IIII)I"⟩, 13) := ⟨⟨by decide +kernel, by decide +kernel⟩, List.mem_of_getElem? (i := 16) (by decide +kernel), List.mem_of_getElem? (i := 257) (by decide +kernel), List.mem_of_getElem? (i := 258) (by decide +kernel)⟩
theorem lw_p8 : lw_okq (⟨"StickyRoutes$Net", "hold", "(II)V"⟩, 13) := ⟨⟨by decide +kernel, by decide +kernel⟩, List.mem_of_getElem? (i := 16) (by decide +kernel), List.mem_of_getElem? (i := 261) (by decide +kernel), List.mem_of_getElem? (i := 262) (by decide +kernel)⟩
theorem lw_p9 : lw_okq (⟨"StickyRoutes$Net", "endHour", "()I"⟩, 13) := ⟨⟨by decide +kernel, by decide +kernel⟩, List.mem_of_getElem? (i := 16) (by decide +kernel), List.mem_of_getElem? (i := 273) (by decide +kernel), List.mem_of_getElem? (i := 274) (by decide +kernel)⟩
theorem lw_p10 : lw_okq (⟨"StickyRoutes$Net", "moveCall", "(II)V"⟩, 13) := ⟨⟨by decide +kernel, by decide +kernel⟩, List.mem_of_getElem? (i := 16) (by decide +kernel), List.mem_of_getElem? (i := 277) (by decide +kernel), List.mem_of_getElem? (i := 278) (by decide +kernel)⟩
theorem lw_p11 : lw_okq (⟨"StickyRoutes$Net", "askByPlan", "()V"⟩, 13) := ⟨⟨by decide +kernel, by decide +kernel⟩, List.mem_of_getElem? (i := 16) (by decide +kernel), List.mem_of_getElem? (i := 284) (by decide +kernel), List.mem_of_getElem? (i := 285) (by decide +kernel)⟩
theorem lw_p12 : lw_okq (⟨"StickyRoutes", "refusedWith", "(III)I"⟩, 9) := ⟨⟨by decide +kernel, by decide +kernel⟩, List.mem_of_getElem? (i := 8) (by decide +kernel), List.mem_of_getElem? (i := 339) (by decide +kernel), List.mem_of_getElem? (i := 340) (by decide +kernel)⟩
theorem lw_p13 : lw_okq (⟨"StickyRoutes$Text", "skipBlanks", "()V"⟩, 7) := ⟨⟨by decide +kernel, by decide +kernel⟩, List.mem_of_getElem? (i := 89) (by decide +kernel), List.mem_of_getElem? (i := 376) (by decide +kernel), List.mem_of_getElem? (i := 377) (by decide +kernel)⟩
theorem lw_p14 : lw_okq (⟨"StickyRoutes$Text", "readOrder", "(I)V"⟩, 7) := ⟨⟨by decide +kernel, by decide +kernel⟩, List.mem_of_getElem? (i := 89) (by decide +kernel), List.mem_of_getElem? (i := 380) (by decide +kernel), List.mem_of_getElem? (i := 381) (by decide +kernel)⟩
theorem lw_p15 : lw_okq (⟨"StickyRoutes$Text", "readKind", "()I"⟩, 7) := ⟨⟨by decide +kernel, by decide +kernel⟩, List.mem_of_getElem? (i := 89) (by decide +kernel), List.mem_of_getElem? (i := 384) (by decide +kernel), List.mem_of_getElem? (i := 385) (by decide +kernel)⟩
def lw_privs_1 : List (MethodName × Nat) := [(⟨"StickyRoutes", "refuse", "(I)I"⟩, 9), (⟨"StickyRoutes", "keepState", "()V"⟩, 9), (⟨"StickyRoutes", "isPair", "(II)Z"⟩, 9), (⟨"StickyRoutes$Net", "count", "(II)V"⟩, 13), (⟨"StickyRoutes$Net", "servesOver", "(I)Z"⟩, 13), (⟨"StickyRoutes$Net", "redraw", "(II)V"⟩, 13), (⟨"StickyRoutes$Net", "advanceX", "()V"⟩, 13), (⟨"StickyRoutes$Net", "addCall", "(IIII)I"⟩, 13), (⟨"StickyRoutes$Net", "hold", "(II)V"⟩, 13), (⟨"StickyRoutes$Net", "endHour", "()I"⟩, 13), (⟨"StickyRoutes$Net", "moveCall", "(II)V"⟩, 13), (⟨"StickyRoutes$Net", "askByPlan", "()V"⟩, 13), (⟨"StickyRoutes", "refusedWith", "(III)I"⟩, 9), (⟨"StickyRoutes$Text", "skipBlanks", "()V"⟩, 7), (⟨"StickyRoutes$Text", "readOrder", "(I)V"⟩, 7), (⟨"StickyRoutes$Text", "readKind", "()I"⟩, 7)]
theorem lw_r1 : ∀ q ∈ lw_privs_1, lw_okq q := List.forall_mem_cons.mpr ⟨lw_p0, List.forall_mem_cons.mpr ⟨lw_p1, List.forall_mem_cons.mpr ⟨lw_p2, List.forall_mem_cons.mpr ⟨lw_p3, List.forall_mem_cons.mpr ⟨lw_p4, List.forall_mem_cons.mpr ⟨lw_p5, List.forall_mem_cons.mpr ⟨lw_p6, List.forall_mem_cons.mpr ⟨lw_p7, List.forall_mem_cons.mpr ⟨lw_p8, List.forall_mem_cons.mpr ⟨lw_p9, List.forall_mem_cons.mpr ⟨lw_p10, List.forall_mem_cons.mpr ⟨lw_p11, List.forall_mem_cons.mpr ⟨lw_p12, List.forall_mem_cons.mpr ⟨lw_p13, List.forall_mem_cons.mpr ⟨lw_p14, List.forall_mem_cons.mpr ⟨lw_p15, fun _ h => absurd h List.not_mem_nil⟩⟩⟩⟩⟩⟩⟩⟩⟩⟩⟩⟩⟩⟩⟩⟩
theorem lw_p16 : lw_okq (⟨"StickyRoutes$Text", "readTown", "(I)I"⟩, 7) := ⟨⟨by decide +kernel, by decide +kernel⟩, List.mem_of_getElem? (i := 89) (by decide +kernel), List.mem_of_getElem? (i := 391) (by decide +kernel), List.mem_of_getElem? (i := 392) (by decide +kernel)⟩
theorem lw_p17 : lw_okq (⟨"StickyRoutes$Text", "readFigure", "(I)I"⟩, 7) := ⟨⟨by decide +kernel, by decide +kernel⟩, List.mem_of_getElem? (i := 89) (by decide +kernel), List.mem_of_getElem? (i := 395) (by decide +kernel), List.mem_of_getElem? (i := 396) (by decide +kernel)⟩
theorem lw_p18 : lw_okq (⟨"StickyRoutes$Text", "readNumber", "(II)I"⟩, 7) := ⟨⟨by decide +kernel, by decide +kernel⟩, List.mem_of_getElem? (i := 89) (by decide +kernel), List.mem_of_getElem? (i := 399) (by decide +kernel), List.mem_of_getElem? (i := 400) (by decide +kernel)⟩
theorem lw_p19 : lw_okq (⟨"StickyRoutes$Text", "readEnd", "()V"⟩, 7) := ⟨⟨by decide +kernel, by decide +kernel⟩, List.mem_of_getElem? (i := 89) (by decide +kernel), List.mem_of_getElem? (i := 403) (by decide +kernel), List.mem_of_getElem? (i := 404) (by decide +kernel)⟩
theorem lw_p20 : lw_okq (⟨"StickyRoutesModel", "begins", "(I)V"⟩, 13) := ⟨⟨by decide +kernel, by decide +kernel⟩, List.mem_of_getElem? (i := 440) (by decide +kernel), List.mem_of_getElem? (i := 446) (by decide +kernel), List.mem_of_getElem? (i := 447) (by decide +kernel)⟩
theorem lw_p21 : lw_okq (⟨"StickyRoutesModel", "bads", "()I"⟩, 13) := ⟨⟨by decide +kernel, by decide +kernel⟩, List.mem_of_getElem? (i := 440) (by decide +kernel), List.mem_of_getElem? (i := 497) (by decide +kernel), List.mem_of_getElem? (i := 498) (by decide +kernel)⟩
theorem lw_p22 : lw_okq (⟨"StickyRoutesModel", "keeps", "()V"⟩, 13) := ⟨⟨by decide +kernel, by decide +kernel⟩, List.mem_of_getElem? (i := 440) (by decide +kernel), List.mem_of_getElem? (i := 501) (by decide +kernel), List.mem_of_getElem? (i := 502) (by decide +kernel)⟩
theorem lw_p23 : lw_okq (⟨"StickyRoutesModel", "areTowns", "(II)Z"⟩, 13) := ⟨⟨by decide +kernel, by decide +kernel⟩, List.mem_of_getElem? (i := 440) (by decide +kernel), List.mem_of_getElem? (i := 509) (by decide +kernel), List.mem_of_getElem? (i := 510) (by decide +kernel)⟩
theorem lw_p24 : lw_okq (⟨"StickyRoutesModel", "isTown", "(I)Z"⟩, 13) := ⟨⟨by decide +kernel, by decide +kernel⟩, List.mem_of_getElem? (i := 440) (by decide +kernel), List.mem_of_getElem? (i := 513) (by decide +kernel), List.mem_of_getElem? (i := 514) (by decide +kernel)⟩
theorem lw_p25 : lw_okq (⟨"StickyRoutesModel", "free", "(II)I"⟩, 13) := ⟨⟨by decide +kernel, by decide +kernel⟩, List.mem_of_getElem? (i := 440) (by decide +kernel), List.mem_of_getElem? (i := 541) (by decide +kernel), List.mem_of_getElem? (i := 542) (by decide +kernel)⟩
theorem lw_p26 : lw_okq (⟨"StickyRoutesModel", "holding", "(III)I"⟩, 13) := ⟨⟨by decide +kernel, by decide +kernel⟩, List.mem_of_getElem? (i := 440) (by decide +kernel), List.mem_of_getElem? (i := 545) (by decide +kernel), List.mem_of_getElem? (i := 546) (by decide +kernel)⟩
theorem lw_p27 : lw_okq (⟨"StickyRoutesModel", "asks", "(III)I"⟩, 13) := ⟨⟨by decide +kernel, by decide +kernel⟩, List.mem_of_getElem? (i := 440) (by decide +kernel), List.mem_of_getElem? (i := 557) (by decide +kernel), List.mem_of_getElem? (i := 558) (by decide +kernel)⟩
theorem lw_p28 : lw_okq (⟨"StickyRoutesModel", "counts", "(III)V"⟩, 13) := ⟨⟨by decide +kernel, by decide +kernel⟩, List.mem_of_getElem? (i := 440) (by decide +kernel), List.mem_of_getElem? (i := 561) (by decide +kernel), List.mem_of_getElem? (i := 562) (by decide +kernel)⟩
theorem lw_p29 : lw_okq (⟨"StickyRoutesModel", "goes", "(IIII)V"⟩, 13) := ⟨⟨by decide +kernel, by decide +kernel⟩, List.mem_of_getElem? (i := 440) (by decide +kernel), List.mem_of_getElem? (i := 565) (by decide +kernel), List.mem_of_getElem? (i := 566) (by decide +kernel)⟩
theorem lw_p30 : lw_okq (⟨"StickyRoutesModel", "hasMore", "(II)Z"⟩, 13) := ⟨⟨by decide +kernel, by decide +kernel⟩, List.mem_of_getElem? (i := 440) (by decide +kernel), List.mem_of_getElem? (i := 569) (by decide +kernel), List.mem_of_getElem? (i := 570) (by decide +kernel)⟩
theorem lw_p31 : lw_okq (⟨"StickyRoutesModel", "drawsSticky", "(II)V"⟩, 13) := ⟨⟨by decide +kernel, by decide +kernel⟩, List.mem_of_getElem? (i := 440) (by decide +kernel), List.mem_of_getElem? (i := 573) (by decide +kernel), List.mem_of_getElem? (i := 574) (by decide +kernel)⟩
def lw_privs_2 : List (MethodName × Nat) := [(⟨"StickyRoutes$Text", "readTown", "(I)I"⟩, 7), (⟨"StickyRoutes$Text", "readFigure", "(I)I"⟩, 7), (⟨"StickyRoutes$Text", "readNumber", "(II)I"⟩, 7), (⟨"StickyRoutes$Text", "readEnd", "()V"⟩, 7), (⟨"StickyRoutesModel", "begins", "(I)V"⟩, 13), (⟨"StickyRoutesModel", "bads", "()I"⟩, 13), (⟨"StickyRoutesModel", "keeps", "()V"⟩, 13), (⟨"StickyRoutesModel", "areTowns", "(II)Z"⟩, 13), (⟨"StickyRoutesModel", "isTown", "(I)Z"⟩, 13), (⟨"StickyRoutesModel", "free", "(II)I"⟩, 13), (⟨"StickyRoutesModel", "holding", "(III)I"⟩, 13), (⟨"StickyRoutesModel", "asks", "(III)I"⟩, 13), (⟨"StickyRoutesModel", "counts", "(III)V"⟩, 13), (⟨"StickyRoutesModel", "goes", "(IIII)V"⟩, 13), (⟨"StickyRoutesModel", "hasMore", "(II)Z"⟩, 13), (⟨"StickyRoutesModel", "drawsSticky", "(II)V"⟩, 13)]
theorem lw_r2 : ∀ q ∈ lw_privs_2, lw_okq q := List.forall_mem_cons.mpr ⟨lw_p16, List.forall_mem_cons.mpr ⟨lw_p17, List.forall_mem_cons.mpr ⟨lw_p18, List.forall_mem_cons.mpr ⟨lw_p19, List.forall_mem_cons.mpr ⟨lw_p20, List.forall_mem_cons.mpr ⟨lw_p21, List.forall_mem_cons.mpr ⟨lw_p22, List.forall_mem_cons.mpr ⟨lw_p23, List.forall_mem_cons.mpr ⟨lw_p24, List.forall_mem_cons.mpr ⟨lw_p25, List.forall_mem_cons.mpr ⟨lw_p26, List.forall_mem_cons.mpr ⟨lw_p27, List.forall_mem_cons.mpr ⟨lw_p28, List.forall_mem_cons.mpr ⟨lw_p29, List.forall_mem_cons.mpr ⟨lw_p30, List.forall_mem_cons.mpr ⟨lw_p31, fun _ h => absurd h List.not_mem_nil⟩⟩⟩⟩⟩⟩⟩⟩⟩⟩⟩⟩⟩⟩⟩⟩
theorem lw_p32 : lw_okq (⟨"StickyRoutesModel", "draws", "()V"⟩, 13) := ⟨⟨by decide +kernel, by decide +kernel⟩, List.mem_of_getElem? (i := 440) (by decide +kernel), List.mem_of_getElem? (i := 577) (by decide +kernel), List.mem_of_getElem? (i := 578) (by decide +kernel)⟩
theorem lw_p33 : lw_okq (⟨"StickyRoutesModel", "passes", "(I)I"⟩, 13) := ⟨⟨by decide +kernel, by decide +kernel⟩, List.mem_of_getElem? (i := 440) (by decide +kernel), List.mem_of_getElem? (i := 589) (by decide +kernel), List.mem_of_getElem? (i := 590) (by decide +kernel)⟩
theorem lw_p34 : lw_okq (⟨"StickyRoutesModel", "letsGo", "(I)V"⟩, 13) := ⟨⟨by decide +kernel, by decide +kernel⟩, List.mem_of_getElem? (i := 440) (by decide +kernel), List.mem_of_getElem? (i := 593) (by decide +kernel), List.mem_of_getElem? (i := 594) (by decide +kernel)⟩
theorem lw_p35 : lw_okq (⟨"StickyRoutesModel", "nos", "()I"⟩, 13) := ⟨⟨by decide +kernel, by decide +kernel⟩, List.mem_of_getElem? (i := 440) (by decide +kernel), List.mem_of_getElem? (i := 605) (by decide +kernel), List.mem_of_getElem? (i := 606) (by decide +kernel)⟩
theorem lw_p36 : lw_okq (⟨"StickyRoutesModel", "sumOf", "(I)I"⟩, 13) := ⟨⟨by decide +kernel, by decide +kernel⟩, List.mem_of_getElem? (i := 440) (by decide +kernel), List.mem_of_getElem? (i := 613) (by decide +kernel), List.mem_of_getElem? (i := 614) (by decide +kernel)⟩
theorem lw_p37 : lw_okq (⟨"StickyRoutesModel", "lostIn", "(II)I"⟩, 13) := ⟨⟨by decide +kernel, by decide +kernel⟩, List.mem_of_getElem? (i := 440) (by decide +kernel), List.mem_of_getElem? (i := 633) (by decide +kernel), List.mem_of_getElem? (i := 634) (by decide +kernel)⟩
theorem lw_p38 : lw_okq (⟨"StickyRoutesModel", "mayGo", "(III)Z"⟩, 13) := ⟨⟨by decide +kernel, by decide +kernel⟩, List.mem_of_getElem? (i := 440) (by decide +kernel), List.mem_of_getElem? (i := 645) (by decide +kernel), List.mem_of_getElem? (i := 646) (by decide +kernel)⟩
theorem lw_p39 : lw_okq (⟨"StickyRoutesModel", "order", "()V"⟩, 13) := ⟨⟨by decide +kernel, by decide +kernel⟩, List.mem_of_getElem? (i := 440) (by decide +kernel), List.mem_of_getElem? (i := 661) (by decide +kernel), List.mem_of_getElem? (i := 662) (by decide +kernel)⟩
theorem lw_p40 : lw_okq (⟨"StickyRoutesModel", "sign", "()I"⟩, 13) := ⟨⟨by decide +kernel, by decide +kernel⟩, List.mem_of_getElem? (i := 440) (by decide +kernel), List.mem_of_getElem? (i := 665) (by decide +kernel), List.mem_of_getElem? (i := 666) (by decide +kernel)⟩
theorem lw_p41 : lw_okq (⟨"StickyRoutesModel", "figure", "(II)I"⟩, 13) := ⟨⟨by decide +kernel, by decide +kernel⟩, List.mem_of_getElem? (i := 440) (by decide +kernel), List.mem_of_getElem? (i := 672) (by decide +kernel), List.mem_of_getElem? (i := 673) (by decide +kernel)⟩
theorem lw_p42 : lw_okq (⟨"StickyRoutesModel", "fails", "(I)V"⟩, 13) := ⟨⟨by decide +kernel, by decide +kernel⟩, List.mem_of_getElem? (i := 440) (by decide +kernel), List.mem_of_getElem? (i := 676) (by decide +kernel), List.mem_of_getElem? (i := 677) (by decide +kernel)⟩
theorem lw_p43 : lw_okq (⟨"StickyRoutesModel", "number", "(II)I"⟩, 13) := ⟨⟨by decide +kernel, by decide +kernel⟩, List.mem_of_getElem? (i := 440) (by decide +kernel), List.mem_of_getElem? (i := 680) (by decide +kernel), List.mem_of_getElem? (i := 681) (by decide +kernel)⟩
def lw_privs_3 : List (MethodName × Nat) := [(⟨"StickyRoutesModel", "draws", "()V"⟩, 13), (⟨"StickyRoutesModel", "passes", "(I)I"⟩, 13), (⟨"StickyRoutesModel", "letsGo", "(I)V"⟩, 13), (⟨"StickyRoutesModel", "nos", "()I"⟩, 13), (⟨"StickyRoutesModel", "sumOf", "(I)I"⟩, 13), (⟨"StickyRoutesModel", "lostIn", "(II)I"⟩, 13), (⟨"StickyRoutesModel", "mayGo", "(III)Z"⟩, 13), (⟨"StickyRoutesModel", "order", "()V"⟩, 13), (⟨"StickyRoutesModel", "sign", "()I"⟩, 13), (⟨"StickyRoutesModel", "figure", "(II)I"⟩, 13), (⟨"StickyRoutesModel", "fails", "(I)V"⟩, 13), (⟨"StickyRoutesModel", "number", "(II)I"⟩, 13)]
theorem lw_r3 : ∀ q ∈ lw_privs_3, lw_okq q := List.forall_mem_cons.mpr ⟨lw_p32, List.forall_mem_cons.mpr ⟨lw_p33, List.forall_mem_cons.mpr ⟨lw_p34, List.forall_mem_cons.mpr ⟨lw_p35, List.forall_mem_cons.mpr ⟨lw_p36, List.forall_mem_cons.mpr ⟨lw_p37, List.forall_mem_cons.mpr ⟨lw_p38, List.forall_mem_cons.mpr ⟨lw_p39, List.forall_mem_cons.mpr ⟨lw_p40, List.forall_mem_cons.mpr ⟨lw_p41, List.forall_mem_cons.mpr ⟨lw_p42, List.forall_mem_cons.mpr ⟨lw_p43, fun _ h => absurd h List.not_mem_nil⟩⟩⟩⟩⟩⟩⟩⟩⟩⟩⟩⟩
def lw_privs : List (MethodName × Nat) := lw_privs_1 ++ (lw_privs_2 ++ (lw_privs_3))
def lw_tbl : List Cond := k2_sels lw_privs ++ tables_1
theorem lw_privs_ok : ∀ q ∈ lw_privs, lw_okq q := by
  show ∀ q ∈ lw_privs_1 ++ (lw_privs_2 ++ (lw_privs_3)), lw_okq q
  exact List.forall_mem_append.mpr ⟨lw_r1, List.forall_mem_append.mpr ⟨lw_r2, lw_r3⟩⟩
def RX0 : String := "StickyRoutes$Net"
def TX0 : u_T := fun k => match k with
  | 0 => ("StickyRoutes$Net", "townCount", "I", false)
  | 1 => ("StickyRoutes$Net", "handsBack", "I", false)
  | 2 => ("StickyRoutes$Net", "x", "I", false)
  | 3 => ("StickyRoutes$Net", "hoursGone", "I", false)
  | 4 => ("StickyRoutes$Net", "callCount", "I", false)
  | 5 => ("StickyRoutes$Net", "wires", "[I", true)
  | 6 => ("StickyRoutes$Net", "reserves", "[I", true)
  | 7 => ("StickyRoutes$Net", "held", "[I", true)
  | 8 => ("StickyRoutes$Net", "stickies", "[I", true)
  | 9 => ("StickyRoutes$Net", "counts", "[I", true)
  | 10 => ("StickyRoutes$Net", "totals", "[I", true)
  | 11 => ("StickyRoutes$Net", "loads", "[I", true)
  | _ => ("StickyRoutes$Net", "calls", "[I", true)
def tyX0 : Nat → FieldType := fun k => match k with
  | 0 => .int
  | 1 => .int
  | 2 => .int
  | 3 => .int
  | 4 => .int
  | 5 => .array .int
  | 6 => .array .int
  | 7 => .array .int
  | 8 => .array .int
  | 9 => .array .int
  | 10 => .array .int
  | 11 => .array .int
  | _ => .array .int
theorem nmX0 : ∀ a, a < 13 → ∀ b, b < 13 → a ≠ b → (TX0 a).2.1 ≠ (TX0 b).2.1 := by decide +kernel
theorem tyX0_ok : ∀ k, k < 13 → parseFieldDescriptor (TX0 k).2.2.1 = some (tyX0 k) := by decide +kernel
abbrev cX0_init : ByteArray := prog_2_method_1_code
def yX0_init : MethodName := ⟨RX0, "<init>", "()V"⟩
abbrev cX0_pairCell : ByteArray := prog_2_method_2_code
def yX0_pairCell : MethodName := ⟨RX0, "pairCell", "(II)I"⟩
abbrev cX0_linkCell : ByteArray := prog_2_method_3_code
def yX0_linkCell : MethodName := ⟨RX0, "linkCell", "(II)I"⟩
abbrev cX0_begin : ByteArray := prog_2_method_4_code
def yX0_begin : MethodName := ⟨RX0, "begin", "(I)V"⟩
abbrev cX0_leastOther : ByteArray := prog_2_method_5_code
def yX0_leastOther : MethodName := ⟨RX0, "leastOther", "(II)I"⟩
abbrev cX0_fill : ByteArray := prog_2_method_6_code
def yX0_fill : MethodName := ⟨RX0, "fill", "([II)V"⟩
abbrev cX0_copyFrom : ByteArray := prog_2_method_7_code
def yX0_copyFrom : MethodName := ⟨RX0, "copyFrom", "(LStickyRoutes$Net;)V"⟩
abbrev cX0_freeWires : ByteArray := prog_2_method_8_code
def yX0_freeWires : MethodName := ⟨RX0, "freeWires", "(I)I"⟩
abbrev cX0_servesOver : ByteArray := prog_2_method_9_code
def yX0_servesOver : MethodName := ⟨RX0, "servesOver", "(I)Z"⟩
abbrev cX0_wayNow : ByteArray := prog_2_method_10_code
def yX0_wayNow : MethodName := ⟨RX0, "wayNow", "(II)I"⟩
abbrev cX0_hasAnyWay : ByteArray := prog_2_method_11_code
def yX0_hasAnyWay : MethodName := ⟨RX0, "hasAnyWay", "(II)Z"⟩
abbrev cX0_ask : ByteArray := prog_2_method_12_code
def yX0_ask : MethodName := ⟨RX0, "ask", "(III)I"⟩
abbrev cX0_count : ByteArray := prog_2_method_13_code
def yX0_count : MethodName := ⟨RX0, "count", "(II)V"⟩
abbrev cX0_advanceX : ByteArray := prog_2_method_14_code
def yX0_advanceX : MethodName := ⟨RX0, "advanceX", "()V"⟩
abbrev cX0_redraw : ByteArray := prog_2_method_15_code
def yX0_redraw : MethodName := ⟨RX0, "redraw", "(II)V"⟩
abbrev cX0_addCall : ByteArray := prog_2_method_16_code
def yX0_addCall : MethodName := ⟨RX0, "addCall", "(IIII)I"⟩
abbrev cX0_hold : ByteArray := prog_2_method_17_code
def yX0_hold : MethodName := ⟨RX0, "hold", "(II)V"⟩
abbrev cX0_endCall : ByteArray := prog_2_method_18_code
def yX0_endCall : MethodName := ⟨RX0, "endCall", "(I)V"⟩
abbrev cX0_passHours : ByteArray := prog_2_method_19_code
def yX0_passHours : MethodName := ⟨RX0, "passHours", "(I)I"⟩
abbrev cX0_endHour : ByteArray := prog_2_method_20_code
def yX0_endHour : MethodName := ⟨RX0, "endHour", "()I"⟩
abbrev cX0_moveCall : ByteArray := prog_2_method_21_code
def yX0_moveCall : MethodName := ⟨RX0, "moveCall", "(II)V"⟩
abbrev cX0_askByPlan : ByteArray := prog_2_method_22_code
def yX0_askByPlan : MethodName := ⟨RX0, "askByPlan", "()V"⟩
abbrev cX0_doOrder : ByteArray := prog_2_method_23_code
def yX0_doOrder : MethodName := ⟨RX0, "doOrder", "([II)Z"⟩
abbrev cX0_callsOverLink : ByteArray := prog_2_method_24_code
def yX0_callsOverLink : MethodName := ⟨RX0, "callsOverLink", "(I)I"⟩
abbrev cX0_wiresHeld : ByteArray := prog_2_method_25_code
def yX0_wiresHeld : MethodName := ⟨RX0, "wiresHeld", "()I"⟩
abbrev cX0_refusedAt : ByteArray := prog_2_method_26_code
def yX0_refusedAt : MethodName := ⟨RX0, "refusedAt", "(I)I"⟩
abbrev cX0_mostRefusedPair : ByteArray := prog_2_method_27_code
def yX0_mostRefusedPair : MethodName := ⟨RX0, "mostRefusedPair", "()I"⟩
abbrev cX0_scarcestLink : ByteArray := prog_2_method_28_code
def yX0_scarcestLink : MethodName := ⟨RX0, "scarcestLink", "()I"⟩
abbrev cX0_mixLinks : ByteArray := prog_2_method_29_code
def yX0_mixLinks : MethodName := ⟨RX0, "mixLinks", "(J)J"⟩
abbrev cX0_mixPairs : ByteArray := prog_2_method_30_code
def yX0_mixPairs : MethodName := ⟨RX0, "mixPairs", "(J)J"⟩
abbrev cX0_mixLoadsAndCalls : ByteArray := prog_2_method_31_code
def yX0_mixLoadsAndCalls : MethodName := ⟨RX0, "mixLoadsAndCalls", "(J)J"⟩
def RX1 : String := "StickyRoutes$Text"
def TX1 : u_T := fun k => match k with
  | 0 => ("StickyRoutes$Text", "bytes", "[I", true)
  | 1 => ("StickyRoutes$Text", "orders", "[I", true)
  | 2 => ("StickyRoutes$Text", "length", "I", false)
  | 3 => ("StickyRoutes$Text", "orderCount", "I", false)
  | 4 => ("StickyRoutes$Text", "townCount", "I", false)
  | 5 => ("StickyRoutes$Text", "place", "I", false)
  | _ => ("StickyRoutes$Text", "fault", "I", false)
def tyX1 : Nat → FieldType := fun k => match k with
  | 0 => .array .int
  | 1 => .array .int
  | 2 => .int
  | 3 => .int
  | 4 => .int
  | 5 => .int
  | _ => .int
theorem nmX1 : ∀ a, a < 7 → ∀ b, b < 7 → a ≠ b → (TX1 a).2.1 ≠ (TX1 b).2.1 := by decide +kernel
theorem tyX1_ok : ∀ k, k < 7 → parseFieldDescriptor (TX1 k).2.2.1 = some (tyX1 k) := by decide +kernel
abbrev cX1_init : ByteArray := prog_3_method_1_code
def yX1_init : MethodName := ⟨RX1, "<init>", "()V"⟩
abbrev cX1_append : ByteArray := prog_3_method_2_code
def yX1_append : MethodName := ⟨RX1, "append", "(I)Z"⟩
abbrev cX1_read : ByteArray := prog_3_method_3_code
def yX1_read : MethodName := ⟨RX1, "read", "(I)I"⟩
abbrev cX1_readOrder : ByteArray := prog_3_method_4_code
def yX1_readOrder : MethodName := ⟨RX1, "readOrder", "(I)V"⟩
abbrev cX1_readKind : ByteArray := prog_3_method_5_code
def yX1_readKind : MethodName := ⟨RX1, "readKind", "()I"⟩
abbrev cX1_readTown : ByteArray := prog_3_method_6_code
def yX1_readTown : MethodName := ⟨RX1, "readTown", "(I)I"⟩
abbrev cX1_readFigure : ByteArray := prog_3_method_7_code
def yX1_readFigure : MethodName := ⟨RX1, "readFigure", "(I)I"⟩
abbrev cX1_readNumber : ByteArray := prog_3_method_8_code
def yX1_readNumber : MethodName := ⟨RX1, "readNumber", "(II)I"⟩
abbrev cX1_readEnd : ByteArray := prog_3_method_9_code
def yX1_readEnd : MethodName := ⟨RX1, "readEnd", "()V"⟩
abbrev cX1_skipBlanks : ByteArray := prog_3_method_10_code
def yX1_skipBlanks : MethodName := ⟨RX1, "skipBlanks", "()V"⟩
abbrev cX1_isFigure : ByteArray := prog_3_method_11_code
def yX1_isFigure : MethodName := ⟨RX1, "isFigure", "(I)Z"⟩
def RX2 : String := "StickyRoutes"
def TX2 : u_T := fun k => match k with
  | 0 => ("StickyRoutes", "now", "LStickyRoutes$Net;", true)
  | 1 => ("StickyRoutes", "trial", "LStickyRoutes$Net;", true)
  | 2 => ("StickyRoutes", "states", "[LStickyRoutes$Net;", true)
  | 3 => ("StickyRoutes", "text", "LStickyRoutes$Text;", true)
  | 4 => ("StickyRoutes", "stateCount", "I", false)
  | 5 => ("StickyRoutes", "nextState", "I", false)
  | 6 => ("StickyRoutes", "badTimes", "I", false)
  | 7 => ("StickyRoutes", "noTimes", "I", false)
  | _ => ("StickyRoutes", "fullTimes", "I", false)
def tyX2 : Nat → FieldType := fun k => match k with
  | 0 => .object "StickyRoutes$Net"
  | 1 => .object "StickyRoutes$Net"
  | 2 => .array (.object "StickyRoutes$Net")
  | 3 => .object "StickyRoutes$Text"
  | 4 => .int
  | 5 => .int
  | 6 => .int
  | 7 => .int
  | _ => .int
theorem nmX2 : ∀ a, a < 9 → ∀ b, b < 9 → a ≠ b → (TX2 a).2.1 ≠ (TX2 b).2.1 := by decide +kernel
theorem tyX2_ok : ∀ k, k < 9 → parseFieldDescriptor (TX2 k).2.2.1 = some (tyX2 k) := by decide +kernel
abbrev cX2_init : ByteArray := prog_1_method_1_code
def yX2_init : MethodName := ⟨RX2, "<init>", "()V"⟩
abbrev cX2_towns : ByteArray := prog_1_method_2_code
def yX2_towns : MethodName := ⟨RX2, "towns", "(I)I"⟩
abbrev cX2_link : ByteArray := prog_1_method_3_code
def yX2_link : MethodName := ⟨RX2, "link", "(IIII)I"⟩
abbrev cX2_links : ByteArray := prog_1_method_4_code
def yX2_links : MethodName := ⟨RX2, "links", "(II)I"⟩
abbrev cX2_back : ByteArray := prog_1_method_5_code
def yX2_back : MethodName := ⟨RX2, "back", "(I)I"⟩
abbrev cX2_load : ByteArray := prog_1_method_6_code
def yX2_load : MethodName := ⟨RX2, "load", "(II)I"⟩
abbrev cX2_seed : ByteArray := prog_1_method_7_code
def yX2_seed : MethodName := ⟨RX2, "seed", "(I)I"⟩
abbrev cX2_of : ByteArray := prog_1_method_8_code
def yX2_of : MethodName := ⟨RX2, "of", "(III)I"⟩
abbrev cX2_sticky : ByteArray := prog_1_method_9_code
def yX2_sticky : MethodName := ⟨RX2, "sticky", "(II)I"⟩
abbrev cX2_call : ByteArray := prog_1_method_10_code
def yX2_call : MethodName := ⟨RX2, "call", "(III)I"⟩
abbrev cX2_hours : ByteArray := prog_1_method_11_code
def yX2_hours : MethodName := ⟨RX2, "hours", "(I)I"⟩
abbrev cX2_going : ByteArray := prog_1_method_12_code
def yX2_going : MethodName := ⟨RX2, "going", "(II)I"⟩
abbrev cX2_ends : ByteArray := prog_1_method_13_code
def yX2_ends : MethodName := ⟨RX2, "ends", "(I)I"⟩
abbrev cX2_all : ByteArray := prog_1_method_14_code
def yX2_all : MethodName := ⟨RX2, "all", "(I)I"⟩
abbrev cX2_pair : ByteArray := prog_1_method_15_code
def yX2_pair : MethodName := ⟨RX2, "pair", "(III)I"⟩
abbrev cX2_worst : ByteArray := prog_1_method_16_code
def yX2_worst : MethodName := ⟨RX2, "worst", "(I)I"⟩
abbrev cX2_burden : ByteArray := prog_1_method_17_code
def yX2_burden : MethodName := ⟨RX2, "burden", "()I"⟩
abbrev cX2_would : ByteArray := prog_1_method_18_code
def yX2_would : MethodName := ⟨RX2, "would", "(II)I"⟩
abbrev cX2_best : ByteArray := prog_1_method_19_code
def yX2_best : MethodName := ⟨RX2, "best", "(II)I"⟩
abbrev cX2_choked : ByteArray := prog_1_method_20_code
def yX2_choked : MethodName := ⟨RX2, "choked", "(I)I"⟩
abbrev cX2_type : ByteArray := prog_1_method_21_code
def yX2_type : MethodName := ⟨RX2, "type", "(I)I"⟩
abbrev cX2_clear : ByteArray := prog_1_method_22_code
def yX2_clear : MethodName := ⟨RX2, "clear", "()I"⟩
abbrev cX2_does : ByteArray := prog_1_method_23_code
def yX2_does : MethodName := ⟨RX2, "does", "()I"⟩
abbrev cX2_undo : ByteArray := prog_1_method_24_code
def yX2_undo : MethodName := ⟨RX2, "undo", "()I"⟩
abbrev cX2_told : ByteArray := prog_1_method_25_code
def yX2_told : MethodName := ⟨RX2, "told", "(I)I"⟩
abbrev cX2_digest : ByteArray := prog_1_method_26_code
def yX2_digest : MethodName := ⟨RX2, "digest", "()J"⟩
abbrev cX2_within : ByteArray := prog_1_method_27_code
def yX2_within : MethodName := ⟨RX2, "within", "(III)Z"⟩
abbrev cX2_isPair : ByteArray := prog_1_method_28_code
def yX2_isPair : MethodName := ⟨RX2, "isPair", "(II)Z"⟩
abbrev cX2_refuse : ByteArray := prog_1_method_29_code
def yX2_refuse : MethodName := ⟨RX2, "refuse", "(I)I"⟩
abbrev cX2_keepState : ByteArray := prog_1_method_30_code
def yX2_keepState : MethodName := ⟨RX2, "keepState", "()V"⟩
abbrev cX2_refusedWith : ByteArray := prog_1_method_31_code
def yX2_refusedWith : MethodName := ⟨RX2, "refusedWith", "(III)I"⟩
def RX3 : String := "StickyRoutesModel"
def TX3 : u_T := fun k => match k with
  | 0 => ("StickyRoutesModel", "now", "[I", true)
  | 1 => ("StickyRoutesModel", "aside", "[I", true)
  | 2 => ("StickyRoutesModel", "past", "[I", true)
  | 3 => ("StickyRoutesModel", "states", "I", false)
  | 4 => ("StickyRoutesModel", "text", "[I", true)
  | 5 => ("StickyRoutesModel", "typed", "I", false)
  | 6 => ("StickyRoutesModel", "at", "I", false)
  | 7 => ("StickyRoutesModel", "fault", "I", false)
  | 8 => ("StickyRoutesModel", "orders", "[I", true)
  | 9 => ("StickyRoutesModel", "many", "I", false)
  | 10 => ("StickyRoutesModel", "bad", "I", false)
  | 11 => ("StickyRoutesModel", "no", "I", false)
  | _ => ("StickyRoutesModel", "full", "I", false)
def tyX3 : Nat → FieldType := fun k => match k with
  | 0 => .array .int
  | 1 => .array .int
  | 2 => .array .int
  | 3 => .int
  | 4 => .array .int
  | 5 => .int
  | 6 => .int
  | 7 => .int
  | 8 => .array .int
  | 9 => .int
  | 10 => .int
  | 11 => .int
  | _ => .int
theorem nmX3 : ∀ a, a < 13 → ∀ b, b < 13 → a ≠ b → (TX3 a).2.1 ≠ (TX3 b).2.1 := by decide +kernel
theorem tyX3_ok : ∀ k, k < 13 → parseFieldDescriptor (TX3 k).2.2.1 = some (tyX3 k) := by decide +kernel
abbrev cX3_init : ByteArray := prog_5_method_1_code
def yX3_init : MethodName := ⟨RX3, "<init>", "()V"⟩
abbrev cX3_begins : ByteArray := prog_5_method_3_code
def yX3_begins : MethodName := ⟨RX3, "begins", "(I)V"⟩
abbrev cX3_in : ByteArray := prog_5_method_4_code
def yX3_in : MethodName := ⟨RX3, "in", "(III)Z"⟩
abbrev cX3_bads : ByteArray := prog_5_method_5_code
def yX3_bads : MethodName := ⟨RX3, "bads", "()I"⟩
abbrev cX3_nos : ByteArray := prog_5_method_6_code
def yX3_nos : MethodName := ⟨RX3, "nos", "()I"⟩
abbrev cX3_isTown : ByteArray := prog_5_method_7_code
def yX3_isTown : MethodName := ⟨RX3, "isTown", "(I)Z"⟩
abbrev cX3_areTowns : ByteArray := prog_5_method_8_code
def yX3_areTowns : MethodName := ⟨RX3, "areTowns", "(II)Z"⟩
abbrev cX3_keeps : ByteArray := prog_5_method_9_code
def yX3_keeps : MethodName := ⟨RX3, "keeps", "()V"⟩
abbrev cX3_pairOf : ByteArray := prog_5_method_10_code
def yX3_pairOf : MethodName := ⟨RX3, "pairOf", "(II)I"⟩
abbrev cX3_towns : ByteArray := prog_5_method_11_code
def yX3_towns : MethodName := ⟨RX3, "towns", "(I)I"⟩
abbrev cX3_link : ByteArray := prog_5_method_12_code
def yX3_link : MethodName := ⟨RX3, "link", "(IIII)I"⟩
abbrev cX3_links : ByteArray := prog_5_method_13_code
def yX3_links : MethodName := ⟨RX3, "links", "(II)I"⟩
abbrev cX3_back : ByteArray := prog_5_method_14_code
def yX3_back : MethodName := ⟨RX3, "back", "(I)I"⟩
abbrev cX3_load : ByteArray := prog_5_method_15_code
def yX3_load : MethodName := ⟨RX3, "load", "(II)I"⟩
abbrev cX3_seed : ByteArray := prog_5_method_16_code
def yX3_seed : MethodName := ⟨RX3, "seed", "(I)I"⟩
abbrev cX3_holding : ByteArray := prog_5_method_17_code
def yX3_holding : MethodName := ⟨RX3, "holding", "(III)I"⟩
abbrev cX3_free : ByteArray := prog_5_method_18_code
def yX3_free : MethodName := ⟨RX3, "free", "(II)I"⟩
abbrev cX3_of : ByteArray := prog_5_method_19_code
def yX3_of : MethodName := ⟨RX3, "of", "(III)I"⟩
abbrev cX3_sticky : ByteArray := prog_5_method_20_code
def yX3_sticky : MethodName := ⟨RX3, "sticky", "(II)I"⟩
abbrev cX3_draws : ByteArray := prog_5_method_21_code
def yX3_draws : MethodName := ⟨RX3, "draws", "()V"⟩
abbrev cX3_drawsSticky : ByteArray := prog_5_method_22_code
def yX3_drawsSticky : MethodName := ⟨RX3, "drawsSticky", "(II)V"⟩
abbrev cX3_hasMore : ByteArray := prog_5_method_23_code
def yX3_hasMore : MethodName := ⟨RX3, "hasMore", "(II)Z"⟩
abbrev cX3_counts : ByteArray := prog_5_method_24_code
def yX3_counts : MethodName := ⟨RX3, "counts", "(III)V"⟩
abbrev cX3_goes : ByteArray := prog_5_method_25_code
def yX3_goes : MethodName := ⟨RX3, "goes", "(IIII)V"⟩
abbrev cX3_asks : ByteArray := prog_5_method_26_code
def yX3_asks : MethodName := ⟨RX3, "asks", "(III)I"⟩
abbrev cX3_call : ByteArray := prog_5_method_27_code
def yX3_call : MethodName := ⟨RX3, "call", "(III)I"⟩
abbrev cX3_letsGo : ByteArray := prog_5_method_28_code
def yX3_letsGo : MethodName := ⟨RX3, "letsGo", "(I)V"⟩
abbrev cX3_passes : ByteArray := prog_5_method_29_code
def yX3_passes : MethodName := ⟨RX3, "passes", "(I)I"⟩
abbrev cX3_hours : ByteArray := prog_5_method_30_code
def yX3_hours : MethodName := ⟨RX3, "hours", "(I)I"⟩
abbrev cX3_going : ByteArray := prog_5_method_31_code
def yX3_going : MethodName := ⟨RX3, "going", "(II)I"⟩
abbrev cX3_ends : ByteArray := prog_5_method_32_code
def yX3_ends : MethodName := ⟨RX3, "ends", "(I)I"⟩
abbrev cX3_sumOf : ByteArray := prog_5_method_33_code
def yX3_sumOf : MethodName := ⟨RX3, "sumOf", "(I)I"⟩
abbrev cX3_all : ByteArray := prog_5_method_34_code
def yX3_all : MethodName := ⟨RX3, "all", "(I)I"⟩
abbrev cX3_pair : ByteArray := prog_5_method_35_code
def yX3_pair : MethodName := ⟨RX3, "pair", "(III)I"⟩
abbrev cX3_worst : ByteArray := prog_5_method_36_code
def yX3_worst : MethodName := ⟨RX3, "worst", "(I)I"⟩
abbrev cX3_burden : ByteArray := prog_5_method_37_code
def yX3_burden : MethodName := ⟨RX3, "burden", "()I"⟩
abbrev cX3_lostIn : ByteArray := prog_5_method_38_code
def yX3_lostIn : MethodName := ⟨RX3, "lostIn", "(II)I"⟩
abbrev cX3_would : ByteArray := prog_5_method_39_code
def yX3_would : MethodName := ⟨RX3, "would", "(II)I"⟩
abbrev cX3_best : ByteArray := prog_5_method_40_code
def yX3_best : MethodName := ⟨RX3, "best", "(II)I"⟩
abbrev cX3_mayGo : ByteArray := prog_5_method_41_code
def yX3_mayGo : MethodName := ⟨RX3, "mayGo", "(III)Z"⟩
abbrev cX3_choked : ByteArray := prog_5_method_42_code
def yX3_choked : MethodName := ⟨RX3, "choked", "(I)I"⟩
abbrev cX3_type : ByteArray := prog_5_method_43_code
def yX3_type : MethodName := ⟨RX3, "type", "(I)I"⟩
abbrev cX3_clear : ByteArray := prog_5_method_44_code
def yX3_clear : MethodName := ⟨RX3, "clear", "()I"⟩
abbrev cX3_sign : ByteArray := prog_5_method_45_code
def yX3_sign : MethodName := ⟨RX3, "sign", "()I"⟩
abbrev cX3_fails : ByteArray := prog_5_method_46_code
def yX3_fails : MethodName := ⟨RX3, "fails", "(I)V"⟩
abbrev cX3_isFigure : ByteArray := prog_5_method_47_code
def yX3_isFigure : MethodName := ⟨RX3, "isFigure", "(I)Z"⟩
abbrev cX3_figure : ByteArray := prog_5_method_48_code
def yX3_figure : MethodName := ⟨RX3, "figure", "(II)I"⟩
abbrev cX3_number : ByteArray := prog_5_method_49_code
def yX3_number : MethodName := ⟨RX3, "number", "(II)I"⟩
abbrev cX3_order : ByteArray := prog_5_method_50_code
def yX3_order : MethodName := ⟨RX3, "order", "()V"⟩
abbrev cX3_does : ByteArray := prog_5_method_51_code
def yX3_does : MethodName := ⟨RX3, "does", "()I"⟩
abbrev cX3_undo : ByteArray := prog_5_method_52_code
def yX3_undo : MethodName := ⟨RX3, "undo", "()I"⟩
abbrev cX3_told : ByteArray := prog_5_method_53_code
def yX3_told : MethodName := ⟨RX3, "told", "(I)I"⟩
abbrev cX3_digest : ByteArray := prog_5_method_54_code
def yX3_digest : MethodName := ⟨RX3, "digest", "()J"⟩
def RJ9 : String := "java/lang/Math"
abbrev cJ9_floorMod_7cf53 : ByteArray := prog_6_method_50_code
def yJ9_floorMod_7cf53 : MethodName := ⟨RJ9, "floorMod", "(II)I"⟩
abbrev cJ9_max_7cf53 : ByteArray := prog_6_method_65_code
def yJ9_max_7cf53 : MethodName := ⟨RJ9, "max", "(II)I"⟩
abbrev cJ9_min_7cf53 : ByteArray := prog_6_method_69_code
def yJ9_min_7cf53 : MethodName := ⟨RJ9, "min", "(II)I"⟩
def RL : String := "StickyRoutesLaw"
abbrev cls_ : List vw_C := [(RX0, TX0, 13), (RX1, TX1, 7), (RX2, TX2, 9), (RX3, TX3, 13)]
theorem inwX0 : u_ws RX0 TX0 13 = ([103, 105, 107, 109, 111, 113, 115, 117, 119, 121, 123, 125, 127] : List Nat).filterMap (fun i => lw_tbl[i]?) := by decide +kernel
theorem inlX0 : ∀ w ∈ u_ws RX0 TX0 13, w ∈ lw_tbl := fun w h => by rw [inwX0] at h; obtain ⟨i, -, hi⟩ := List.mem_filterMap.mp h; exact List.mem_of_getElem? hi
theorem inwX1 : u_ws RX1 TX1 7 = ([148, 150, 152, 154, 156, 158, 160] : List Nat).filterMap (fun i => lw_tbl[i]?) := by decide +kernel
theorem inlX1 : ∀ w ∈ u_ws RX1 TX1 7, w ∈ lw_tbl := fun w h => by rw [inwX1] at h; obtain ⟨i, -, hi⟩ := List.mem_filterMap.mp h; exact List.mem_of_getElem? hi
theorem inwX2 : u_ws RX2 TX2 9 = ([172, 174, 176, 178, 180, 182, 184, 186, 188] : List Nat).filterMap (fun i => lw_tbl[i]?) := by decide +kernel
theorem inlX2 : ∀ w ∈ u_ws RX2 TX2 9, w ∈ lw_tbl := fun w h => by rw [inwX2] at h; obtain ⟨i, -, hi⟩ := List.mem_filterMap.mp h; exact List.mem_of_getElem? hi
theorem inwX3 : u_ws RX3 TX3 13 = ([506, 508, 510, 512, 514, 516, 518, 520, 522, 524, 526, 528, 530] : List Nat).filterMap (fun i => lw_tbl[i]?) := by decide +kernel
theorem inlX3 : ∀ w ∈ u_ws RX3 TX3 13, w ∈ lw_tbl := fun w h => by rw [inwX3] at h; obtain ⟨i, -, hi⟩ := List.mem_filterMap.mp h; exact List.mem_of_getElem? hi
def FLk : List (String × Nat × Nat × Nat) := [(RX2, 10, 2, 0), (RX2, 16, 2, 1), (RX2, 19, 2, 2), (RX2, 26, 2, 3), (RX2, 41, 0, 0), (RX2, 53, 0, 5), (RX2, 57, 0, 6), (RX2, 68, 0, 1), (RX2, 71, 0, 11), (RX2, 75, 0, 2), (RX2, 84, 0, 8), (RX2, 90, 0, 4), (RX2, 100, 0, 12), (RX2, 106, 0, 10), (RX2, 109, 0, 9), (RX2, 139, 1, 2), (RX2, 145, 1, 3), (RX2, 148, 1, 1), (RX2, 155, 2, 4), (RX2, 158, 2, 5), (RX2, 165, 2, 6), (RX2, 168, 2, 7), (RX2, 171, 2, 8), (RX2, 174, 0, 3), (RX0, 11, 0, 5), (RX0, 15, 0, 6), (RX0, 18, 0, 7), (RX0, 21, 0, 8), (RX0, 24, 0, 9), (RX0, 27, 0, 10), (RX0, 30, 0, 11), (RX0, 33, 0, 12), (RX0, 40, 0, 0), (RX0, 44, 0, 1), (RX0, 47, 0, 2), (RX0, 50, 0, 3), (RX0, 53, 0, 4), (RX1, 11, 1, 0), (RX1, 15, 1, 1), (RX1, 18, 1, 2), (RX1, 22, 1, 4), (RX1, 25, 1, 5), (RX1, 28, 1, 6), (RX1, 31, 1, 3), (RX3, 7, 3, 0), (RX3, 13, 3, 1), (RX3, 16, 3, 2), (RX3, 19, 3, 4), (RX3, 22, 3, 8), (RX3, 29, 3, 10), (RX3, 33, 3, 11), (RX3, 44, 3, 3), (RX3, 95, 3, 12), (RX3, 120, 3, 5), (RX3, 123, 3, 6), (RX3, 126, 3, 7), (RX3, 138, 3, 9)]
def FLw : List Nat := [163, 164, 165, 166, 78, 89, 91, 81, 100, 83, 94, 87, 102, 98, 96, 142, 144, 140, 167, 168, 169, 170, 171, 85, 88, 90, 92, 93, 95, 97, 99, 101, 79, 80, 82, 84, 86, 138, 139, 141, 145, 146, 147, 143, 493, 494, 495, 497, 501, 503, 504, 496, 505, 498, 499, 500, 502]
def CIk : List (String × Nat × Nat) := [(RX2, 74, 999999), (RX2, 125, 1000000), (RX0, 110, 65536), (RX3, 62, 999999), (RX3, 79, 65536)]
def CIw : List Nat := [242, 381, 293, 579, 627]
def CLk : List (String × Nat × Nat) := [(RX2, 177, 2129), (RX2, 179, 31), (RX0, 101, 1103515245), (RX0, 103, 12345), (RX0, 105, 2147483648), (RX0, 144, 31), (RX3, 70, 1103515245), (RX3, 72, 12345), (RX3, 74, 2147483648), (RX3, 150, 2129), (RX3, 152, 31)]
def CLw : List Nat := [467, 468, 290, 291, 292, 474, 624, 625, 626, 739, 740]
end
section
/-! A small machine over worlds of fixed cells: what its steps are; why each of them is a walk of the JVM's -/
abbrev MEn : Type := Instr × Nat × Nat × Nat
abbrev MMe : Type := List va_E
abbrev MSt : Type := Nat × List MEn × List (Option Value) × List Value × MMe
abbrev MB : Type := MethodName × ByteArray × Nat × Option FieldType × List (Nat × List MEn)
def mC (n : Int) : Int32 := match n with
  | .ofNat k => nI k
  | .negSucc k => -nI (k + 1)
/-- an index within, as a Bool -/
def inb (i : Int32) (n : Nat) : Bool := !(decide (i < 0)) && Nat.blt i.toNatClampNeg n
def mT (TL : List (Nat × List MEn)) (pc : Nat) : List MEn := (TL.lookup pc).getD []
def mSw (x : Int32) : List (Int32 × Nat) → Nat → Nat
  | [], d => d
  | (v, t) :: r, d => if x = v then t else mSw x r d
def mTs (pc : Nat) (lo : Int) : List Int → List (Int32 × Nat)
  | [] => []
  | o :: os => (mC lo, ((pc : Int) + o).toNat) :: mTs pc (lo + 1) os
def mLs (pc : Nat) : List (Int × Int) → List (Int32 × Nat)
  | [] => []
  | (k, o) :: os => (mC k, ((pc : Int) + o).toNat) :: mLs pc os
def mLng : Option (Option Value) → Bool
  | some (some (.long _)) => true
  | some (some (.double _)) => true
  | _ => false
def mS0 (l : List (Option Value)) : Nat → Bool
  | 0 => true
  | j + 1 => !mLng l[j]?
def mEx (TL : List (Nat × List MEn)) (pc : Nat) (i : Instr) (n a b : Nat) (r : List MEn) (l : List (Option Value)) (st : List Value) (μ : MMe) : Option MSt :=
  match i with
  | .iconst k => some (pc + n, r, l, .int (mC k) :: st, μ)
  | .bipush k => some (pc + n, r, l, .int (mC k) :: st, μ)
  | .sipush k => some (pc + n, r, l, .int (mC k) :: st, μ)
  | .ldc _ => some (pc + n, r, l, .int (nI a) :: st, μ)
  | .ldc2_w _ => some (pc + n, r, l, .long (lN a) :: st, μ)
  | .iload_n k => match l[(k : Nat)]? with
    | some (some (.int x)) => some (pc + n, r, l, .int x :: st, μ)
    | _ => none
  | .iload k => match l[k]? with
    | some (some (.int x)) => some (pc + n, r, l, .int x :: st, μ)
    | _ => none
  | .lload_n k => match l[(k : Nat)]? with
    | some (some (.long x)) => some (pc + n, r, l, .long x :: st, μ)
    | _ => none
  | .lload k => match l[k]? with
    | some (some (.long x)) => some (pc + n, r, l, .long x :: st, μ)
    | _ => none
  | .aload_n k => match l[(k : Nat)]? with
    | some (some (.ref x)) => some (pc + n, r, l, .ref x :: st, μ)
    | _ => none
  | .aload k => match l[k]? with
    | some (some (.ref x)) => some (pc + n, r, l, .ref x :: st, μ)
    | _ => none
  | .istore_n k => match st with
    | .int x :: s => if Nat.blt (k : Nat) l.length && mS0 l (k : Nat) then some (pc + n, r, l.set (k : Nat) (some (.int x)), s, μ) else none
    | _ => none
  | .istore k => match st with
    | .int x :: s => if Nat.blt k l.length && mS0 l k then some (pc + n, r, l.set k (some (.int x)), s, μ) else none
    | _ => none
  | .astore_n k => match st with
    | .ref x :: s => if Nat.blt (k : Nat) l.length && mS0 l (k : Nat) then some (pc + n, r, l.set (k : Nat) (some (.ref x)), s, μ) else none
    | _ => none
  | .astore k => match st with
    | .ref x :: s => if Nat.blt k l.length && mS0 l k then some (pc + n, r, l.set k (some (.ref x)), s, μ) else none
    | _ => none
  | .lstore_n k => match st with
    | .long x :: s => if Nat.blt ((k : Nat) + 1) l.length && mS0 l (k : Nat) then some (pc + n, r, (l.set (k : Nat) (some (.long x))).set ((k : Nat) + 1) none, s, μ) else none
    | _ => none
  | .lstore k => match st with
    | .long x :: s => if Nat.blt (k + 1) l.length && mS0 l k then some (pc + n, r, (l.set k (some (.long x))).set (k + 1) none, s, μ) else none
    | _ => none
  | .iinc k c => match l[k]? with
    | some (some (.int x)) => if Nat.blt k l.length && mS0 l k then some (pc + n, r, l.set k (some (.int (x + mC c))), st, μ) else none
    | _ => none
  | .iadd => match st with
    | .int y :: .int x :: s => some (pc + n, r, l, .int (x + y) :: s, μ)
    | _ => none
  | .isub => match st with
    | .int y :: .int x :: s => some (pc + n, r, l, .int (x - y) :: s, μ)
    | _ => none
  | .imul => match st with
    | .int y :: .int x :: s => some (pc + n, r, l, .int (x * y) :: s, μ)
    | _ => none
  | .iand => match st with
    | .int y :: .int x :: s => some (pc + n, r, l, .int (x &&& y) :: s, μ)
    | _ => none
  | .ineg => match st with
    | .int x :: s => some (pc + n, r, l, .int (-x) :: s, μ)
    | _ => none
  | .idiv => match st with
    | .int y :: .int x :: s => if ¬ y = nI 0 then some (pc + n, r, l, .int (x / y) :: s, μ) else none
    | _ => none
  | .irem => match st with
    | .int y :: .int x :: s => if ¬ y = nI 0 then some (pc + n, r, l, .int (x - x / y * y) :: s, μ) else none
    | _ => none
  | .ladd => match st with
    | .long y :: .long x :: s => some (pc + n, r, l, .long (x + y) :: s, μ)
    | _ => none
  | .lmul => match st with
    | .long y :: .long x :: s => some (pc + n, r, l, .long (x * y) :: s, μ)
    | _ => none
  | .lrem => match st with
    | .long y :: .long x :: s => if ¬ y = 0 then some (pc + n, r, l, .long (x - x / y * y) :: s, μ) else none
    | _ => none
  | .lcmp => match st with
    | .long y :: .long x :: s => some (pc + n, r, l, .int (lg_cmp x y) :: s, μ)
    | _ => none
  | .i2l => match st with
    | .int x :: s => some (pc + n, r, l, .long x.toInt64 :: s, μ)
    | _ => none
  | .l2i => match st with
    | .long x :: s => some (pc + n, r, l, .int x.toInt32 :: s, μ)
    | _ => none
  | .dup => match st with
    | .int x :: s => some (pc + n, r, l, .int x :: .int x :: s, μ)
    | .ref x :: s => some (pc + n, r, l, .ref x :: .ref x :: s, μ)
    | _ => none
  | .dup2 => match st with
    | .int x :: .ref y :: s => some (pc + n, r, l, .int x :: .ref y :: .int x :: .ref y :: s, μ)
    | _ => none
  | .pop => match st with
    | .int _ :: s => some (pc + n, r, l, s, μ)
    | _ => none
  | .goto _ => some (a, mT TL a, l, st, μ)
  | .ifCond c _ => match st with
    | .int x :: s => (match c with
      | .eq => some (if x = nI 0 then (a, mT TL a, l, s, μ) else (pc + n, r, l, s, μ))
      | .ne => some (if ¬ x = nI 0 then (a, mT TL a, l, s, μ) else (pc + n, r, l, s, μ))
      | .lt => some (if x < nI 0 then (a, mT TL a, l, s, μ) else (pc + n, r, l, s, μ))
      | .ge => some (if nI 0 ≤ x then (a, mT TL a, l, s, μ) else (pc + n, r, l, s, μ))
      | .gt => some (if nI 0 < x then (a, mT TL a, l, s, μ) else (pc + n, r, l, s, μ))
      | .le => some (if x ≤ nI 0 then (a, mT TL a, l, s, μ) else (pc + n, r, l, s, μ)))
    | _ => none
  | .if_icmp c _ => match st with
    | .int y :: .int x :: s => (match c with
      | .eq => some (if x = y then (a, mT TL a, l, s, μ) else (pc + n, r, l, s, μ))
      | .ne => some (if ¬ x = y then (a, mT TL a, l, s, μ) else (pc + n, r, l, s, μ))
      | .lt => some (if x < y then (a, mT TL a, l, s, μ) else (pc + n, r, l, s, μ))
      | .ge => some (if y ≤ x then (a, mT TL a, l, s, μ) else (pc + n, r, l, s, μ))
      | .gt => some (if y < x then (a, mT TL a, l, s, μ) else (pc + n, r, l, s, μ))
      | .le => some (if x ≤ y then (a, mT TL a, l, s, μ) else (pc + n, r, l, s, μ)))
    | _ => none
  | .tableswitch d lo _ offs => match st with
    | .int x :: s => (fun t => some (t, mT TL t, l, s, μ)) (mSw x (mTs pc lo offs.toList) ((pc : Int) + d).toNat)
    | _ => none
  | .lookupswitch d ps => match st with
    | .int x :: s => (fun t => some (t, mT TL t, l, s, μ)) (mSw x (mLs pc ps.toList) ((pc : Int) + d).toNat)
    | _ => none
  | .getfield _ => match st with
    | .ref h :: s => (match μ[h]? with
      | some (.inr (ci, fs)) => if Nat.beq ci a then (match fs[b]? with
        | some v => some (pc + n, r, l, v :: s, μ)
        | none => none) else none
      | _ => none)
    | _ => none
  | .putfield _ => match st with
    | .int v :: .ref h :: s => (match μ[h]? with
      | some (.inr (ci, fs)) => if Nat.beq ci a && Nat.blt b fs.length then some (pc + n, r, l, s, μ.set h (.inr (ci, fs.set b (.int v)))) else none
      | _ => none)
    | _ => none
  | .iaload => match st with
    | .int i :: .ref h :: s => (match μ[h]? with
      | some (.inl (0, z, .inl f)) => if inb i z = true then some (pc + n, r, l, .int (f i.toNatClampNeg) :: s, μ) else none
      | _ => none)
    | _ => none
  | .iastore => match st with
    | .int x :: .int i :: .ref h :: s => (match μ[h]? with
      | some (.inl (0, z, .inl f)) => if inb i z = true then some (pc + n, r, l, s, μ.set h (.inl (0, z, .inl (upd f i.toNatClampNeg x)))) else none
      | _ => none)
    | _ => none
  | .aaload => match st with
    | .int i :: .ref h :: s => (match μ[h]? with
      | some (.inl (1, z, .inr (.inr (.inr (.inr g))))) => if inb i z = true then some (pc + n, r, l, va_rf (g i.toNatClampNeg) :: s, μ) else none
      | _ => none)
    | _ => none
  | .arraylength => match st with
    | .ref h :: s => (match μ[h]? with
      | some (.inl (0, z, _)) => some (pc + n, r, l, .int (nI z) :: s, μ)
      | _ => none)
    | _ => none
  | _ => none
def mStp (TL : List (Nat × List MEn)) (S : MSt) : Option MSt := match S with
  | (pc, [], l, st, μ) => (match TL.lookup pc with
    | some (e :: r) => some (pc, e :: r, l, st, μ)
    | _ => none)
  | (pc, (i, n, a, b) :: r, l, st, μ) => mEx TL pc i n a b r l st μ
def mStps (TL : List (Nat × List MEn)) : Nat → MSt → Option MSt
  | 0, S => some S
  | 1, S => mStp TL S
  | k + 2, S => (mStp TL S).bind (mStps TL (k + 1))
/-! the table of a method is what its bytes say -/
def mOpd (own : String) (pc : Nat) (i : Instr) (n a b : Nat) : Bool := match i with
  | .iconst _ => Nat.beq n 1
  | .bipush k => Nat.beq n 2 && decide ((Int8.ofInt k).toInt32 = mC k)
  | .sipush k => Nat.beq n 3 && decide ((Int16.ofInt k).toInt32 = mC k)
  | .ldc idx => Nat.beq n 2 && decide ((own, idx, a) ∈ CIk)
  | .ldc2_w idx => Nat.beq n 3 && decide ((own, idx, a) ∈ CLk)
  | .goto off => Nat.beq n 3 && decide ((pc : Int) + off = (a : Int))
  | .ifCond _ off => Nat.beq n 3 && decide ((pc : Int) + off = (a : Int))
  | .if_icmp _ off => Nat.beq n 3 && decide ((pc : Int) + off = (a : Int))
  | .tableswitch d lo hi offs => decide (0 ≤ (pc : Int) + d) && decide (0 ≤ lo) && decide (hi < 1000) && decide ((offs.size : Int) = hi - lo + 1) && offs.toList.all (fun o => decide (0 ≤ (pc : Int) + o))
  | .lookupswitch d ps => decide (0 ≤ (pc : Int) + d) && (ps.toList.zip (ps.toList.drop 1)).all (fun (a, next) => a.1 < next.1) && ps.toList.all (fun q => decide (0 ≤ q.1) && decide (q.1 < 1000) && decide (0 ≤ (pc : Int) + q.2))
  | .getfield idx => Nat.beq n 3 && decide ((own, idx, a, b) ∈ FLk)
  | .putfield idx => Nat.beq n 3 && decide ((own, idx, a, b) ∈ FLk) && (match cls_[a]? with
    | some (_, T, _) => decide ((T b).2.2.1 = "I") && !(T b).2.2.2
    | none => false)
  | .iinc _ c => Nat.beq n 3 && decide (Int32.ofInt c = mC c)
  | .iload_n _ | .lload_n _ | .aload_n _ | .istore_n _ | .lstore_n _ | .astore_n _ => Nat.beq n 1
  | .iload _ | .lload _ | .aload _ | .istore _ | .lstore _ | .astore _ => Nat.beq n 2
  | .iadd | .isub | .imul | .iand | .ineg | .idiv | .irem | .ladd | .lmul | .lrem | .lcmp | .i2l | .l2i | .dup | .dup2 | .pop | .iaload | .iastore | .aaload | .arraylength => Nat.beq n 1
  | .ireturn | .lreturn | .return_ => Nat.beq n 1
  | .invokevirtual _ | .invokestatic _ => Nat.beq n 3
  | _ => false
def mChk (own : String) (bytes : ByteArray) : Nat → List MEn → Bool
  | _, [] => true
  | pc, (i, n, a, b) :: r => (match decode bytes pc with
    | .ok (i', n') => decide (i' = i) && Nat.beq n' n
    | _ => false) && (mOpd own pc i n a b && mChk own bytes (pc + n) r)
def mOk (M : MB) : Prop := ∀ q ∈ M.2.2.2.2, mChk M.1.cls M.2.1 q.1 q.2 = true
theorem mOk.of {M : MB} (h : M.2.2.2.2.all (fun q => mChk M.1.cls M.2.1 q.1 q.2) = true) : mOk M := fun q hq => List.all_eq_true.mp h q hq
theorem mLook {α : Type} {TL : List (Nat × α)} {pc : Nat} {r : α} (h : TL.lookup pc = some r) : (pc, r) ∈ TL := by
  induction TL with
  | nil => cases h
  | cons q t ih =>
    obtain ⟨k, v⟩ := q
    rw [List.lookup_cons] at h
    by_cases hk : pc = k
    · subst hk
      simp at h
      subst h
      exact List.mem_cons_self
    · rw [show (pc == k) = false from by simpa using hk] at h
      exact List.mem_cons_of_mem _ (ih h)
theorem mOk.at {M : MB} (h : mOk M) (pc : Nat) : mChk M.1.cls M.2.1 pc (mT M.2.2.2.2 pc) = true := by
  unfold mT
  cases hl : List.lookup pc M.2.2.2.2 with
  | none => rfl
  | some r => exact h _ (mLook hl)
theorem mChk.head {own : String} {bytes : ByteArray} {pc n a b : Nat} {i : Instr} {r : List MEn} (h : mChk own bytes pc ((i, n, a, b) :: r) = true) : decode bytes pc = .ok (i, n) ∧ mOpd own pc i n a b = true ∧ mChk own bytes (pc + n) r = true := by
  unfold mChk at h
  cases hd : decode bytes pc with
  | error e => rw [hd] at h; simp at h
  | ok q =>
    obtain ⟨i', n'⟩ := q
    rw [hd] at h
    simp only [Bool.and_eq_true, decide_eq_true_eq, Nat.beq_eq] at h
    obtain ⟨⟨rfl, rfl⟩, h2, h3⟩ := h
    exact ⟨rfl, h2, h3⟩
/-! the tables' words -/
theorem FL_all : (FLk.zip FLw).all (fun q => match cls_[q.1.2.2.1]? with
    | some (_, T, N) => decide (q.1.2.2.2 < N) && decide (lw_tbl[q.2]? = some (.fieldLink q.1.1 q.1.2.1 (T q.1.2.2.2).1 (T q.1.2.2.2).2.1 (T q.1.2.2.2).2.2.1))
    | none => false) = true := by decide +kernel
theorem FL_len : FLk.length ≤ FLw.length := by decide +kernel
theorem m_zip {α β : Type} {P : α × β → Bool} {l : List α} {w : List β} (hl : l.length ≤ w.length) (h : (l.zip w).all P = true) {q : α} (hq : q ∈ l) : ∃ b, P (q, b) = true := by
  obtain ⟨i, hi, rfl⟩ := List.mem_iff_getElem.mp hq
  refine ⟨w[i], List.all_eq_true.mp h _ ?_⟩
  have : (l.zip w)[i]? = some (l[i], w[i]) := by
    rw [List.getElem?_eq_getElem (by rw [List.length_zip]; omega)]
    simp
  exact List.mem_of_getElem? this
theorem FL_ok {own : String} {idx ci k : Nat} (h : (own, idx, ci, k) ∈ FLk) : ∃ C T N, cls_[ci]? = some (C, T, N) ∧ k < N ∧ Cond.fieldLink own idx (T k).1 (T k).2.1 (T k).2.2.1 ∈ lw_tbl := by
  obtain ⟨w, hw⟩ := m_zip FL_len FL_all h
  dsimp only at hw
  cases hc : cls_[ci]? with
  | none => rw [hc] at hw; cases hw
  | some q =>
    obtain ⟨C, T, N⟩ := q
    rw [hc] at hw
    simp only [Bool.and_eq_true, decide_eq_true_eq] at hw
    exact ⟨C, T, N, rfl, hw.1, List.mem_of_getElem? hw.2⟩
theorem CI_all : (CIk.zip CIw).all (fun q => decide (lw_tbl[q.2]? = some (.constant q.1.1 q.1.2.1 (nI q.1.2.2)))) = true := by decide +kernel
theorem CI_ok {own : String} {idx a : Nat} (h : (own, idx, a) ∈ CIk) : Cond.constant own idx (nI a) ∈ lw_tbl := by
  obtain ⟨w, hw⟩ := m_zip (by decide +kernel) CI_all h
  exact List.mem_of_getElem? (of_decide_eq_true hw)
theorem CL_all : (CLk.zip CLw).all (fun q => decide (lw_tbl[q.2]? = some (.constantLong q.1.1 q.1.2.1 (lN q.1.2.2)))) = true := by decide +kernel
theorem CL_ok {own : String} {idx a : Nat} (h : (own, idx, a) ∈ CLk) : Cond.constantLong own idx (lN a) ∈ lw_tbl := by
  obtain ⟨w, hw⟩ := m_zip (by decide +kernel) CL_all h
  exact List.mem_of_getElem? (of_decide_eq_true hw)
theorem m_cls {ci : Nat} {C : String} {T : u_T} {N : Nat} (h : cls_[ci]? = some (C, T, N)) : (∀ w ∈ u_ws C T N, w ∈ lw_tbl) ∧ (∃ ty : Nat → FieldType, ∀ k, k < N → parseFieldDescriptor (T k).2.2.1 = some (ty k)) ∧ (∀ a, a < N → ∀ b, b < N → a ≠ b → (T a).2.1 ≠ (T b).2.1) := by
  match ci, h with
  | 0, h => cases h; exact ⟨inlX0, ⟨_, tyX0_ok⟩, nmX0⟩
  | 1, h => cases h; exact ⟨inlX1, ⟨_, tyX1_ok⟩, nmX1⟩
  | 2, h => cases h; exact ⟨inlX2, ⟨_, tyX2_ok⟩, nmX2⟩
  | 3, h => cases h; exact ⟨inlX3, ⟨_, tyX3_ok⟩, nmX3⟩
  | k + 4, h => simp [cls_] at h
def mTt : List Cond := lw_tbl.filter goodWord
theorem mTt_in {w : Cond} (h : w ∈ lw_tbl) (g : goodWord w = true) : w ∈ mTt := List.mem_filter.mpr ⟨h, g⟩
theorem mTt_good : GoodIn mTt mTt := fun w h => ⟨h, good_of_word (List.mem_filter.mp h).2⟩
theorem m_clsT {ci : Nat} {C : String} {T : u_T} {N : Nat} (h : cls_[ci]? = some (C, T, N)) : ∀ w ∈ u_ws C T N, w ∈ mTt := by
  intro w hw
  refine mTt_in ((m_cls h).1 w hw) ?_
  obtain ⟨k, -, rfl⟩ := List.mem_map.mp hw
  unfold u_lay
  by_cases hf : (T k).2.2.2 = true
  · rw [if_pos hf]; rfl
  · rw [if_neg hf]; rfl
end
section
/-! cells, values and worlds: places for addresses -/
def cV (σ : Nat → Nat) : Value → Value
  | .ref i => .ref (σ i)
  | v => v
def cE (σ : Nat → Nat) (tA : Nat → ClassId) : va_E → va_E
  | .inl (t, n, .inl f) => .inl (tA t, n, .inl f)
  | .inl (t, n, .inr (.inr (.inr (.inr g)))) => .inl (tA t, n, .inr (.inr (.inr (.inr (fun k => (g k).map σ)))))
  | .inl (t, x) => .inl (tA t, x)
  | .inr (ci, fs) => .inr (ci, fs.map (cV σ))
def mW (σ : Nat → Nat) (tA : Nat → ClassId) (μ : MMe) : va_W := μ.mapIdx (fun i c => (σ i, cE σ tA c))
theorem mW_at {σ : Nat → Nat} {tA : Nat → ClassId} {μ : MMe} {k : Nat} {c : va_E} (h : μ[k]? = some c) : (mW σ tA μ)[k]? = some (σ k, cE σ tA c) := by
  unfold mW
  rw [List.getElem?_mapIdx, h]
  rfl
theorem mW_set {σ : Nat → Nat} {tA : Nat → ClassId} {μ : MMe} {k : Nat} {c : va_E} : (mW σ tA μ).set k (σ k, cE σ tA c) = mW σ tA (μ.set k c) := by
  unfold mW
  rw [List.mapIdx_set]
def mTy (tA : Nat → ClassId) : List (ClassId × FieldType) := [(tA 0, .int), (tA 1, .object RX0)]
/-! locals -/
def mAs (l : List (Option Value)) : List (Nat × Value) := (List.range l.length).filterMap (fun i => (l[i]?.join).map (fun v => (i, v)))
theorem mAs_iff {l : List (Option Value)} {i : Nat} {v : Value} : (i, v) ∈ mAs l ↔ l[i]? = some (some v) := by
  unfold mAs
  rw [List.mem_filterMap]
  constructor
  · rintro ⟨j, hj, h⟩
    cases hl : l[j]? with
    | none => rw [hl] at h; simp at h
    | some o =>
      rw [hl] at h
      cases o with
      | none => simp at h
      | some w =>
        simp at h
        obtain ⟨rfl, rfl⟩ := h
        exact hl
  · intro h
    refine ⟨i, List.mem_range.mpr (List.getElem?_eq_some_iff.mp h).1, ?_⟩
    rw [h]
    rfl
def mL (ls : Array Slot) (nL : Nat) (l : List (Option Value)) : Prop := lv_has ls nL (mAs l) ∧ l.length = nL
theorem mL.get {ls : Array Slot} {nL : Nat} {l : List (Option Value)} {i : Nat} {v : Value} (h : mL ls nL l) (hi : l[i]? = some (some v)) : ls[i]? = some (.val v) := h.1.2.2 (i, v) (mAs_iff.mpr hi)
theorem mLng_cat {v : Value} (h : v.category = 2) : mLng (some (some v)) = true := by
  cases v <;> first | rfl | (simp [Value.category] at h)
theorem mL.set1 {ls : Array Slot} {nL : Nat} {l : List (Option Value)} {i : Nat} {v : Value} (hl : l.length = nL) (h0 : mS0 l i = true)
    (h : lv_has ls nL ((i, v) :: (mAs l).filter (fun q => !(q.1 == i) && !(q.1 + 1 == i && q.2.category == 2)))) : mL ls nL (l.set i (some v)) := by
  refine ⟨⟨h.1, h.2.1, fun q hq => ?_⟩, by rw [List.length_set]; exact hl⟩
  obtain ⟨j, w⟩ := q
  have hj := mAs_iff.mp hq
  by_cases e : j = i
  · subst e
    have hlt : j < l.length := by
      have := (List.getElem?_eq_some_iff.mp hj).1
      rwa [List.length_set] at this
    rw [List.getElem?_set_self hlt] at hj
    cases hj
    exact h.2.2 _ List.mem_cons_self
  · rw [List.getElem?_set_ne (fun z => e z.symm)] at hj
    refine h.2.2 _ (List.mem_cons_of_mem _ (List.mem_filter.mpr ⟨mAs_iff.mpr hj, ?_⟩))
    have e1 : (j == i) = false := by simpa using e
    simp only [e1, Bool.not_false, Bool.true_and, Bool.not_eq_true', Bool.and_eq_false_iff]
    by_cases e2 : j + 1 = i
    · right
      subst e2
      simp only [beq_eq_false_iff_ne, ne_eq]
      intro hc
      simp only [mS0, hj, mLng_cat hc] at h0
      cases h0
    · left
      simpa using e2
theorem mL.set2 {ls : Array Slot} {nL : Nat} {l : List (Option Value)} {i : Nat} {v : Value} (hl : l.length = nL) (h0 : mS0 l i = true)
    (h : lv_has ls nL ((i, v) :: (mAs l).filter (fun q => !(q.1 == i) && (!(q.1 == i + 1) && !(q.1 + 1 == i && q.2.category == 2))))) : mL ls nL ((l.set i (some v)).set (i + 1) none) := by
  refine ⟨⟨h.1, h.2.1, fun q hq => ?_⟩, by rw [List.length_set, List.length_set]; exact hl⟩
  obtain ⟨j, w⟩ := q
  have hj := mAs_iff.mp hq
  by_cases e3 : j = i + 1
  · subst e3
    have hlt : i + 1 < (l.set i (some v)).length := by
      have := (List.getElem?_eq_some_iff.mp hj).1
      rwa [List.length_set] at this
    rw [List.getElem?_set_self hlt] at hj
    cases hj
  rw [List.getElem?_set_ne (fun z => e3 z.symm)] at hj
  by_cases e : j = i
  · subst e
    have hlt : j < l.length := by
      have := (List.getElem?_eq_some_iff.mp hj).1
      rwa [List.length_set] at this
    rw [List.getElem?_set_self hlt] at hj
    cases hj
    exact h.2.2 _ List.mem_cons_self
  · rw [List.getElem?_set_ne (fun z => e z.symm)] at hj
    refine h.2.2 _ (List.mem_cons_of_mem _ (List.mem_filter.mpr ⟨mAs_iff.mpr hj, ?_⟩))
    have e1 : (j == i) = false := by simpa using e
    have e4 : (j == i + 1) = false := by simpa using e3
    simp only [e1, e4, Bool.not_false, Bool.true_and, Bool.not_eq_true', Bool.and_eq_false_iff]
    by_cases e2 : j + 1 = i
    · right
      subst e2
      simp only [beq_eq_false_iff_ne, ne_eq]
      intro hc
      simp only [mS0, hj, mLng_cat hc] at h0
      cases h0
    · left
      simpa using e2
def cL (σ : Nat → Nat) (l : List (Option Value)) : List (Option Value) := l.map (Option.map (cV σ))
theorem cL_at {σ : Nat → Nat} {l : List (Option Value)} {i : Nat} {v : Value} (h : l[i]? = some (some v)) : (cL σ l)[i]? = some (some (cV σ v)) := by
  unfold cL
  rw [List.getElem?_map, h]
  rfl
theorem cL_set {σ : Nat → Nat} {l : List (Option Value)} {i : Nat} {o : Option Value} : cL σ (l.set i o) = (cL σ l).set i (o.map (cV σ)) := by
  unfold cL
  rw [List.map_set]
theorem cL_lng {σ : Nat → Nat} {l : List (Option Value)} {i : Nat} : mLng (cL σ l)[i]? = mLng l[i]? := by
  unfold cL
  rw [List.getElem?_map]
  cases l[i]? with
  | none => rfl
  | some o =>
    cases o with
    | none => rfl
    | some v => cases v <;> rfl
theorem cL_s0 {σ : Nat → Nat} {l : List (Option Value)} {i : Nat} : mS0 (cL σ l) i = mS0 l i := by
  cases i with
  | zero => rfl
  | succ j => show (!mLng (cL σ l)[j]?) = !mLng l[j]?; rw [cL_lng]
theorem cL_len {σ : Nat → Nat} {l : List (Option Value)} : (cL σ l).length = l.length := by unfold cL; rw [List.length_map]
/-! numbers -/
theorem mC_ofInt {k : Int} (h : decide (Int32.ofInt k = mC k) = true) : Int32.ofInt k = mC k := of_decide_eq_true h
theorem mC_eq (k : Int) : Int32.ofInt k = mC k := by
  cases k with
  | ofNat n => show Int32.ofInt (n : Int) = Int32.ofNat n; exact Int32.ofInt_eq_ofNat
  | negSucc n =>
    show Int32.ofInt (Int.negSucc n) = -nI (n + 1)
    rw [show Int.negSucc n = -((n + 1 : Nat) : Int) from rfl, Int32.ofInt_neg]
    congr 1
theorem inb_in {i : Int32} {n : Nat} (h : inb i n = true) : vp_in i n := by
  unfold inb at h
  simp only [Bool.and_eq_true, Bool.not_eq_true', decide_eq_false_iff_not, Nat.blt_eq] at h
  rintro (h1 | h1)
  · exact h.1 h1
  · omega
theorem mSw_ts {x : Int32} {pc : Nat} {d : Nat} : ∀ (os : List Int) (lo : Int), 0 ≤ lo → lo + os.length ≤ 1000 →
    (mSw x (mTs pc lo os) d = if h : lo ≤ x.toInt ∧ x.toInt < lo + os.length then ((pc : Int) + os[(x.toInt - lo).toNat]'(by omega)).toNat else d) := by
  intro os
  induction os with
  | nil =>
    intro lo h1 h2
    rw [dif_neg (by rw [List.length_nil]; omega)]
    rfl
  | cons o os ih =>
    intro lo h1 h2
    have hl : lo + 1 + os.length ≤ 1000 := by
      rw [List.length_cons] at h2; omega
    have hlo : lo < 1000 := by omega
    show (if x = mC lo then _ else mSw x (mTs pc (lo + 1) os) d) = _
    obtain ⟨n, rfl⟩ := Int.eq_ofNat_of_zero_le h1
    have hn : (mC (n : Int)).toInt = (n : Int) := nI_toInt (by omega)
    by_cases hx : x = mC (n : Int)
    · subst hx
      rw [if_pos rfl, dif_pos (by rw [hn, List.length_cons]; omega)]
      have : ((mC (n : Int)).toInt - (n : Int)).toNat = 0 := by rw [hn]; omega
      simp only [this, List.getElem_cons_zero]
    · rw [if_neg hx, ih (n + 1) (by omega) hl]
      have hne : x.toInt ≠ n := fun q => hx (Int32.toInt_inj.mp (q.trans hn.symm))
      by_cases hc : (n : Int) + 1 ≤ x.toInt ∧ x.toInt < (n : Int) + 1 + os.length
      · rw [dif_pos hc, dif_pos (by rw [List.length_cons]; omega)]
        have : (x.toInt - (n : Int)).toNat = (x.toInt - ((n : Int) + 1)).toNat + 1 := by omega
        simp only [this, List.getElem_cons_succ]
      · rw [dif_neg hc, dif_neg (by rw [List.length_cons]; omega)]
theorem mSw_ls {x : Int32} {pc : Nat} {d : Int} : ∀ (ps : List (Int × Int)), ps.all (fun q => decide (0 ≤ q.1) && decide (q.1 < 1000) && decide (0 ≤ (pc : Int) + q.2)) = true →
    mSw x (mLs pc ps) ((pc : Int) + d).toNat = ((pc : Int) + Op.lookupswitch.offset ps d x.toInt).toNat := by
  intro ps
  induction ps with
  | nil => intro _; rfl
  | cons q ps ih =>
    intro h
    obtain ⟨k, o⟩ := q
    rw [List.all_cons] at h
    simp only [Bool.and_eq_true, decide_eq_true_eq] at h
    obtain ⟨⟨⟨h1, h2⟩, h3⟩, h4⟩ := h
    obtain ⟨n, rfl⟩ := Int.eq_ofNat_of_zero_le h1
    have hn : (mC (n : Int)).toInt = (n : Int) := nI_toInt (by omega)
    rw [Op.lookupswitch.offset_cons]
    show (if x = mC (n : Int) then _ else _) = _
    by_cases hx : x = mC (n : Int)
    · rw [if_pos hx, if_pos (by rw [hx, hn])]
    · rw [if_neg hx, if_neg (fun q => hx (Int32.toInt_inj.mp (q.symm.trans hn.symm)))]
      exact ih h4
/-! where a walk of a method's body stands -/
def mCx (M : MB) (d : Nat) (scr : Option (Nat × (Nat → Int32))) (p : Program) (R : Room) (s : State) (m : MethodId) (args : Array Value) (c : Code) (D : va_G) (σ : Nat → Nat) (tA : Nat → ClassId) (A : Nat → Prop) (H0 : Heap) : Prop :=
  p.tables.exec = Jvm.exec ∧ c.code = M.2.1 ∧ c.maxLocals = M.2.2.1 ∧ s.vm.findClass M.1.cls = some m.cls ∧ (∀ w ∈ mTt, w.before args s = true) ∧ va_K D cls_ (mTy tA) s ∧ (∀ q, H0.size ≤ q → A q) ∧ d ≤ R.frames ∧ 40 * d ≤ R.locals ∧ mOk M ∧
  ∀ L xs, scr = some (L, xs) → va_X (σ 1000000) L xs s H0 ∧ σ 1000000 < H0.size ∧ ¬ A (σ 1000000)
def mWk (M : MB) (p : Program) (l : Launch) (e : Env) (R : Room) (s : State) (m : MethodId) (args : Array Value) (below : List Frame) (meth : Method) (c : Code) (D : va_G) (σ : Nat → Nat) (tA : Nat → ClassId) (A : Nat → Prop) (H0 : Heap) (cells slots : Nat) (Q : State → Prop) (S : MSt) : Prop :=
  ∀ (H : Heap) (locs : List Loc) (ls : Array Slot), va_P D cls_ (mW σ tA S.2.2.2.2) H → va_D A (mW σ tA S.2.2.2.2) → va_S A H0 H locs → mL ls M.2.2.1 (cL σ S.2.2.1) → W p l e R s m args below meth c H locs cells slots Q (F0 m S.1 ls (S.2.2.2.1.map (cV σ)))
end
section
set_option maxHeartbeats 4000000 in
theorem mEx_iconst {M : MB} {d : Nat} {scr : Option (Nat × (Nat → Int32))} {p : Program} {l : Launch} {e : Env} {R : Room} {s : State} {m : MethodId} {args : Array Value} {below : List Frame} {meth : Method} {c : Code} {D : va_G} {σ : Nat → Nat} {tA : Nat → ClassId} {A : Nat → Prop} {H0 : Heap} {cells slots : Nat} {Q : State → Prop} (hC : mCx M d scr p R s m args c D σ tA A H0) {pc n a b : Nat} {v : Int} {r : List MEn} {z : List (Option Value)} {st : List Value} {μ : MMe} {S : MSt} (hk : mChk M.1.cls M.2.1 pc ((.iconst v, n, a, b) :: r) = true) (h : mEx M.2.2.2.2 pc (.iconst v) n a b r z st μ = some S) (k : mChk M.1.cls M.2.1 S.1 S.2.1 = true → mWk M p l e R s m args below meth c D σ tA A H0 cells slots Q S) : mWk M p l e R s m args below meth c D σ tA A H0 cells slots Q (pc, (.iconst v, n, a, b) :: r, z, st, μ) := by
  obtain ⟨hd, ho, hr⟩ := mChk.head hk
  intro H locs ls hP hD hS hL
  obtain ⟨hx, hb, hml, hown, hts, hK, hA, hfr, hlo, hok, hsc⟩ := hC
  show W p l e R s m args below meth c H locs cells slots Q (F0 m pc ls (st.map (cV σ)))
  replace hD : va_D A (mW σ tA μ) := hD
  replace hP : va_P D cls_ (mW σ tA μ) H := hP
  replace hL : mL ls M.2.2.1 (cL σ z) := hL
  simp only [mEx] at h
  simp only [mOpd, Bool.and_eq_true, Nat.beq_eq, decide_eq_true_eq] at ho
  subst ho
  cases h
  exact lv_iconst hx hb hd (mC_eq v) (k hr H locs ls hP hD hS hL)
set_option maxHeartbeats 4000000 in
theorem mEx_bipush {M : MB} {d : Nat} {scr : Option (Nat × (Nat → Int32))} {p : Program} {l : Launch} {e : Env} {R : Room} {s : State} {m : MethodId} {args : Array Value} {below : List Frame} {meth : Method} {c : Code} {D : va_G} {σ : Nat → Nat} {tA : Nat → ClassId} {A : Nat → Prop} {H0 : Heap} {cells slots : Nat} {Q : State → Prop} (hC : mCx M d scr p R s m args c D σ tA A H0) {pc n a b : Nat} {v : Int} {r : List MEn} {z : List (Option Value)} {st : List Value} {μ : MMe} {S : MSt} (hk : mChk M.1.cls M.2.1 pc ((.bipush v, n, a, b) :: r) = true) (h : mEx M.2.2.2.2 pc (.bipush v) n a b r z st μ = some S) (k : mChk M.1.cls M.2.1 S.1 S.2.1 = true → mWk M p l e R s m args below meth c D σ tA A H0 cells slots Q S) : mWk M p l e R s m args below meth c D σ tA A H0 cells slots Q (pc, (.bipush v, n, a, b) :: r, z, st, μ) := by
  obtain ⟨hd, ho, hr⟩ := mChk.head hk
  intro H locs ls hP hD hS hL
  obtain ⟨hx, hb, hml, hown, hts, hK, hA, hfr, hlo, hok, hsc⟩ := hC
  show W p l e R s m args below meth c H locs cells slots Q (F0 m pc ls (st.map (cV σ)))
  replace hD : va_D A (mW σ tA μ) := hD
  replace hP : va_P D cls_ (mW σ tA μ) H := hP
  replace hL : mL ls M.2.2.1 (cL σ z) := hL
  simp only [mEx] at h
  simp only [mOpd, Bool.and_eq_true, Nat.beq_eq, decide_eq_true_eq] at ho
  obtain ⟨rfl, ho⟩ := ho
  cases h
  exact lv_bipush hx hb hd ho (k hr H locs ls hP hD hS hL)
set_option maxHeartbeats 4000000 in
theorem mEx_sipush {M : MB} {d : Nat} {scr : Option (Nat × (Nat → Int32))} {p : Program} {l : Launch} {e : Env} {R : Room} {s : State} {m : MethodId} {args : Array Value} {below : List Frame} {meth : Method} {c : Code} {D : va_G} {σ : Nat → Nat} {tA : Nat → ClassId} {A : Nat → Prop} {H0 : Heap} {cells slots : Nat} {Q : State → Prop} (hC : mCx M d scr p R s m args c D σ tA A H0) {pc n a b : Nat} {v : Int} {r : List MEn} {z : List (Option Value)} {st : List Value} {μ : MMe} {S : MSt} (hk : mChk M.1.cls M.2.1 pc ((.sipush v, n, a, b) :: r) = true) (h : mEx M.2.2.2.2 pc (.sipush v) n a b r z st μ = some S) (k : mChk M.1.cls M.2.1 S.1 S.2.1 = true → mWk M p l e R s m args below meth c D σ tA A H0 cells slots Q S) : mWk M p l e R s m args below meth c D σ tA A H0 cells slots Q (pc, (.sipush v, n, a, b) :: r, z, st, μ) := by
  obtain ⟨hd, ho, hr⟩ := mChk.head hk
  intro H locs ls hP hD hS hL
  obtain ⟨hx, hb, hml, hown, hts, hK, hA, hfr, hlo, hok, hsc⟩ := hC
  show W p l e R s m args below meth c H locs cells slots Q (F0 m pc ls (st.map (cV σ)))
  replace hD : va_D A (mW σ tA μ) := hD
  replace hP : va_P D cls_ (mW σ tA μ) H := hP
  replace hL : mL ls M.2.2.1 (cL σ z) := hL
  simp only [mEx] at h
  simp only [mOpd, Bool.and_eq_true, Nat.beq_eq, decide_eq_true_eq] at ho
  obtain ⟨rfl, ho⟩ := ho
  cases h
  exact lv_sipush hx hb hd ho (k hr H locs ls hP hD hS hL)
set_option maxHeartbeats 4000000 in
theorem mEx_ldc {M : MB} {d : Nat} {scr : Option (Nat × (Nat → Int32))} {p : Program} {l : Launch} {e : Env} {R : Room} {s : State} {m : MethodId} {args : Array Value} {below : List Frame} {meth : Method} {c : Code} {D : va_G} {σ : Nat → Nat} {tA : Nat → ClassId} {A : Nat → Prop} {H0 : Heap} {cells slots : Nat} {Q : State → Prop} (hC : mCx M d scr p R s m args c D σ tA A H0) {pc n a b : Nat} {v : Nat} {r : List MEn} {z : List (Option Value)} {st : List Value} {μ : MMe} {S : MSt} (hk : mChk M.1.cls M.2.1 pc ((.ldc v, n, a, b) :: r) = true) (h : mEx M.2.2.2.2 pc (.ldc v) n a b r z st μ = some S) (k : mChk M.1.cls M.2.1 S.1 S.2.1 = true → mWk M p l e R s m args below meth c D σ tA A H0 cells slots Q S) : mWk M p l e R s m args below meth c D σ tA A H0 cells slots Q (pc, (.ldc v, n, a, b) :: r, z, st, μ) := by
  obtain ⟨hd, ho, hr⟩ := mChk.head hk
  intro H locs ls hP hD hS hL
  obtain ⟨hx, hb, hml, hown, hts, hK, hA, hfr, hlo, hok, hsc⟩ := hC
  show W p l e R s m args below meth c H locs cells slots Q (F0 m pc ls (st.map (cV σ)))
  replace hD : va_D A (mW σ tA μ) := hD
  replace hP : va_P D cls_ (mW σ tA μ) H := hP
  replace hL : mL ls M.2.2.1 (cL σ z) := hL
  simp only [mEx] at h
  simp only [mOpd, Bool.and_eq_true, Nat.beq_eq, decide_eq_true_eq] at ho
  obtain ⟨rfl, ho⟩ := ho
  cases h
  exact lv_ldc hx hb hown (hts _ (mTt_in (CI_ok ho) rfl)) hd (k hr H locs ls hP hD hS hL)
set_option maxHeartbeats 4000000 in
theorem mEx_ldc2 {M : MB} {d : Nat} {scr : Option (Nat × (Nat → Int32))} {p : Program} {l : Launch} {e : Env} {R : Room} {s : State} {m : MethodId} {args : Array Value} {below : List Frame} {meth : Method} {c : Code} {D : va_G} {σ : Nat → Nat} {tA : Nat → ClassId} {A : Nat → Prop} {H0 : Heap} {cells slots : Nat} {Q : State → Prop} (hC : mCx M d scr p R s m args c D σ tA A H0) {pc n a b : Nat} {v : Nat} {r : List MEn} {z : List (Option Value)} {st : List Value} {μ : MMe} {S : MSt} (hk : mChk M.1.cls M.2.1 pc ((.ldc2_w v, n, a, b) :: r) = true) (h : mEx M.2.2.2.2 pc (.ldc2_w v) n a b r z st μ = some S) (k : mChk M.1.cls M.2.1 S.1 S.2.1 = true → mWk M p l e R s m args below meth c D σ tA A H0 cells slots Q S) : mWk M p l e R s m args below meth c D σ tA A H0 cells slots Q (pc, (.ldc2_w v, n, a, b) :: r, z, st, μ) := by
  obtain ⟨hd, ho, hr⟩ := mChk.head hk
  intro H locs ls hP hD hS hL
  obtain ⟨hx, hb, hml, hown, hts, hK, hA, hfr, hlo, hok, hsc⟩ := hC
  show W p l e R s m args below meth c H locs cells slots Q (F0 m pc ls (st.map (cV σ)))
  replace hD : va_D A (mW σ tA μ) := hD
  replace hP : va_P D cls_ (mW σ tA μ) H := hP
  replace hL : mL ls M.2.2.1 (cL σ z) := hL
  simp only [mEx] at h
  simp only [mOpd, Bool.and_eq_true, Nat.beq_eq, decide_eq_true_eq] at ho
  obtain ⟨rfl, ho⟩ := ho
  cases h
  exact lv_ldc2 hx hb hown (hts _ (mTt_in (CL_ok ho) rfl)) hd (k hr H locs ls hP hD hS hL)
set_option maxHeartbeats 4000000 in
theorem mEx_iload_n {M : MB} {d : Nat} {scr : Option (Nat × (Nat → Int32))} {p : Program} {l : Launch} {e : Env} {R : Room} {s : State} {m : MethodId} {args : Array Value} {below : List Frame} {meth : Method} {c : Code} {D : va_G} {σ : Nat → Nat} {tA : Nat → ClassId} {A : Nat → Prop} {H0 : Heap} {cells slots : Nat} {Q : State → Prop} (hC : mCx M d scr p R s m args c D σ tA A H0) {pc n a b : Nat} {v : Fin 4} {r : List MEn} {z : List (Option Value)} {st : List Value} {μ : MMe} {S : MSt} (hk : mChk M.1.cls M.2.1 pc ((.iload_n v, n, a, b) :: r) = true) (h : mEx M.2.2.2.2 pc (.iload_n v) n a b r z st μ = some S) (k : mChk M.1.cls M.2.1 S.1 S.2.1 = true → mWk M p l e R s m args below meth c D σ tA A H0 cells slots Q S) : mWk M p l e R s m args below meth c D σ tA A H0 cells slots Q (pc, (.iload_n v, n, a, b) :: r, z, st, μ) := by
  obtain ⟨hd, ho, hr⟩ := mChk.head hk
  intro H locs ls hP hD hS hL
  obtain ⟨hx, hb, hml, hown, hts, hK, hA, hfr, hlo, hok, hsc⟩ := hC
  show W p l e R s m args below meth c H locs cells slots Q (F0 m pc ls (st.map (cV σ)))
  replace hD : va_D A (mW σ tA μ) := hD
  replace hP : va_P D cls_ (mW σ tA μ) H := hP
  replace hL : mL ls M.2.2.1 (cL σ z) := hL
  simp only [mEx] at h
  simp only [mOpd, Bool.and_eq_true, Nat.beq_eq, decide_eq_true_eq] at ho
  subst ho
  split at h
  rotate_left
  · cases h
  rename_i x hz
  cases h
  exact lv_iload_n hx hb hd rfl (hL.get (cL_at hz)) (k hr H locs ls hP hD hS hL)
set_option maxHeartbeats 4000000 in
theorem mEx_iload {M : MB} {d : Nat} {scr : Option (Nat × (Nat → Int32))} {p : Program} {l : Launch} {e : Env} {R : Room} {s : State} {m : MethodId} {args : Array Value} {below : List Frame} {meth : Method} {c : Code} {D : va_G} {σ : Nat → Nat} {tA : Nat → ClassId} {A : Nat → Prop} {H0 : Heap} {cells slots : Nat} {Q : State → Prop} (hC : mCx M d scr p R s m args c D σ tA A H0) {pc n a b : Nat} {v : Nat} {r : List MEn} {z : List (Option Value)} {st : List Value} {μ : MMe} {S : MSt} (hk : mChk M.1.cls M.2.1 pc ((.iload v, n, a, b) :: r) = true) (h : mEx M.2.2.2.2 pc (.iload v) n a b r z st μ = some S) (k : mChk M.1.cls M.2.1 S.1 S.2.1 = true → mWk M p l e R s m args below meth c D σ tA A H0 cells slots Q S) : mWk M p l e R s m args below meth c D σ tA A H0 cells slots Q (pc, (.iload v, n, a, b) :: r, z, st, μ) := by
  obtain ⟨hd, ho, hr⟩ := mChk.head hk
  intro H locs ls hP hD hS hL
  obtain ⟨hx, hb, hml, hown, hts, hK, hA, hfr, hlo, hok, hsc⟩ := hC
  show W p l e R s m args below meth c H locs cells slots Q (F0 m pc ls (st.map (cV σ)))
  replace hD : va_D A (mW σ tA μ) := hD
  replace hP : va_P D cls_ (mW σ tA μ) H := hP
  replace hL : mL ls M.2.2.1 (cL σ z) := hL
  simp only [mEx] at h
  simp only [mOpd, Bool.and_eq_true, Nat.beq_eq, decide_eq_true_eq] at ho
  subst ho
  split at h
  rotate_left
  · cases h
  rename_i x hz
  cases h
  exact lv_iload hx hb hd (hL.get (cL_at hz)) (k hr H locs ls hP hD hS hL)
set_option maxHeartbeats 4000000 in
theorem mEx_lload_n {M : MB} {d : Nat} {scr : Option (Nat × (Nat → Int32))} {p : Program} {l : Launch} {e : Env} {R : Room} {s : State} {m : MethodId} {args : Array Value} {below : List Frame} {meth : Method} {c : Code} {D : va_G} {σ : Nat → Nat} {tA : Nat → ClassId} {A : Nat → Prop} {H0 : Heap} {cells slots : Nat} {Q : State → Prop} (hC : mCx M d scr p R s m args c D σ tA A H0) {pc n a b : Nat} {v : Fin 4} {r : List MEn} {z : List (Option Value)} {st : List Value} {μ : MMe} {S : MSt} (hk : mChk M.1.cls M.2.1 pc ((.lload_n v, n, a, b) :: r) = true) (h : mEx M.2.2.2.2 pc (.lload_n v) n a b r z st μ = some S) (k : mChk M.1.cls M.2.1 S.1 S.2.1 = true → mWk M p l e R s m args below meth c D σ tA A H0 cells slots Q S) : mWk M p l e R s m args below meth c D σ tA A H0 cells slots Q (pc, (.lload_n v, n, a, b) :: r, z, st, μ) := by
  obtain ⟨hd, ho, hr⟩ := mChk.head hk
  intro H locs ls hP hD hS hL
  obtain ⟨hx, hb, hml, hown, hts, hK, hA, hfr, hlo, hok, hsc⟩ := hC
  show W p l e R s m args below meth c H locs cells slots Q (F0 m pc ls (st.map (cV σ)))
  replace hD : va_D A (mW σ tA μ) := hD
  replace hP : va_P D cls_ (mW σ tA μ) H := hP
  replace hL : mL ls M.2.2.1 (cL σ z) := hL
  simp only [mEx] at h
  simp only [mOpd, Bool.and_eq_true, Nat.beq_eq, decide_eq_true_eq] at ho
  subst ho
  split at h
  rotate_left
  · cases h
  rename_i x hz
  cases h
  exact lv_lload_n hx hb hd rfl (hL.get (cL_at hz)) (k hr H locs ls hP hD hS hL)
set_option maxHeartbeats 4000000 in
theorem mEx_lload {M : MB} {d : Nat} {scr : Option (Nat × (Nat → Int32))} {p : Program} {l : Launch} {e : Env} {R : Room} {s : State} {m : MethodId} {args : Array Value} {below : List Frame} {meth : Method} {c : Code} {D : va_G} {σ : Nat → Nat} {tA : Nat → ClassId} {A : Nat → Prop} {H0 : Heap} {cells slots : Nat} {Q : State → Prop} (hC : mCx M d scr p R s m args c D σ tA A H0) {pc n a b : Nat} {v : Nat} {r : List MEn} {z : List (Option Value)} {st : List Value} {μ : MMe} {S : MSt} (hk : mChk M.1.cls M.2.1 pc ((.lload v, n, a, b) :: r) = true) (h : mEx M.2.2.2.2 pc (.lload v) n a b r z st μ = some S) (k : mChk M.1.cls M.2.1 S.1 S.2.1 = true → mWk M p l e R s m args below meth c D σ tA A H0 cells slots Q S) : mWk M p l e R s m args below meth c D σ tA A H0 cells slots Q (pc, (.lload v, n, a, b) :: r, z, st, μ) := by
  obtain ⟨hd, ho, hr⟩ := mChk.head hk
  intro H locs ls hP hD hS hL
  obtain ⟨hx, hb, hml, hown, hts, hK, hA, hfr, hlo, hok, hsc⟩ := hC
  show W p l e R s m args below meth c H locs cells slots Q (F0 m pc ls (st.map (cV σ)))
  replace hD : va_D A (mW σ tA μ) := hD
  replace hP : va_P D cls_ (mW σ tA μ) H := hP
  replace hL : mL ls M.2.2.1 (cL σ z) := hL
  simp only [mEx] at h
  simp only [mOpd, Bool.and_eq_true, Nat.beq_eq, decide_eq_true_eq] at ho
  subst ho
  split at h
  rotate_left
  · cases h
  rename_i x hz
  cases h
  exact lv_lload hx hb hd (hL.get (cL_at hz)) (k hr H locs ls hP hD hS hL)
set_option maxHeartbeats 4000000 in
theorem mEx_aload_n {M : MB} {d : Nat} {scr : Option (Nat × (Nat → Int32))} {p : Program} {l : Launch} {e : Env} {R : Room} {s : State} {m : MethodId} {args : Array Value} {below : List Frame} {meth : Method} {c : Code} {D : va_G} {σ : Nat → Nat} {tA : Nat → ClassId} {A : Nat → Prop} {H0 : Heap} {cells slots : Nat} {Q : State → Prop} (hC : mCx M d scr p R s m args c D σ tA A H0) {pc n a b : Nat} {v : Fin 4} {r : List MEn} {z : List (Option Value)} {st : List Value} {μ : MMe} {S : MSt} (hk : mChk M.1.cls M.2.1 pc ((.aload_n v, n, a, b) :: r) = true) (h : mEx M.2.2.2.2 pc (.aload_n v) n a b r z st μ = some S) (k : mChk M.1.cls M.2.1 S.1 S.2.1 = true → mWk M p l e R s m args below meth c D σ tA A H0 cells slots Q S) : mWk M p l e R s m args below meth c D σ tA A H0 cells slots Q (pc, (.aload_n v, n, a, b) :: r, z, st, μ) := by
  obtain ⟨hd, ho, hr⟩ := mChk.head hk
  intro H locs ls hP hD hS hL
  obtain ⟨hx, hb, hml, hown, hts, hK, hA, hfr, hlo, hok, hsc⟩ := hC
  show W p l e R s m args below meth c H locs cells slots Q (F0 m pc ls (st.map (cV σ)))
  replace hD : va_D A (mW σ tA μ) := hD
  replace hP : va_P D cls_ (mW σ tA μ) H := hP
  replace hL : mL ls M.2.2.1 (cL σ z) := hL
  simp only [mEx] at h
  simp only [mOpd, Bool.and_eq_true, Nat.beq_eq, decide_eq_true_eq] at ho
  subst ho
  split at h
  rotate_left
  · cases h
  rename_i x hz
  cases h
  exact lv_aload_n hx hb hd rfl (hL.get (cL_at hz)) (k hr H locs ls hP hD hS hL)
set_option maxHeartbeats 4000000 in
theorem mEx_aload {M : MB} {d : Nat} {scr : Option (Nat × (Nat → Int32))} {p : Program} {l : Launch} {e : Env} {R : Room} {s : State} {m : MethodId} {args : Array Value} {below : List Frame} {meth : Method} {c : Code} {D : va_G} {σ : Nat → Nat} {tA : Nat → ClassId} {A : Nat → Prop} {H0 : Heap} {cells slots : Nat} {Q : State → Prop} (hC : mCx M d scr p R s m args c D σ tA A H0) {pc n a b : Nat} {v : Nat} {r : List MEn} {z : List (Option Value)} {st : List Value} {μ : MMe} {S : MSt} (hk : mChk M.1.cls M.2.1 pc ((.aload v, n, a, b) :: r) = true) (h : mEx M.2.2.2.2 pc (.aload v) n a b r z st μ = some S) (k : mChk M.1.cls M.2.1 S.1 S.2.1 = true → mWk M p l e R s m args below meth c D σ tA A H0 cells slots Q S) : mWk M p l e R s m args below meth c D σ tA A H0 cells slots Q (pc, (.aload v, n, a, b) :: r, z, st, μ) := by
  obtain ⟨hd, ho, hr⟩ := mChk.head hk
  intro H locs ls hP hD hS hL
  obtain ⟨hx, hb, hml, hown, hts, hK, hA, hfr, hlo, hok, hsc⟩ := hC
  show W p l e R s m args below meth c H locs cells slots Q (F0 m pc ls (st.map (cV σ)))
  replace hD : va_D A (mW σ tA μ) := hD
  replace hP : va_P D cls_ (mW σ tA μ) H := hP
  replace hL : mL ls M.2.2.1 (cL σ z) := hL
  simp only [mEx] at h
  simp only [mOpd, Bool.and_eq_true, Nat.beq_eq, decide_eq_true_eq] at ho
  subst ho
  split at h
  rotate_left
  · cases h
  rename_i x hz
  cases h
  exact lv_aload hx hb hd (hL.get (cL_at hz)) (k hr H locs ls hP hD hS hL)
set_option maxHeartbeats 4000000 in
theorem mEx_istore_n {M : MB} {d : Nat} {scr : Option (Nat × (Nat → Int32))} {p : Program} {l : Launch} {e : Env} {R : Room} {s : State} {m : MethodId} {args : Array Value} {below : List Frame} {meth : Method} {c : Code} {D : va_G} {σ : Nat → Nat} {tA : Nat → ClassId} {A : Nat → Prop} {H0 : Heap} {cells slots : Nat} {Q : State → Prop} (hC : mCx M d scr p R s m args c D σ tA A H0) {pc n a b : Nat} {v : Fin 4} {r : List MEn} {z : List (Option Value)} {st : List Value} {μ : MMe} {S : MSt} (hk : mChk M.1.cls M.2.1 pc ((.istore_n v, n, a, b) :: r) = true) (h : mEx M.2.2.2.2 pc (.istore_n v) n a b r z st μ = some S) (k : mChk M.1.cls M.2.1 S.1 S.2.1 = true → mWk M p l e R s m args below meth c D σ tA A H0 cells slots Q S) : mWk M p l e R s m args below meth c D σ tA A H0 cells slots Q (pc, (.istore_n v, n, a, b) :: r, z, st, μ) := by
  obtain ⟨hd, ho, hr⟩ := mChk.head hk
  intro H locs ls hP hD hS hL
  obtain ⟨hx, hb, hml, hown, hts, hK, hA, hfr, hlo, hok, hsc⟩ := hC
  show W p l e R s m args below meth c H locs cells slots Q (F0 m pc ls (st.map (cV σ)))
  replace hD : va_D A (mW σ tA μ) := hD
  replace hP : va_P D cls_ (mW σ tA μ) H := hP
  replace hL : mL ls M.2.2.1 (cL σ z) := hL
  simp only [mEx] at h
  simp only [mOpd, Bool.and_eq_true, Nat.beq_eq, decide_eq_true_eq] at ho
  subst ho
  split at h
  rotate_left
  · cases h
  rename_i x t
  split at h
  rotate_left
  · cases h
  rename_i hg
  simp only [Bool.and_eq_true, Nat.blt_eq] at hg
  cases h
  refine lv_istore_n hx hb hd rfl hL.1 (by rw [← hL.2, cL_len]; exact hg.1) rfl (fun ls' hls => ?_)
  exact k hr H locs ls' hP hD hS (by rw [cL_set]; exact mL.set1 (hL.2) (by rw [cL_s0]; exact hg.2) hls)
set_option maxHeartbeats 4000000 in
theorem mEx_istore {M : MB} {d : Nat} {scr : Option (Nat × (Nat → Int32))} {p : Program} {l : Launch} {e : Env} {R : Room} {s : State} {m : MethodId} {args : Array Value} {below : List Frame} {meth : Method} {c : Code} {D : va_G} {σ : Nat → Nat} {tA : Nat → ClassId} {A : Nat → Prop} {H0 : Heap} {cells slots : Nat} {Q : State → Prop} (hC : mCx M d scr p R s m args c D σ tA A H0) {pc n a b : Nat} {v : Nat} {r : List MEn} {z : List (Option Value)} {st : List Value} {μ : MMe} {S : MSt} (hk : mChk M.1.cls M.2.1 pc ((.istore v, n, a, b) :: r) = true) (h : mEx M.2.2.2.2 pc (.istore v) n a b r z st μ = some S) (k : mChk M.1.cls M.2.1 S.1 S.2.1 = true → mWk M p l e R s m args below meth c D σ tA A H0 cells slots Q S) : mWk M p l e R s m args below meth c D σ tA A H0 cells slots Q (pc, (.istore v, n, a, b) :: r, z, st, μ) := by
  obtain ⟨hd, ho, hr⟩ := mChk.head hk
  intro H locs ls hP hD hS hL
  obtain ⟨hx, hb, hml, hown, hts, hK, hA, hfr, hlo, hok, hsc⟩ := hC
  show W p l e R s m args below meth c H locs cells slots Q (F0 m pc ls (st.map (cV σ)))
  replace hD : va_D A (mW σ tA μ) := hD
  replace hP : va_P D cls_ (mW σ tA μ) H := hP
  replace hL : mL ls M.2.2.1 (cL σ z) := hL
  simp only [mEx] at h
  simp only [mOpd, Bool.and_eq_true, Nat.beq_eq, decide_eq_true_eq] at ho
  subst ho
  split at h
  rotate_left
  · cases h
  rename_i x t
  split at h
  rotate_left
  · cases h
  rename_i hg
  simp only [Bool.and_eq_true, Nat.blt_eq] at hg
  cases h
  refine lv_istore hx hb hd hL.1 (by rw [← hL.2, cL_len]; exact hg.1) rfl (fun ls' hls => ?_)
  exact k hr H locs ls' hP hD hS (by rw [cL_set]; exact mL.set1 (hL.2) (by rw [cL_s0]; exact hg.2) hls)
set_option maxHeartbeats 4000000 in
theorem mEx_astore_n {M : MB} {d : Nat} {scr : Option (Nat × (Nat → Int32))} {p : Program} {l : Launch} {e : Env} {R : Room} {s : State} {m : MethodId} {args : Array Value} {below : List Frame} {meth : Method} {c : Code} {D : va_G} {σ : Nat → Nat} {tA : Nat → ClassId} {A : Nat → Prop} {H0 : Heap} {cells slots : Nat} {Q : State → Prop} (hC : mCx M d scr p R s m args c D σ tA A H0) {pc n a b : Nat} {v : Fin 4} {r : List MEn} {z : List (Option Value)} {st : List Value} {μ : MMe} {S : MSt} (hk : mChk M.1.cls M.2.1 pc ((.astore_n v, n, a, b) :: r) = true) (h : mEx M.2.2.2.2 pc (.astore_n v) n a b r z st μ = some S) (k : mChk M.1.cls M.2.1 S.1 S.2.1 = true → mWk M p l e R s m args below meth c D σ tA A H0 cells slots Q S) : mWk M p l e R s m args below meth c D σ tA A H0 cells slots Q (pc, (.astore_n v, n, a, b) :: r, z, st, μ) := by
  obtain ⟨hd, ho, hr⟩ := mChk.head hk
  intro H locs ls hP hD hS hL
  obtain ⟨hx, hb, hml, hown, hts, hK, hA, hfr, hlo, hok, hsc⟩ := hC
  show W p l e R s m args below meth c H locs cells slots Q (F0 m pc ls (st.map (cV σ)))
  replace hD : va_D A (mW σ tA μ) := hD
  replace hP : va_P D cls_ (mW σ tA μ) H := hP
  replace hL : mL ls M.2.2.1 (cL σ z) := hL
  simp only [mEx] at h
  simp only [mOpd, Bool.and_eq_true, Nat.beq_eq, decide_eq_true_eq] at ho
  subst ho
  split at h
  rotate_left
  · cases h
  rename_i x t
  split at h
  rotate_left
  · cases h
  rename_i hg
  simp only [Bool.and_eq_true, Nat.blt_eq] at hg
  cases h
  refine lv_astore_n hx hb hd rfl hL.1 (by rw [← hL.2, cL_len]; exact hg.1) rfl (fun ls' hls => ?_)
  exact k hr H locs ls' hP hD hS (by rw [cL_set]; exact mL.set1 (hL.2) (by rw [cL_s0]; exact hg.2) hls)
set_option maxHeartbeats 4000000 in
theorem mEx_astore {M : MB} {d : Nat} {scr : Option (Nat × (Nat → Int32))} {p : Program} {l : Launch} {e : Env} {R : Room} {s : State} {m : MethodId} {args : Array Value} {below : List Frame} {meth : Method} {c : Code} {D : va_G} {σ : Nat → Nat} {tA : Nat → ClassId} {A : Nat → Prop} {H0 : Heap} {cells slots : Nat} {Q : State → Prop} (hC : mCx M d scr p R s m args c D σ tA A H0) {pc n a b : Nat} {v : Nat} {r : List MEn} {z : List (Option Value)} {st : List Value} {μ : MMe} {S : MSt} (hk : mChk M.1.cls M.2.1 pc ((.astore v, n, a, b) :: r) = true) (h : mEx M.2.2.2.2 pc (.astore v) n a b r z st μ = some S) (k : mChk M.1.cls M.2.1 S.1 S.2.1 = true → mWk M p l e R s m args below meth c D σ tA A H0 cells slots Q S) : mWk M p l e R s m args below meth c D σ tA A H0 cells slots Q (pc, (.astore v, n, a, b) :: r, z, st, μ) := by
  obtain ⟨hd, ho, hr⟩ := mChk.head hk
  intro H locs ls hP hD hS hL
  obtain ⟨hx, hb, hml, hown, hts, hK, hA, hfr, hlo, hok, hsc⟩ := hC
  show W p l e R s m args below meth c H locs cells slots Q (F0 m pc ls (st.map (cV σ)))
  replace hD : va_D A (mW σ tA μ) := hD
  replace hP : va_P D cls_ (mW σ tA μ) H := hP
  replace hL : mL ls M.2.2.1 (cL σ z) := hL
  simp only [mEx] at h
  simp only [mOpd, Bool.and_eq_true, Nat.beq_eq, decide_eq_true_eq] at ho
  subst ho
  split at h
  rotate_left
  · cases h
  rename_i x t
  split at h
  rotate_left
  · cases h
  rename_i hg
  simp only [Bool.and_eq_true, Nat.blt_eq] at hg
  cases h
  refine lv_astore hx hb hd hL.1 (by rw [← hL.2, cL_len]; exact hg.1) rfl (fun ls' hls => ?_)
  exact k hr H locs ls' hP hD hS (by rw [cL_set]; exact mL.set1 (hL.2) (by rw [cL_s0]; exact hg.2) hls)
set_option maxHeartbeats 4000000 in
theorem mEx_lstore_n {M : MB} {d : Nat} {scr : Option (Nat × (Nat → Int32))} {p : Program} {l : Launch} {e : Env} {R : Room} {s : State} {m : MethodId} {args : Array Value} {below : List Frame} {meth : Method} {c : Code} {D : va_G} {σ : Nat → Nat} {tA : Nat → ClassId} {A : Nat → Prop} {H0 : Heap} {cells slots : Nat} {Q : State → Prop} (hC : mCx M d scr p R s m args c D σ tA A H0) {pc n a b : Nat} {v : Fin 4} {r : List MEn} {z : List (Option Value)} {st : List Value} {μ : MMe} {S : MSt} (hk : mChk M.1.cls M.2.1 pc ((.lstore_n v, n, a, b) :: r) = true) (h : mEx M.2.2.2.2 pc (.lstore_n v) n a b r z st μ = some S) (k : mChk M.1.cls M.2.1 S.1 S.2.1 = true → mWk M p l e R s m args below meth c D σ tA A H0 cells slots Q S) : mWk M p l e R s m args below meth c D σ tA A H0 cells slots Q (pc, (.lstore_n v, n, a, b) :: r, z, st, μ) := by
  obtain ⟨hd, ho, hr⟩ := mChk.head hk
  intro H locs ls hP hD hS hL
  obtain ⟨hx, hb, hml, hown, hts, hK, hA, hfr, hlo, hok, hsc⟩ := hC
  show W p l e R s m args below meth c H locs cells slots Q (F0 m pc ls (st.map (cV σ)))
  replace hD : va_D A (mW σ tA μ) := hD
  replace hP : va_P D cls_ (mW σ tA μ) H := hP
  replace hL : mL ls M.2.2.1 (cL σ z) := hL
  simp only [mEx] at h
  simp only [mOpd, Bool.and_eq_true, Nat.beq_eq, decide_eq_true_eq] at ho
  subst ho
  split at h
  rotate_left
  · cases h
  rename_i x t
  split at h
  rotate_left
  · cases h
  rename_i hg
  simp only [Bool.and_eq_true, Nat.blt_eq] at hg
  cases h
  refine lv_lstore_n hx hb hd rfl hL.1 (by rw [← hL.2, cL_len]; exact hg.1) rfl (fun ls' hls => ?_)
  exact k hr H locs ls' hP hD hS (by rw [cL_set, cL_set]; exact mL.set2 (hL.2) (by rw [cL_s0]; exact hg.2) hls)
set_option maxHeartbeats 4000000 in
theorem mEx_lstore {M : MB} {d : Nat} {scr : Option (Nat × (Nat → Int32))} {p : Program} {l : Launch} {e : Env} {R : Room} {s : State} {m : MethodId} {args : Array Value} {below : List Frame} {meth : Method} {c : Code} {D : va_G} {σ : Nat → Nat} {tA : Nat → ClassId} {A : Nat → Prop} {H0 : Heap} {cells slots : Nat} {Q : State → Prop} (hC : mCx M d scr p R s m args c D σ tA A H0) {pc n a b : Nat} {v : Nat} {r : List MEn} {z : List (Option Value)} {st : List Value} {μ : MMe} {S : MSt} (hk : mChk M.1.cls M.2.1 pc ((.lstore v, n, a, b) :: r) = true) (h : mEx M.2.2.2.2 pc (.lstore v) n a b r z st μ = some S) (k : mChk M.1.cls M.2.1 S.1 S.2.1 = true → mWk M p l e R s m args below meth c D σ tA A H0 cells slots Q S) : mWk M p l e R s m args below meth c D σ tA A H0 cells slots Q (pc, (.lstore v, n, a, b) :: r, z, st, μ) := by
  obtain ⟨hd, ho, hr⟩ := mChk.head hk
  intro H locs ls hP hD hS hL
  obtain ⟨hx, hb, hml, hown, hts, hK, hA, hfr, hlo, hok, hsc⟩ := hC
  show W p l e R s m args below meth c H locs cells slots Q (F0 m pc ls (st.map (cV σ)))
  replace hD : va_D A (mW σ tA μ) := hD
  replace hP : va_P D cls_ (mW σ tA μ) H := hP
  replace hL : mL ls M.2.2.1 (cL σ z) := hL
  simp only [mEx] at h
  simp only [mOpd, Bool.and_eq_true, Nat.beq_eq, decide_eq_true_eq] at ho
  subst ho
  split at h
  rotate_left
  · cases h
  rename_i x t
  split at h
  rotate_left
  · cases h
  rename_i hg
  simp only [Bool.and_eq_true, Nat.blt_eq] at hg
  cases h
  refine lv_lstore hx hb hd hL.1 (by rw [← hL.2, cL_len]; exact hg.1) rfl (fun ls' hls => ?_)
  exact k hr H locs ls' hP hD hS (by rw [cL_set, cL_set]; exact mL.set2 (hL.2) (by rw [cL_s0]; exact hg.2) hls)
set_option maxHeartbeats 4000000 in
theorem mEx_iinc {M : MB} {d : Nat} {scr : Option (Nat × (Nat → Int32))} {p : Program} {l : Launch} {e : Env} {R : Room} {s : State} {m : MethodId} {args : Array Value} {below : List Frame} {meth : Method} {c : Code} {D : va_G} {σ : Nat → Nat} {tA : Nat → ClassId} {A : Nat → Prop} {H0 : Heap} {cells slots : Nat} {Q : State → Prop} (hC : mCx M d scr p R s m args c D σ tA A H0) {pc n a b : Nat} {v : Nat} {cc : Int} {r : List MEn} {z : List (Option Value)} {st : List Value} {μ : MMe} {S : MSt} (hk : mChk M.1.cls M.2.1 pc ((.iinc v cc, n, a, b) :: r) = true) (h : mEx M.2.2.2.2 pc (.iinc v cc) n a b r z st μ = some S) (k : mChk M.1.cls M.2.1 S.1 S.2.1 = true → mWk M p l e R s m args below meth c D σ tA A H0 cells slots Q S) : mWk M p l e R s m args below meth c D σ tA A H0 cells slots Q (pc, (.iinc v cc, n, a, b) :: r, z, st, μ) := by
  obtain ⟨hd, ho, hr⟩ := mChk.head hk
  intro H locs ls hP hD hS hL
  obtain ⟨hx, hb, hml, hown, hts, hK, hA, hfr, hlo, hok, hsc⟩ := hC
  show W p l e R s m args below meth c H locs cells slots Q (F0 m pc ls (st.map (cV σ)))
  replace hD : va_D A (mW σ tA μ) := hD
  replace hP : va_P D cls_ (mW σ tA μ) H := hP
  replace hL : mL ls M.2.2.1 (cL σ z) := hL
  simp only [mEx] at h
  simp only [mOpd, Bool.and_eq_true, Nat.beq_eq, decide_eq_true_eq] at ho
  obtain ⟨rfl, ho⟩ := ho
  split at h
  rotate_left
  · cases h
  rename_i x hz
  split at h
  rotate_left
  · cases h
  rename_i hg
  simp only [Bool.and_eq_true, Nat.blt_eq] at hg
  cases h
  obtain ⟨j, hj⟩ := List.getElem?_of_mem (mAs_iff.mpr (cL_at (σ := σ) hz))
  refine lv_iinc (v := x + mC cc) hx hb hd hL.1 (k := j) hj (by rw [ho]) (by rw [← hL.2, cL_len]; exact hg.1) rfl (fun ls' hls => ?_)
  exact k hr H locs ls' hP hD hS (by rw [cL_set]; exact mL.set1 (hL.2) (by rw [cL_s0]; exact hg.2) hls)
set_option maxHeartbeats 4000000 in
theorem mEx_iadd {M : MB} {d : Nat} {scr : Option (Nat × (Nat → Int32))} {p : Program} {l : Launch} {e : Env} {R : Room} {s : State} {m : MethodId} {args : Array Value} {below : List Frame} {meth : Method} {c : Code} {D : va_G} {σ : Nat → Nat} {tA : Nat → ClassId} {A : Nat → Prop} {H0 : Heap} {cells slots : Nat} {Q : State → Prop} (hC : mCx M d scr p R s m args c D σ tA A H0) {pc n a b : Nat} {r : List MEn} {z : List (Option Value)} {st : List Value} {μ : MMe} {S : MSt} (hk : mChk M.1.cls M.2.1 pc ((.iadd, n, a, b) :: r) = true) (h : mEx M.2.2.2.2 pc (.iadd) n a b r z st μ = some S) (k : mChk M.1.cls M.2.1 S.1 S.2.1 = true → mWk M p l e R s m args below meth c D σ tA A H0 cells slots Q S) : mWk M p l e R s m args below meth c D σ tA A H0 cells slots Q (pc, (.iadd, n, a, b) :: r, z, st, μ) := by
  obtain ⟨hd, ho, hr⟩ := mChk.head hk
  intro H locs ls hP hD hS hL
  obtain ⟨hx, hb, hml, hown, hts, hK, hA, hfr, hlo, hok, hsc⟩ := hC
  show W p l e R s m args below meth c H locs cells slots Q (F0 m pc ls (st.map (cV σ)))
  replace hD : va_D A (mW σ tA μ) := hD
  replace hP : va_P D cls_ (mW σ tA μ) H := hP
  replace hL : mL ls M.2.2.1 (cL σ z) := hL
  simp only [mEx] at h
  simp only [mOpd, Bool.and_eq_true, Nat.beq_eq, decide_eq_true_eq] at ho
  subst ho
  split at h
  rotate_left
  · cases h
  rename_i y x t
  cases h
  exact lv_iadd hx hb hd (k hr H locs ls hP hD hS hL)
set_option maxHeartbeats 4000000 in
theorem mEx_isub {M : MB} {d : Nat} {scr : Option (Nat × (Nat → Int32))} {p : Program} {l : Launch} {e : Env} {R : Room} {s : State} {m : MethodId} {args : Array Value} {below : List Frame} {meth : Method} {c : Code} {D : va_G} {σ : Nat → Nat} {tA : Nat → ClassId} {A : Nat → Prop} {H0 : Heap} {cells slots : Nat} {Q : State → Prop} (hC : mCx M d scr p R s m args c D σ tA A H0) {pc n a b : Nat} {r : List MEn} {z : List (Option Value)} {st : List Value} {μ : MMe} {S : MSt} (hk : mChk M.1.cls M.2.1 pc ((.isub, n, a, b) :: r) = true) (h : mEx M.2.2.2.2 pc (.isub) n a b r z st μ = some S) (k : mChk M.1.cls M.2.1 S.1 S.2.1 = true → mWk M p l e R s m args below meth c D σ tA A H0 cells slots Q S) : mWk M p l e R s m args below meth c D σ tA A H0 cells slots Q (pc, (.isub, n, a, b) :: r, z, st, μ) := by
  obtain ⟨hd, ho, hr⟩ := mChk.head hk
  intro H locs ls hP hD hS hL
  obtain ⟨hx, hb, hml, hown, hts, hK, hA, hfr, hlo, hok, hsc⟩ := hC
  show W p l e R s m args below meth c H locs cells slots Q (F0 m pc ls (st.map (cV σ)))
  replace hD : va_D A (mW σ tA μ) := hD
  replace hP : va_P D cls_ (mW σ tA μ) H := hP
  replace hL : mL ls M.2.2.1 (cL σ z) := hL
  simp only [mEx] at h
  simp only [mOpd, Bool.and_eq_true, Nat.beq_eq, decide_eq_true_eq] at ho
  subst ho
  split at h
  rotate_left
  · cases h
  rename_i y x t
  cases h
  exact lv_isub hx hb hd (k hr H locs ls hP hD hS hL)
set_option maxHeartbeats 4000000 in
theorem mEx_imul {M : MB} {d : Nat} {scr : Option (Nat × (Nat → Int32))} {p : Program} {l : Launch} {e : Env} {R : Room} {s : State} {m : MethodId} {args : Array Value} {below : List Frame} {meth : Method} {c : Code} {D : va_G} {σ : Nat → Nat} {tA : Nat → ClassId} {A : Nat → Prop} {H0 : Heap} {cells slots : Nat} {Q : State → Prop} (hC : mCx M d scr p R s m args c D σ tA A H0) {pc n a b : Nat} {r : List MEn} {z : List (Option Value)} {st : List Value} {μ : MMe} {S : MSt} (hk : mChk M.1.cls M.2.1 pc ((.imul, n, a, b) :: r) = true) (h : mEx M.2.2.2.2 pc (.imul) n a b r z st μ = some S) (k : mChk M.1.cls M.2.1 S.1 S.2.1 = true → mWk M p l e R s m args below meth c D σ tA A H0 cells slots Q S) : mWk M p l e R s m args below meth c D σ tA A H0 cells slots Q (pc, (.imul, n, a, b) :: r, z, st, μ) := by
  obtain ⟨hd, ho, hr⟩ := mChk.head hk
  intro H locs ls hP hD hS hL
  obtain ⟨hx, hb, hml, hown, hts, hK, hA, hfr, hlo, hok, hsc⟩ := hC
  show W p l e R s m args below meth c H locs cells slots Q (F0 m pc ls (st.map (cV σ)))
  replace hD : va_D A (mW σ tA μ) := hD
  replace hP : va_P D cls_ (mW σ tA μ) H := hP
  replace hL : mL ls M.2.2.1 (cL σ z) := hL
  simp only [mEx] at h
  simp only [mOpd, Bool.and_eq_true, Nat.beq_eq, decide_eq_true_eq] at ho
  subst ho
  split at h
  rotate_left
  · cases h
  rename_i y x t
  cases h
  exact lv_imul hx hb hd (k hr H locs ls hP hD hS hL)
set_option maxHeartbeats 4000000 in
theorem mEx_iand {M : MB} {d : Nat} {scr : Option (Nat × (Nat → Int32))} {p : Program} {l : Launch} {e : Env} {R : Room} {s : State} {m : MethodId} {args : Array Value} {below : List Frame} {meth : Method} {c : Code} {D : va_G} {σ : Nat → Nat} {tA : Nat → ClassId} {A : Nat → Prop} {H0 : Heap} {cells slots : Nat} {Q : State → Prop} (hC : mCx M d scr p R s m args c D σ tA A H0) {pc n a b : Nat} {r : List MEn} {z : List (Option Value)} {st : List Value} {μ : MMe} {S : MSt} (hk : mChk M.1.cls M.2.1 pc ((.iand, n, a, b) :: r) = true) (h : mEx M.2.2.2.2 pc (.iand) n a b r z st μ = some S) (k : mChk M.1.cls M.2.1 S.1 S.2.1 = true → mWk M p l e R s m args below meth c D σ tA A H0 cells slots Q S) : mWk M p l e R s m args below meth c D σ tA A H0 cells slots Q (pc, (.iand, n, a, b) :: r, z, st, μ) := by
  obtain ⟨hd, ho, hr⟩ := mChk.head hk
  intro H locs ls hP hD hS hL
  obtain ⟨hx, hb, hml, hown, hts, hK, hA, hfr, hlo, hok, hsc⟩ := hC
  show W p l e R s m args below meth c H locs cells slots Q (F0 m pc ls (st.map (cV σ)))
  replace hD : va_D A (mW σ tA μ) := hD
  replace hP : va_P D cls_ (mW σ tA μ) H := hP
  replace hL : mL ls M.2.2.1 (cL σ z) := hL
  simp only [mEx] at h
  simp only [mOpd, Bool.and_eq_true, Nat.beq_eq, decide_eq_true_eq] at ho
  subst ho
  split at h
  rotate_left
  · cases h
  rename_i y x t
  cases h
  exact lv_iand hx hb hd (k hr H locs ls hP hD hS hL)
set_option maxHeartbeats 4000000 in
theorem mEx_ladd {M : MB} {d : Nat} {scr : Option (Nat × (Nat → Int32))} {p : Program} {l : Launch} {e : Env} {R : Room} {s : State} {m : MethodId} {args : Array Value} {below : List Frame} {meth : Method} {c : Code} {D : va_G} {σ : Nat → Nat} {tA : Nat → ClassId} {A : Nat → Prop} {H0 : Heap} {cells slots : Nat} {Q : State → Prop} (hC : mCx M d scr p R s m args c D σ tA A H0) {pc n a b : Nat} {r : List MEn} {z : List (Option Value)} {st : List Value} {μ : MMe} {S : MSt} (hk : mChk M.1.cls M.2.1 pc ((.ladd, n, a, b) :: r) = true) (h : mEx M.2.2.2.2 pc (.ladd) n a b r z st μ = some S) (k : mChk M.1.cls M.2.1 S.1 S.2.1 = true → mWk M p l e R s m args below meth c D σ tA A H0 cells slots Q S) : mWk M p l e R s m args below meth c D σ tA A H0 cells slots Q (pc, (.ladd, n, a, b) :: r, z, st, μ) := by
  obtain ⟨hd, ho, hr⟩ := mChk.head hk
  intro H locs ls hP hD hS hL
  obtain ⟨hx, hb, hml, hown, hts, hK, hA, hfr, hlo, hok, hsc⟩ := hC
  show W p l e R s m args below meth c H locs cells slots Q (F0 m pc ls (st.map (cV σ)))
  replace hD : va_D A (mW σ tA μ) := hD
  replace hP : va_P D cls_ (mW σ tA μ) H := hP
  replace hL : mL ls M.2.2.1 (cL σ z) := hL
  simp only [mEx] at h
  simp only [mOpd, Bool.and_eq_true, Nat.beq_eq, decide_eq_true_eq] at ho
  subst ho
  split at h
  rotate_left
  · cases h
  rename_i y x t
  cases h
  exact lv_ladd hx hb hd (k hr H locs ls hP hD hS hL)
set_option maxHeartbeats 4000000 in
theorem mEx_lmul {M : MB} {d : Nat} {scr : Option (Nat × (Nat → Int32))} {p : Program} {l : Launch} {e : Env} {R : Room} {s : State} {m : MethodId} {args : Array Value} {below : List Frame} {meth : Method} {c : Code} {D : va_G} {σ : Nat → Nat} {tA : Nat → ClassId} {A : Nat → Prop} {H0 : Heap} {cells slots : Nat} {Q : State → Prop} (hC : mCx M d scr p R s m args c D σ tA A H0) {pc n a b : Nat} {r : List MEn} {z : List (Option Value)} {st : List Value} {μ : MMe} {S : MSt} (hk : mChk M.1.cls M.2.1 pc ((.lmul, n, a, b) :: r) = true) (h : mEx M.2.2.2.2 pc (.lmul) n a b r z st μ = some S) (k : mChk M.1.cls M.2.1 S.1 S.2.1 = true → mWk M p l e R s m args below meth c D σ tA A H0 cells slots Q S) : mWk M p l e R s m args below meth c D σ tA A H0 cells slots Q (pc, (.lmul, n, a, b) :: r, z, st, μ) := by
  obtain ⟨hd, ho, hr⟩ := mChk.head hk
  intro H locs ls hP hD hS hL
  obtain ⟨hx, hb, hml, hown, hts, hK, hA, hfr, hlo, hok, hsc⟩ := hC
  show W p l e R s m args below meth c H locs cells slots Q (F0 m pc ls (st.map (cV σ)))
  replace hD : va_D A (mW σ tA μ) := hD
  replace hP : va_P D cls_ (mW σ tA μ) H := hP
  replace hL : mL ls M.2.2.1 (cL σ z) := hL
  simp only [mEx] at h
  simp only [mOpd, Bool.and_eq_true, Nat.beq_eq, decide_eq_true_eq] at ho
  subst ho
  split at h
  rotate_left
  · cases h
  rename_i y x t
  cases h
  exact lv_lmul hx hb hd (k hr H locs ls hP hD hS hL)
set_option maxHeartbeats 4000000 in
theorem mEx_lcmp {M : MB} {d : Nat} {scr : Option (Nat × (Nat → Int32))} {p : Program} {l : Launch} {e : Env} {R : Room} {s : State} {m : MethodId} {args : Array Value} {below : List Frame} {meth : Method} {c : Code} {D : va_G} {σ : Nat → Nat} {tA : Nat → ClassId} {A : Nat → Prop} {H0 : Heap} {cells slots : Nat} {Q : State → Prop} (hC : mCx M d scr p R s m args c D σ tA A H0) {pc n a b : Nat} {r : List MEn} {z : List (Option Value)} {st : List Value} {μ : MMe} {S : MSt} (hk : mChk M.1.cls M.2.1 pc ((.lcmp, n, a, b) :: r) = true) (h : mEx M.2.2.2.2 pc (.lcmp) n a b r z st μ = some S) (k : mChk M.1.cls M.2.1 S.1 S.2.1 = true → mWk M p l e R s m args below meth c D σ tA A H0 cells slots Q S) : mWk M p l e R s m args below meth c D σ tA A H0 cells slots Q (pc, (.lcmp, n, a, b) :: r, z, st, μ) := by
  obtain ⟨hd, ho, hr⟩ := mChk.head hk
  intro H locs ls hP hD hS hL
  obtain ⟨hx, hb, hml, hown, hts, hK, hA, hfr, hlo, hok, hsc⟩ := hC
  show W p l e R s m args below meth c H locs cells slots Q (F0 m pc ls (st.map (cV σ)))
  replace hD : va_D A (mW σ tA μ) := hD
  replace hP : va_P D cls_ (mW σ tA μ) H := hP
  replace hL : mL ls M.2.2.1 (cL σ z) := hL
  simp only [mEx] at h
  simp only [mOpd, Bool.and_eq_true, Nat.beq_eq, decide_eq_true_eq] at ho
  subst ho
  split at h
  rotate_left
  · cases h
  rename_i y x t
  cases h
  exact W.lcmp hx hb hd (k hr H locs ls hP hD hS hL)
set_option maxHeartbeats 4000000 in
theorem mEx_ineg {M : MB} {d : Nat} {scr : Option (Nat × (Nat → Int32))} {p : Program} {l : Launch} {e : Env} {R : Room} {s : State} {m : MethodId} {args : Array Value} {below : List Frame} {meth : Method} {c : Code} {D : va_G} {σ : Nat → Nat} {tA : Nat → ClassId} {A : Nat → Prop} {H0 : Heap} {cells slots : Nat} {Q : State → Prop} (hC : mCx M d scr p R s m args c D σ tA A H0) {pc n a b : Nat} {r : List MEn} {z : List (Option Value)} {st : List Value} {μ : MMe} {S : MSt} (hk : mChk M.1.cls M.2.1 pc ((.ineg, n, a, b) :: r) = true) (h : mEx M.2.2.2.2 pc (.ineg) n a b r z st μ = some S) (k : mChk M.1.cls M.2.1 S.1 S.2.1 = true → mWk M p l e R s m args below meth c D σ tA A H0 cells slots Q S) : mWk M p l e R s m args below meth c D σ tA A H0 cells slots Q (pc, (.ineg, n, a, b) :: r, z, st, μ) := by
  obtain ⟨hd, ho, hr⟩ := mChk.head hk
  intro H locs ls hP hD hS hL
  obtain ⟨hx, hb, hml, hown, hts, hK, hA, hfr, hlo, hok, hsc⟩ := hC
  show W p l e R s m args below meth c H locs cells slots Q (F0 m pc ls (st.map (cV σ)))
  replace hD : va_D A (mW σ tA μ) := hD
  replace hP : va_P D cls_ (mW σ tA μ) H := hP
  replace hL : mL ls M.2.2.1 (cL σ z) := hL
  simp only [mEx] at h
  simp only [mOpd, Bool.and_eq_true, Nat.beq_eq, decide_eq_true_eq] at ho
  subst ho
  split at h
  rotate_left
  · cases h
  rename_i x t
  cases h
  exact lv_ineg hx hb hd (k hr H locs ls hP hD hS hL)
set_option maxHeartbeats 4000000 in
theorem mEx_i2l {M : MB} {d : Nat} {scr : Option (Nat × (Nat → Int32))} {p : Program} {l : Launch} {e : Env} {R : Room} {s : State} {m : MethodId} {args : Array Value} {below : List Frame} {meth : Method} {c : Code} {D : va_G} {σ : Nat → Nat} {tA : Nat → ClassId} {A : Nat → Prop} {H0 : Heap} {cells slots : Nat} {Q : State → Prop} (hC : mCx M d scr p R s m args c D σ tA A H0) {pc n a b : Nat} {r : List MEn} {z : List (Option Value)} {st : List Value} {μ : MMe} {S : MSt} (hk : mChk M.1.cls M.2.1 pc ((.i2l, n, a, b) :: r) = true) (h : mEx M.2.2.2.2 pc (.i2l) n a b r z st μ = some S) (k : mChk M.1.cls M.2.1 S.1 S.2.1 = true → mWk M p l e R s m args below meth c D σ tA A H0 cells slots Q S) : mWk M p l e R s m args below meth c D σ tA A H0 cells slots Q (pc, (.i2l, n, a, b) :: r, z, st, μ) := by
  obtain ⟨hd, ho, hr⟩ := mChk.head hk
  intro H locs ls hP hD hS hL
  obtain ⟨hx, hb, hml, hown, hts, hK, hA, hfr, hlo, hok, hsc⟩ := hC
  show W p l e R s m args below meth c H locs cells slots Q (F0 m pc ls (st.map (cV σ)))
  replace hD : va_D A (mW σ tA μ) := hD
  replace hP : va_P D cls_ (mW σ tA μ) H := hP
  replace hL : mL ls M.2.2.1 (cL σ z) := hL
  simp only [mEx] at h
  simp only [mOpd, Bool.and_eq_true, Nat.beq_eq, decide_eq_true_eq] at ho
  subst ho
  split at h
  rotate_left
  · cases h
  rename_i x t
  cases h
  exact lv_i2l hx hb hd rfl (k hr H locs ls hP hD hS hL)
set_option maxHeartbeats 4000000 in
theorem mEx_l2i {M : MB} {d : Nat} {scr : Option (Nat × (Nat → Int32))} {p : Program} {l : Launch} {e : Env} {R : Room} {s : State} {m : MethodId} {args : Array Value} {below : List Frame} {meth : Method} {c : Code} {D : va_G} {σ : Nat → Nat} {tA : Nat → ClassId} {A : Nat → Prop} {H0 : Heap} {cells slots : Nat} {Q : State → Prop} (hC : mCx M d scr p R s m args c D σ tA A H0) {pc n a b : Nat} {r : List MEn} {z : List (Option Value)} {st : List Value} {μ : MMe} {S : MSt} (hk : mChk M.1.cls M.2.1 pc ((.l2i, n, a, b) :: r) = true) (h : mEx M.2.2.2.2 pc (.l2i) n a b r z st μ = some S) (k : mChk M.1.cls M.2.1 S.1 S.2.1 = true → mWk M p l e R s m args below meth c D σ tA A H0 cells slots Q S) : mWk M p l e R s m args below meth c D σ tA A H0 cells slots Q (pc, (.l2i, n, a, b) :: r, z, st, μ) := by
  obtain ⟨hd, ho, hr⟩ := mChk.head hk
  intro H locs ls hP hD hS hL
  obtain ⟨hx, hb, hml, hown, hts, hK, hA, hfr, hlo, hok, hsc⟩ := hC
  show W p l e R s m args below meth c H locs cells slots Q (F0 m pc ls (st.map (cV σ)))
  replace hD : va_D A (mW σ tA μ) := hD
  replace hP : va_P D cls_ (mW σ tA μ) H := hP
  replace hL : mL ls M.2.2.1 (cL σ z) := hL
  simp only [mEx] at h
  simp only [mOpd, Bool.and_eq_true, Nat.beq_eq, decide_eq_true_eq] at ho
  subst ho
  split at h
  rotate_left
  · cases h
  rename_i x t
  cases h
  exact lv_l2i hx hb hd rfl (k hr H locs ls hP hD hS hL)
set_option maxHeartbeats 4000000 in
theorem mEx_idiv {M : MB} {d : Nat} {scr : Option (Nat × (Nat → Int32))} {p : Program} {l : Launch} {e : Env} {R : Room} {s : State} {m : MethodId} {args : Array Value} {below : List Frame} {meth : Method} {c : Code} {D : va_G} {σ : Nat → Nat} {tA : Nat → ClassId} {A : Nat → Prop} {H0 : Heap} {cells slots : Nat} {Q : State → Prop} (hC : mCx M d scr p R s m args c D σ tA A H0) {pc n a b : Nat} {r : List MEn} {z : List (Option Value)} {st : List Value} {μ : MMe} {S : MSt} (hk : mChk M.1.cls M.2.1 pc ((.idiv, n, a, b) :: r) = true) (h : mEx M.2.2.2.2 pc (.idiv) n a b r z st μ = some S) (k : mChk M.1.cls M.2.1 S.1 S.2.1 = true → mWk M p l e R s m args below meth c D σ tA A H0 cells slots Q S) : mWk M p l e R s m args below meth c D σ tA A H0 cells slots Q (pc, (.idiv, n, a, b) :: r, z, st, μ) := by
  obtain ⟨hd, ho, hr⟩ := mChk.head hk
  intro H locs ls hP hD hS hL
  obtain ⟨hx, hb, hml, hown, hts, hK, hA, hfr, hlo, hok, hsc⟩ := hC
  show W p l e R s m args below meth c H locs cells slots Q (F0 m pc ls (st.map (cV σ)))
  replace hD : va_D A (mW σ tA μ) := hD
  replace hP : va_P D cls_ (mW σ tA μ) H := hP
  replace hL : mL ls M.2.2.1 (cL σ z) := hL
  simp only [mEx] at h
  simp only [mOpd, Bool.and_eq_true, Nat.beq_eq, decide_eq_true_eq] at ho
  subst ho
  split at h
  rotate_left
  · cases h
  rename_i y x t
  split at h
  rotate_left
  · cases h
  rename_i hg
  cases h
  exact lv_idiv hx hb hd (by rw [← nI_0]; exact hg) (k hr H locs ls hP hD hS hL)
set_option maxHeartbeats 4000000 in
theorem mEx_irem {M : MB} {d : Nat} {scr : Option (Nat × (Nat → Int32))} {p : Program} {l : Launch} {e : Env} {R : Room} {s : State} {m : MethodId} {args : Array Value} {below : List Frame} {meth : Method} {c : Code} {D : va_G} {σ : Nat → Nat} {tA : Nat → ClassId} {A : Nat → Prop} {H0 : Heap} {cells slots : Nat} {Q : State → Prop} (hC : mCx M d scr p R s m args c D σ tA A H0) {pc n a b : Nat} {r : List MEn} {z : List (Option Value)} {st : List Value} {μ : MMe} {S : MSt} (hk : mChk M.1.cls M.2.1 pc ((.irem, n, a, b) :: r) = true) (h : mEx M.2.2.2.2 pc (.irem) n a b r z st μ = some S) (k : mChk M.1.cls M.2.1 S.1 S.2.1 = true → mWk M p l e R s m args below meth c D σ tA A H0 cells slots Q S) : mWk M p l e R s m args below meth c D σ tA A H0 cells slots Q (pc, (.irem, n, a, b) :: r, z, st, μ) := by
  obtain ⟨hd, ho, hr⟩ := mChk.head hk
  intro H locs ls hP hD hS hL
  obtain ⟨hx, hb, hml, hown, hts, hK, hA, hfr, hlo, hok, hsc⟩ := hC
  show W p l e R s m args below meth c H locs cells slots Q (F0 m pc ls (st.map (cV σ)))
  replace hD : va_D A (mW σ tA μ) := hD
  replace hP : va_P D cls_ (mW σ tA μ) H := hP
  replace hL : mL ls M.2.2.1 (cL σ z) := hL
  simp only [mEx] at h
  simp only [mOpd, Bool.and_eq_true, Nat.beq_eq, decide_eq_true_eq] at ho
  subst ho
  split at h
  rotate_left
  · cases h
  rename_i y x t
  split at h
  rotate_left
  · cases h
  rename_i hg
  cases h
  exact lv_irem hx hb hd (by rw [← nI_0]; exact hg) (k hr H locs ls hP hD hS hL)
set_option maxHeartbeats 4000000 in
theorem mEx_lrem {M : MB} {d : Nat} {scr : Option (Nat × (Nat → Int32))} {p : Program} {l : Launch} {e : Env} {R : Room} {s : State} {m : MethodId} {args : Array Value} {below : List Frame} {meth : Method} {c : Code} {D : va_G} {σ : Nat → Nat} {tA : Nat → ClassId} {A : Nat → Prop} {H0 : Heap} {cells slots : Nat} {Q : State → Prop} (hC : mCx M d scr p R s m args c D σ tA A H0) {pc n a b : Nat} {r : List MEn} {z : List (Option Value)} {st : List Value} {μ : MMe} {S : MSt} (hk : mChk M.1.cls M.2.1 pc ((.lrem, n, a, b) :: r) = true) (h : mEx M.2.2.2.2 pc (.lrem) n a b r z st μ = some S) (k : mChk M.1.cls M.2.1 S.1 S.2.1 = true → mWk M p l e R s m args below meth c D σ tA A H0 cells slots Q S) : mWk M p l e R s m args below meth c D σ tA A H0 cells slots Q (pc, (.lrem, n, a, b) :: r, z, st, μ) := by
  obtain ⟨hd, ho, hr⟩ := mChk.head hk
  intro H locs ls hP hD hS hL
  obtain ⟨hx, hb, hml, hown, hts, hK, hA, hfr, hlo, hok, hsc⟩ := hC
  show W p l e R s m args below meth c H locs cells slots Q (F0 m pc ls (st.map (cV σ)))
  replace hD : va_D A (mW σ tA μ) := hD
  replace hP : va_P D cls_ (mW σ tA μ) H := hP
  replace hL : mL ls M.2.2.1 (cL σ z) := hL
  simp only [mEx] at h
  simp only [mOpd, Bool.and_eq_true, Nat.beq_eq, decide_eq_true_eq] at ho
  subst ho
  split at h
  rotate_left
  · cases h
  rename_i y x t
  split at h
  rotate_left
  · cases h
  rename_i hg
  cases h
  exact lv_lrem hx hb hd (by exact hg) (k hr H locs ls hP hD hS hL)
set_option maxHeartbeats 4000000 in
theorem mEx_dup {M : MB} {d : Nat} {scr : Option (Nat × (Nat → Int32))} {p : Program} {l : Launch} {e : Env} {R : Room} {s : State} {m : MethodId} {args : Array Value} {below : List Frame} {meth : Method} {c : Code} {D : va_G} {σ : Nat → Nat} {tA : Nat → ClassId} {A : Nat → Prop} {H0 : Heap} {cells slots : Nat} {Q : State → Prop} (hC : mCx M d scr p R s m args c D σ tA A H0) {pc n a b : Nat} {r : List MEn} {z : List (Option Value)} {st : List Value} {μ : MMe} {S : MSt} (hk : mChk M.1.cls M.2.1 pc ((.dup, n, a, b) :: r) = true) (h : mEx M.2.2.2.2 pc (.dup) n a b r z st μ = some S) (k : mChk M.1.cls M.2.1 S.1 S.2.1 = true → mWk M p l e R s m args below meth c D σ tA A H0 cells slots Q S) : mWk M p l e R s m args below meth c D σ tA A H0 cells slots Q (pc, (.dup, n, a, b) :: r, z, st, μ) := by
  obtain ⟨hd, ho, hr⟩ := mChk.head hk
  intro H locs ls hP hD hS hL
  obtain ⟨hx, hb, hml, hown, hts, hK, hA, hfr, hlo, hok, hsc⟩ := hC
  show W p l e R s m args below meth c H locs cells slots Q (F0 m pc ls (st.map (cV σ)))
  replace hD : va_D A (mW σ tA μ) := hD
  replace hP : va_P D cls_ (mW σ tA μ) H := hP
  replace hL : mL ls M.2.2.1 (cL σ z) := hL
  simp only [mEx] at h
  simp only [mOpd, Bool.and_eq_true, Nat.beq_eq, decide_eq_true_eq] at ho
  subst ho
  split at h
  · rename_i x t
    cases h
    exact lv_dup hx hb hd rfl (k hr H locs ls hP hD hS hL)
  · rename_i x t
    cases h
    exact lv_dup hx hb hd rfl (k hr H locs ls hP hD hS hL)
  · cases h
set_option maxHeartbeats 4000000 in
theorem mEx_dup2 {M : MB} {d : Nat} {scr : Option (Nat × (Nat → Int32))} {p : Program} {l : Launch} {e : Env} {R : Room} {s : State} {m : MethodId} {args : Array Value} {below : List Frame} {meth : Method} {c : Code} {D : va_G} {σ : Nat → Nat} {tA : Nat → ClassId} {A : Nat → Prop} {H0 : Heap} {cells slots : Nat} {Q : State → Prop} (hC : mCx M d scr p R s m args c D σ tA A H0) {pc n a b : Nat} {r : List MEn} {z : List (Option Value)} {st : List Value} {μ : MMe} {S : MSt} (hk : mChk M.1.cls M.2.1 pc ((.dup2, n, a, b) :: r) = true) (h : mEx M.2.2.2.2 pc (.dup2) n a b r z st μ = some S) (k : mChk M.1.cls M.2.1 S.1 S.2.1 = true → mWk M p l e R s m args below meth c D σ tA A H0 cells slots Q S) : mWk M p l e R s m args below meth c D σ tA A H0 cells slots Q (pc, (.dup2, n, a, b) :: r, z, st, μ) := by
  obtain ⟨hd, ho, hr⟩ := mChk.head hk
  intro H locs ls hP hD hS hL
  obtain ⟨hx, hb, hml, hown, hts, hK, hA, hfr, hlo, hok, hsc⟩ := hC
  show W p l e R s m args below meth c H locs cells slots Q (F0 m pc ls (st.map (cV σ)))
  replace hD : va_D A (mW σ tA μ) := hD
  replace hP : va_P D cls_ (mW σ tA μ) H := hP
  replace hL : mL ls M.2.2.1 (cL σ z) := hL
  simp only [mEx] at h
  simp only [mOpd, Bool.and_eq_true, Nat.beq_eq, decide_eq_true_eq] at ho
  subst ho
  split at h
  rotate_left
  · cases h
  rename_i x y t
  cases h
  exact lv_dup2_11 hx hb hd rfl rfl (k hr H locs ls hP hD hS hL)
set_option maxHeartbeats 4000000 in
theorem mEx_pop {M : MB} {d : Nat} {scr : Option (Nat × (Nat → Int32))} {p : Program} {l : Launch} {e : Env} {R : Room} {s : State} {m : MethodId} {args : Array Value} {below : List Frame} {meth : Method} {c : Code} {D : va_G} {σ : Nat → Nat} {tA : Nat → ClassId} {A : Nat → Prop} {H0 : Heap} {cells slots : Nat} {Q : State → Prop} (hC : mCx M d scr p R s m args c D σ tA A H0) {pc n a b : Nat} {r : List MEn} {z : List (Option Value)} {st : List Value} {μ : MMe} {S : MSt} (hk : mChk M.1.cls M.2.1 pc ((.pop, n, a, b) :: r) = true) (h : mEx M.2.2.2.2 pc (.pop) n a b r z st μ = some S) (k : mChk M.1.cls M.2.1 S.1 S.2.1 = true → mWk M p l e R s m args below meth c D σ tA A H0 cells slots Q S) : mWk M p l e R s m args below meth c D σ tA A H0 cells slots Q (pc, (.pop, n, a, b) :: r, z, st, μ) := by
  obtain ⟨hd, ho, hr⟩ := mChk.head hk
  intro H locs ls hP hD hS hL
  obtain ⟨hx, hb, hml, hown, hts, hK, hA, hfr, hlo, hok, hsc⟩ := hC
  show W p l e R s m args below meth c H locs cells slots Q (F0 m pc ls (st.map (cV σ)))
  replace hD : va_D A (mW σ tA μ) := hD
  replace hP : va_P D cls_ (mW σ tA μ) H := hP
  replace hL : mL ls M.2.2.1 (cL σ z) := hL
  simp only [mEx] at h
  simp only [mOpd, Bool.and_eq_true, Nat.beq_eq, decide_eq_true_eq] at ho
  subst ho
  split at h
  rotate_left
  · cases h
  rename_i x t
  cases h
  exact lv_pop hx hb hd rfl (k hr H locs ls hP hD hS hL)
set_option maxHeartbeats 4000000 in
theorem mEx_goto {M : MB} {d : Nat} {scr : Option (Nat × (Nat → Int32))} {p : Program} {l : Launch} {e : Env} {R : Room} {s : State} {m : MethodId} {args : Array Value} {below : List Frame} {meth : Method} {c : Code} {D : va_G} {σ : Nat → Nat} {tA : Nat → ClassId} {A : Nat → Prop} {H0 : Heap} {cells slots : Nat} {Q : State → Prop} (hC : mCx M d scr p R s m args c D σ tA A H0) {pc n a b : Nat} {off : Int} {r : List MEn} {z : List (Option Value)} {st : List Value} {μ : MMe} {S : MSt} (hk : mChk M.1.cls M.2.1 pc ((.goto off, n, a, b) :: r) = true) (h : mEx M.2.2.2.2 pc (.goto off) n a b r z st μ = some S) (k : mChk M.1.cls M.2.1 S.1 S.2.1 = true → mWk M p l e R s m args below meth c D σ tA A H0 cells slots Q S) : mWk M p l e R s m args below meth c D σ tA A H0 cells slots Q (pc, (.goto off, n, a, b) :: r, z, st, μ) := by
  obtain ⟨hd, ho, hr⟩ := mChk.head hk
  intro H locs ls hP hD hS hL
  obtain ⟨hx, hb, hml, hown, hts, hK, hA, hfr, hlo, hok, hsc⟩ := hC
  show W p l e R s m args below meth c H locs cells slots Q (F0 m pc ls (st.map (cV σ)))
  replace hD : va_D A (mW σ tA μ) := hD
  replace hP : va_P D cls_ (mW σ tA μ) H := hP
  replace hL : mL ls M.2.2.1 (cL σ z) := hL
  simp only [mEx] at h
  simp only [mOpd, Bool.and_eq_true, Nat.beq_eq, decide_eq_true_eq] at ho
  obtain ⟨rfl, ho⟩ := ho
  cases h
  exact lv_goto hx hb hd ho (k (hok.at a) H locs ls hP hD hS hL)
set_option maxHeartbeats 4000000 in
theorem mEx_if_eq {M : MB} {d : Nat} {scr : Option (Nat × (Nat → Int32))} {p : Program} {l : Launch} {e : Env} {R : Room} {s : State} {m : MethodId} {args : Array Value} {below : List Frame} {meth : Method} {c : Code} {D : va_G} {σ : Nat → Nat} {tA : Nat → ClassId} {A : Nat → Prop} {H0 : Heap} {cells slots : Nat} {Q : State → Prop} (hC : mCx M d scr p R s m args c D σ tA A H0) {pc n a b : Nat} {off : Int} {r : List MEn} {z : List (Option Value)} {st : List Value} {μ : MMe} {S : MSt} (hk : mChk M.1.cls M.2.1 pc ((.ifCond .eq off, n, a, b) :: r) = true) (h : mEx M.2.2.2.2 pc (.ifCond .eq off) n a b r z st μ = some S) (k : mChk M.1.cls M.2.1 S.1 S.2.1 = true → mWk M p l e R s m args below meth c D σ tA A H0 cells slots Q S) : mWk M p l e R s m args below meth c D σ tA A H0 cells slots Q (pc, (.ifCond .eq off, n, a, b) :: r, z, st, μ) := by
  obtain ⟨hd, ho, hr⟩ := mChk.head hk
  intro H locs ls hP hD hS hL
  obtain ⟨hx, hb, hml, hown, hts, hK, hA, hfr, hlo, hok, hsc⟩ := hC
  show W p l e R s m args below meth c H locs cells slots Q (F0 m pc ls (st.map (cV σ)))
  replace hD : va_D A (mW σ tA μ) := hD
  replace hP : va_P D cls_ (mW σ tA μ) H := hP
  replace hL : mL ls M.2.2.1 (cL σ z) := hL
  simp only [mEx] at h
  simp only [mOpd, Bool.and_eq_true, Nat.beq_eq, decide_eq_true_eq] at ho
  obtain ⟨rfl, ho⟩ := ho
  split at h
  rotate_left
  · cases h
  rename_i x t
  cases h
  rw [nI_0] at k
  refine lv_if_eq hx hb hd ho (fun q => ?_) (fun q => ?_)
  · rw [if_pos q] at k
    exact k (hok.at a) H locs ls hP hD hS hL
  · rw [if_neg q] at k
    exact k hr H locs ls hP hD hS hL
set_option maxHeartbeats 4000000 in
theorem mEx_icmp_eq {M : MB} {d : Nat} {scr : Option (Nat × (Nat → Int32))} {p : Program} {l : Launch} {e : Env} {R : Room} {s : State} {m : MethodId} {args : Array Value} {below : List Frame} {meth : Method} {c : Code} {D : va_G} {σ : Nat → Nat} {tA : Nat → ClassId} {A : Nat → Prop} {H0 : Heap} {cells slots : Nat} {Q : State → Prop} (hC : mCx M d scr p R s m args c D σ tA A H0) {pc n a b : Nat} {off : Int} {r : List MEn} {z : List (Option Value)} {st : List Value} {μ : MMe} {S : MSt} (hk : mChk M.1.cls M.2.1 pc ((.if_icmp .eq off, n, a, b) :: r) = true) (h : mEx M.2.2.2.2 pc (.if_icmp .eq off) n a b r z st μ = some S) (k : mChk M.1.cls M.2.1 S.1 S.2.1 = true → mWk M p l e R s m args below meth c D σ tA A H0 cells slots Q S) : mWk M p l e R s m args below meth c D σ tA A H0 cells slots Q (pc, (.if_icmp .eq off, n, a, b) :: r, z, st, μ) := by
  obtain ⟨hd, ho, hr⟩ := mChk.head hk
  intro H locs ls hP hD hS hL
  obtain ⟨hx, hb, hml, hown, hts, hK, hA, hfr, hlo, hok, hsc⟩ := hC
  show W p l e R s m args below meth c H locs cells slots Q (F0 m pc ls (st.map (cV σ)))
  replace hD : va_D A (mW σ tA μ) := hD
  replace hP : va_P D cls_ (mW σ tA μ) H := hP
  replace hL : mL ls M.2.2.1 (cL σ z) := hL
  simp only [mEx] at h
  simp only [mOpd, Bool.and_eq_true, Nat.beq_eq, decide_eq_true_eq] at ho
  obtain ⟨rfl, ho⟩ := ho
  split at h
  rotate_left
  · cases h
  rename_i y x t
  cases h
  refine lv_icmp_eq hx hb hd ho (fun q => ?_) (fun q => ?_)
  · rw [if_pos q] at k
    exact k (hok.at a) H locs ls hP hD hS hL
  · rw [if_neg q] at k
    exact k hr H locs ls hP hD hS hL
set_option maxHeartbeats 4000000 in
theorem mEx_if_ne {M : MB} {d : Nat} {scr : Option (Nat × (Nat → Int32))} {p : Program} {l : Launch} {e : Env} {R : Room} {s : State} {m : MethodId} {args : Array Value} {below : List Frame} {meth : Method} {c : Code} {D : va_G} {σ : Nat → Nat} {tA : Nat → ClassId} {A : Nat → Prop} {H0 : Heap} {cells slots : Nat} {Q : State → Prop} (hC : mCx M d scr p R s m args c D σ tA A H0) {pc n a b : Nat} {off : Int} {r : List MEn} {z : List (Option Value)} {st : List Value} {μ : MMe} {S : MSt} (hk : mChk M.1.cls M.2.1 pc ((.ifCond .ne off, n, a, b) :: r) = true) (h : mEx M.2.2.2.2 pc (.ifCond .ne off) n a b r z st μ = some S) (k : mChk M.1.cls M.2.1 S.1 S.2.1 = true → mWk M p l e R s m args below meth c D σ tA A H0 cells slots Q S) : mWk M p l e R s m args below meth c D σ tA A H0 cells slots Q (pc, (.ifCond .ne off, n, a, b) :: r, z, st, μ) := by
  obtain ⟨hd, ho, hr⟩ := mChk.head hk
  intro H locs ls hP hD hS hL
  obtain ⟨hx, hb, hml, hown, hts, hK, hA, hfr, hlo, hok, hsc⟩ := hC
  show W p l e R s m args below meth c H locs cells slots Q (F0 m pc ls (st.map (cV σ)))
  replace hD : va_D A (mW σ tA μ) := hD
  replace hP : va_P D cls_ (mW σ tA μ) H := hP
  replace hL : mL ls M.2.2.1 (cL σ z) := hL
  simp only [mEx] at h
  simp only [mOpd, Bool.and_eq_true, Nat.beq_eq, decide_eq_true_eq] at ho
  obtain ⟨rfl, ho⟩ := ho
  split at h
  rotate_left
  · cases h
  rename_i x t
  cases h
  rw [nI_0] at k
  refine lv_if_ne hx hb hd ho (fun q => ?_) (fun q => ?_)
  · rw [if_pos q] at k
    exact k (hok.at a) H locs ls hP hD hS hL
  · rw [if_neg (fun z => z q)] at k
    exact k hr H locs ls hP hD hS hL
set_option maxHeartbeats 4000000 in
theorem mEx_icmp_ne {M : MB} {d : Nat} {scr : Option (Nat × (Nat → Int32))} {p : Program} {l : Launch} {e : Env} {R : Room} {s : State} {m : MethodId} {args : Array Value} {below : List Frame} {meth : Method} {c : Code} {D : va_G} {σ : Nat → Nat} {tA : Nat → ClassId} {A : Nat → Prop} {H0 : Heap} {cells slots : Nat} {Q : State → Prop} (hC : mCx M d scr p R s m args c D σ tA A H0) {pc n a b : Nat} {off : Int} {r : List MEn} {z : List (Option Value)} {st : List Value} {μ : MMe} {S : MSt} (hk : mChk M.1.cls M.2.1 pc ((.if_icmp .ne off, n, a, b) :: r) = true) (h : mEx M.2.2.2.2 pc (.if_icmp .ne off) n a b r z st μ = some S) (k : mChk M.1.cls M.2.1 S.1 S.2.1 = true → mWk M p l e R s m args below meth c D σ tA A H0 cells slots Q S) : mWk M p l e R s m args below meth c D σ tA A H0 cells slots Q (pc, (.if_icmp .ne off, n, a, b) :: r, z, st, μ) := by
  obtain ⟨hd, ho, hr⟩ := mChk.head hk
  intro H locs ls hP hD hS hL
  obtain ⟨hx, hb, hml, hown, hts, hK, hA, hfr, hlo, hok, hsc⟩ := hC
  show W p l e R s m args below meth c H locs cells slots Q (F0 m pc ls (st.map (cV σ)))
  replace hD : va_D A (mW σ tA μ) := hD
  replace hP : va_P D cls_ (mW σ tA μ) H := hP
  replace hL : mL ls M.2.2.1 (cL σ z) := hL
  simp only [mEx] at h
  simp only [mOpd, Bool.and_eq_true, Nat.beq_eq, decide_eq_true_eq] at ho
  obtain ⟨rfl, ho⟩ := ho
  split at h
  rotate_left
  · cases h
  rename_i y x t
  cases h
  refine lv_icmp_ne hx hb hd ho (fun q => ?_) (fun q => ?_)
  · rw [if_pos q] at k
    exact k (hok.at a) H locs ls hP hD hS hL
  · rw [if_neg (fun z => z q)] at k
    exact k hr H locs ls hP hD hS hL
set_option maxHeartbeats 4000000 in
theorem mEx_if_lt {M : MB} {d : Nat} {scr : Option (Nat × (Nat → Int32))} {p : Program} {l : Launch} {e : Env} {R : Room} {s : State} {m : MethodId} {args : Array Value} {below : List Frame} {meth : Method} {c : Code} {D : va_G} {σ : Nat → Nat} {tA : Nat → ClassId} {A : Nat → Prop} {H0 : Heap} {cells slots : Nat} {Q : State → Prop} (hC : mCx M d scr p R s m args c D σ tA A H0) {pc n a b : Nat} {off : Int} {r : List MEn} {z : List (Option Value)} {st : List Value} {μ : MMe} {S : MSt} (hk : mChk M.1.cls M.2.1 pc ((.ifCond .lt off, n, a, b) :: r) = true) (h : mEx M.2.2.2.2 pc (.ifCond .lt off) n a b r z st μ = some S) (k : mChk M.1.cls M.2.1 S.1 S.2.1 = true → mWk M p l e R s m args below meth c D σ tA A H0 cells slots Q S) : mWk M p l e R s m args below meth c D σ tA A H0 cells slots Q (pc, (.ifCond .lt off, n, a, b) :: r, z, st, μ) := by
  obtain ⟨hd, ho, hr⟩ := mChk.head hk
  intro H locs ls hP hD hS hL
  obtain ⟨hx, hb, hml, hown, hts, hK, hA, hfr, hlo, hok, hsc⟩ := hC
  show W p l e R s m args below meth c H locs cells slots Q (F0 m pc ls (st.map (cV σ)))
  replace hD : va_D A (mW σ tA μ) := hD
  replace hP : va_P D cls_ (mW σ tA μ) H := hP
  replace hL : mL ls M.2.2.1 (cL σ z) := hL
  simp only [mEx] at h
  simp only [mOpd, Bool.and_eq_true, Nat.beq_eq, decide_eq_true_eq] at ho
  obtain ⟨rfl, ho⟩ := ho
  split at h
  rotate_left
  · cases h
  rename_i x t
  cases h
  rw [nI_0] at k
  refine lv_if_lt hx hb hd ho (fun q => ?_) (fun q => ?_)
  · rw [if_pos q] at k
    exact k (hok.at a) H locs ls hP hD hS hL
  · rw [if_neg q] at k
    exact k hr H locs ls hP hD hS hL
set_option maxHeartbeats 4000000 in
theorem mEx_icmp_lt {M : MB} {d : Nat} {scr : Option (Nat × (Nat → Int32))} {p : Program} {l : Launch} {e : Env} {R : Room} {s : State} {m : MethodId} {args : Array Value} {below : List Frame} {meth : Method} {c : Code} {D : va_G} {σ : Nat → Nat} {tA : Nat → ClassId} {A : Nat → Prop} {H0 : Heap} {cells slots : Nat} {Q : State → Prop} (hC : mCx M d scr p R s m args c D σ tA A H0) {pc n a b : Nat} {off : Int} {r : List MEn} {z : List (Option Value)} {st : List Value} {μ : MMe} {S : MSt} (hk : mChk M.1.cls M.2.1 pc ((.if_icmp .lt off, n, a, b) :: r) = true) (h : mEx M.2.2.2.2 pc (.if_icmp .lt off) n a b r z st μ = some S) (k : mChk M.1.cls M.2.1 S.1 S.2.1 = true → mWk M p l e R s m args below meth c D σ tA A H0 cells slots Q S) : mWk M p l e R s m args below meth c D σ tA A H0 cells slots Q (pc, (.if_icmp .lt off, n, a, b) :: r, z, st, μ) := by
  obtain ⟨hd, ho, hr⟩ := mChk.head hk
  intro H locs ls hP hD hS hL
  obtain ⟨hx, hb, hml, hown, hts, hK, hA, hfr, hlo, hok, hsc⟩ := hC
  show W p l e R s m args below meth c H locs cells slots Q (F0 m pc ls (st.map (cV σ)))
  replace hD : va_D A (mW σ tA μ) := hD
  replace hP : va_P D cls_ (mW σ tA μ) H := hP
  replace hL : mL ls M.2.2.1 (cL σ z) := hL
  simp only [mEx] at h
  simp only [mOpd, Bool.and_eq_true, Nat.beq_eq, decide_eq_true_eq] at ho
  obtain ⟨rfl, ho⟩ := ho
  split at h
  rotate_left
  · cases h
  rename_i y x t
  cases h
  refine lv_icmp_lt hx hb hd ho (fun q => ?_) (fun q => ?_)
  · rw [if_pos q] at k
    exact k (hok.at a) H locs ls hP hD hS hL
  · rw [if_neg q] at k
    exact k hr H locs ls hP hD hS hL
set_option maxHeartbeats 4000000 in
theorem mEx_if_ge {M : MB} {d : Nat} {scr : Option (Nat × (Nat → Int32))} {p : Program} {l : Launch} {e : Env} {R : Room} {s : State} {m : MethodId} {args : Array Value} {below : List Frame} {meth : Method} {c : Code} {D : va_G} {σ : Nat → Nat} {tA : Nat → ClassId} {A : Nat → Prop} {H0 : Heap} {cells slots : Nat} {Q : State → Prop} (hC : mCx M d scr p R s m args c D σ tA A H0) {pc n a b : Nat} {off : Int} {r : List MEn} {z : List (Option Value)} {st : List Value} {μ : MMe} {S : MSt} (hk : mChk M.1.cls M.2.1 pc ((.ifCond .ge off, n, a, b) :: r) = true) (h : mEx M.2.2.2.2 pc (.ifCond .ge off) n a b r z st μ = some S) (k : mChk M.1.cls M.2.1 S.1 S.2.1 = true → mWk M p l e R s m args below meth c D σ tA A H0 cells slots Q S) : mWk M p l e R s m args below meth c D σ tA A H0 cells slots Q (pc, (.ifCond .ge off, n, a, b) :: r, z, st, μ) := by
  obtain ⟨hd, ho, hr⟩ := mChk.head hk
  intro H locs ls hP hD hS hL
  obtain ⟨hx, hb, hml, hown, hts, hK, hA, hfr, hlo, hok, hsc⟩ := hC
  show W p l e R s m args below meth c H locs cells slots Q (F0 m pc ls (st.map (cV σ)))
  replace hD : va_D A (mW σ tA μ) := hD
  replace hP : va_P D cls_ (mW σ tA μ) H := hP
  replace hL : mL ls M.2.2.1 (cL σ z) := hL
  simp only [mEx] at h
  simp only [mOpd, Bool.and_eq_true, Nat.beq_eq, decide_eq_true_eq] at ho
  obtain ⟨rfl, ho⟩ := ho
  split at h
  rotate_left
  · cases h
  rename_i x t
  cases h
  rw [nI_0] at k
  refine lv_if_ge hx hb hd ho (fun q => ?_) (fun q => ?_)
  · rw [if_pos q] at k
    exact k (hok.at a) H locs ls hP hD hS hL
  · rw [if_neg q] at k
    exact k hr H locs ls hP hD hS hL
set_option maxHeartbeats 4000000 in
theorem mEx_icmp_ge {M : MB} {d : Nat} {scr : Option (Nat × (Nat → Int32))} {p : Program} {l : Launch} {e : Env} {R : Room} {s : State} {m : MethodId} {args : Array Value} {below : List Frame} {meth : Method} {c : Code} {D : va_G} {σ : Nat → Nat} {tA : Nat → ClassId} {A : Nat → Prop} {H0 : Heap} {cells slots : Nat} {Q : State → Prop} (hC : mCx M d scr p R s m args c D σ tA A H0) {pc n a b : Nat} {off : Int} {r : List MEn} {z : List (Option Value)} {st : List Value} {μ : MMe} {S : MSt} (hk : mChk M.1.cls M.2.1 pc ((.if_icmp .ge off, n, a, b) :: r) = true) (h : mEx M.2.2.2.2 pc (.if_icmp .ge off) n a b r z st μ = some S) (k : mChk M.1.cls M.2.1 S.1 S.2.1 = true → mWk M p l e R s m args below meth c D σ tA A H0 cells slots Q S) : mWk M p l e R s m args below meth c D σ tA A H0 cells slots Q (pc, (.if_icmp .ge off, n, a, b) :: r, z, st, μ) := by
  obtain ⟨hd, ho, hr⟩ := mChk.head hk
  intro H locs ls hP hD hS hL
  obtain ⟨hx, hb, hml, hown, hts, hK, hA, hfr, hlo, hok, hsc⟩ := hC
  show W p l e R s m args below meth c H locs cells slots Q (F0 m pc ls (st.map (cV σ)))
  replace hD : va_D A (mW σ tA μ) := hD
  replace hP : va_P D cls_ (mW σ tA μ) H := hP
  replace hL : mL ls M.2.2.1 (cL σ z) := hL
  simp only [mEx] at h
  simp only [mOpd, Bool.and_eq_true, Nat.beq_eq, decide_eq_true_eq] at ho
  obtain ⟨rfl, ho⟩ := ho
  split at h
  rotate_left
  · cases h
  rename_i y x t
  cases h
  refine lv_icmp_ge hx hb hd ho (fun q => ?_) (fun q => ?_)
  · rw [if_pos q] at k
    exact k (hok.at a) H locs ls hP hD hS hL
  · rw [if_neg q] at k
    exact k hr H locs ls hP hD hS hL
set_option maxHeartbeats 4000000 in
theorem mEx_if_gt {M : MB} {d : Nat} {scr : Option (Nat × (Nat → Int32))} {p : Program} {l : Launch} {e : Env} {R : Room} {s : State} {m : MethodId} {args : Array Value} {below : List Frame} {meth : Method} {c : Code} {D : va_G} {σ : Nat → Nat} {tA : Nat → ClassId} {A : Nat → Prop} {H0 : Heap} {cells slots : Nat} {Q : State → Prop} (hC : mCx M d scr p R s m args c D σ tA A H0) {pc n a b : Nat} {off : Int} {r : List MEn} {z : List (Option Value)} {st : List Value} {μ : MMe} {S : MSt} (hk : mChk M.1.cls M.2.1 pc ((.ifCond .gt off, n, a, b) :: r) = true) (h : mEx M.2.2.2.2 pc (.ifCond .gt off) n a b r z st μ = some S) (k : mChk M.1.cls M.2.1 S.1 S.2.1 = true → mWk M p l e R s m args below meth c D σ tA A H0 cells slots Q S) : mWk M p l e R s m args below meth c D σ tA A H0 cells slots Q (pc, (.ifCond .gt off, n, a, b) :: r, z, st, μ) := by
  obtain ⟨hd, ho, hr⟩ := mChk.head hk
  intro H locs ls hP hD hS hL
  obtain ⟨hx, hb, hml, hown, hts, hK, hA, hfr, hlo, hok, hsc⟩ := hC
  show W p l e R s m args below meth c H locs cells slots Q (F0 m pc ls (st.map (cV σ)))
  replace hD : va_D A (mW σ tA μ) := hD
  replace hP : va_P D cls_ (mW σ tA μ) H := hP
  replace hL : mL ls M.2.2.1 (cL σ z) := hL
  simp only [mEx] at h
  simp only [mOpd, Bool.and_eq_true, Nat.beq_eq, decide_eq_true_eq] at ho
  obtain ⟨rfl, ho⟩ := ho
  split at h
  rotate_left
  · cases h
  rename_i x t
  cases h
  rw [nI_0] at k
  refine lv_if_gt hx hb hd ho (fun q => ?_) (fun q => ?_)
  · rw [if_pos q] at k
    exact k (hok.at a) H locs ls hP hD hS hL
  · rw [if_neg q] at k
    exact k hr H locs ls hP hD hS hL
set_option maxHeartbeats 4000000 in
theorem mEx_icmp_gt {M : MB} {d : Nat} {scr : Option (Nat × (Nat → Int32))} {p : Program} {l : Launch} {e : Env} {R : Room} {s : State} {m : MethodId} {args : Array Value} {below : List Frame} {meth : Method} {c : Code} {D : va_G} {σ : Nat → Nat} {tA : Nat → ClassId} {A : Nat → Prop} {H0 : Heap} {cells slots : Nat} {Q : State → Prop} (hC : mCx M d scr p R s m args c D σ tA A H0) {pc n a b : Nat} {off : Int} {r : List MEn} {z : List (Option Value)} {st : List Value} {μ : MMe} {S : MSt} (hk : mChk M.1.cls M.2.1 pc ((.if_icmp .gt off, n, a, b) :: r) = true) (h : mEx M.2.2.2.2 pc (.if_icmp .gt off) n a b r z st μ = some S) (k : mChk M.1.cls M.2.1 S.1 S.2.1 = true → mWk M p l e R s m args below meth c D σ tA A H0 cells slots Q S) : mWk M p l e R s m args below meth c D σ tA A H0 cells slots Q (pc, (.if_icmp .gt off, n, a, b) :: r, z, st, μ) := by
  obtain ⟨hd, ho, hr⟩ := mChk.head hk
  intro H locs ls hP hD hS hL
  obtain ⟨hx, hb, hml, hown, hts, hK, hA, hfr, hlo, hok, hsc⟩ := hC
  show W p l e R s m args below meth c H locs cells slots Q (F0 m pc ls (st.map (cV σ)))
  replace hD : va_D A (mW σ tA μ) := hD
  replace hP : va_P D cls_ (mW σ tA μ) H := hP
  replace hL : mL ls M.2.2.1 (cL σ z) := hL
  simp only [mEx] at h
  simp only [mOpd, Bool.and_eq_true, Nat.beq_eq, decide_eq_true_eq] at ho
  obtain ⟨rfl, ho⟩ := ho
  split at h
  rotate_left
  · cases h
  rename_i y x t
  cases h
  refine lv_icmp_gt hx hb hd ho (fun q => ?_) (fun q => ?_)
  · rw [if_pos q] at k
    exact k (hok.at a) H locs ls hP hD hS hL
  · rw [if_neg q] at k
    exact k hr H locs ls hP hD hS hL
set_option maxHeartbeats 4000000 in
theorem mEx_if_le {M : MB} {d : Nat} {scr : Option (Nat × (Nat → Int32))} {p : Program} {l : Launch} {e : Env} {R : Room} {s : State} {m : MethodId} {args : Array Value} {below : List Frame} {meth : Method} {c : Code} {D : va_G} {σ : Nat → Nat} {tA : Nat → ClassId} {A : Nat → Prop} {H0 : Heap} {cells slots : Nat} {Q : State → Prop} (hC : mCx M d scr p R s m args c D σ tA A H0) {pc n a b : Nat} {off : Int} {r : List MEn} {z : List (Option Value)} {st : List Value} {μ : MMe} {S : MSt} (hk : mChk M.1.cls M.2.1 pc ((.ifCond .le off, n, a, b) :: r) = true) (h : mEx M.2.2.2.2 pc (.ifCond .le off) n a b r z st μ = some S) (k : mChk M.1.cls M.2.1 S.1 S.2.1 = true → mWk M p l e R s m args below meth c D σ tA A H0 cells slots Q S) : mWk M p l e R s m args below meth c D σ tA A H0 cells slots Q (pc, (.ifCond .le off, n, a, b) :: r, z, st, μ) := by
  obtain ⟨hd, ho, hr⟩ := mChk.head hk
  intro H locs ls hP hD hS hL
  obtain ⟨hx, hb, hml, hown, hts, hK, hA, hfr, hlo, hok, hsc⟩ := hC
  show W p l e R s m args below meth c H locs cells slots Q (F0 m pc ls (st.map (cV σ)))
  replace hD : va_D A (mW σ tA μ) := hD
  replace hP : va_P D cls_ (mW σ tA μ) H := hP
  replace hL : mL ls M.2.2.1 (cL σ z) := hL
  simp only [mEx] at h
  simp only [mOpd, Bool.and_eq_true, Nat.beq_eq, decide_eq_true_eq] at ho
  obtain ⟨rfl, ho⟩ := ho
  split at h
  rotate_left
  · cases h
  rename_i x t
  cases h
  rw [nI_0] at k
  refine lv_if_le hx hb hd ho (fun q => ?_) (fun q => ?_)
  · rw [if_pos q] at k
    exact k (hok.at a) H locs ls hP hD hS hL
  · rw [if_neg q] at k
    exact k hr H locs ls hP hD hS hL
set_option maxHeartbeats 4000000 in
theorem mEx_icmp_le {M : MB} {d : Nat} {scr : Option (Nat × (Nat → Int32))} {p : Program} {l : Launch} {e : Env} {R : Room} {s : State} {m : MethodId} {args : Array Value} {below : List Frame} {meth : Method} {c : Code} {D : va_G} {σ : Nat → Nat} {tA : Nat → ClassId} {A : Nat → Prop} {H0 : Heap} {cells slots : Nat} {Q : State → Prop} (hC : mCx M d scr p R s m args c D σ tA A H0) {pc n a b : Nat} {off : Int} {r : List MEn} {z : List (Option Value)} {st : List Value} {μ : MMe} {S : MSt} (hk : mChk M.1.cls M.2.1 pc ((.if_icmp .le off, n, a, b) :: r) = true) (h : mEx M.2.2.2.2 pc (.if_icmp .le off) n a b r z st μ = some S) (k : mChk M.1.cls M.2.1 S.1 S.2.1 = true → mWk M p l e R s m args below meth c D σ tA A H0 cells slots Q S) : mWk M p l e R s m args below meth c D σ tA A H0 cells slots Q (pc, (.if_icmp .le off, n, a, b) :: r, z, st, μ) := by
  obtain ⟨hd, ho, hr⟩ := mChk.head hk
  intro H locs ls hP hD hS hL
  obtain ⟨hx, hb, hml, hown, hts, hK, hA, hfr, hlo, hok, hsc⟩ := hC
  show W p l e R s m args below meth c H locs cells slots Q (F0 m pc ls (st.map (cV σ)))
  replace hD : va_D A (mW σ tA μ) := hD
  replace hP : va_P D cls_ (mW σ tA μ) H := hP
  replace hL : mL ls M.2.2.1 (cL σ z) := hL
  simp only [mEx] at h
  simp only [mOpd, Bool.and_eq_true, Nat.beq_eq, decide_eq_true_eq] at ho
  obtain ⟨rfl, ho⟩ := ho
  split at h
  rotate_left
  · cases h
  rename_i y x t
  cases h
  refine lv_icmp_le hx hb hd ho (fun q => ?_) (fun q => ?_)
  · rw [if_pos q] at k
    exact k (hok.at a) H locs ls hP hD hS hL
  · rw [if_neg q] at k
    exact k hr H locs ls hP hD hS hL
end
section
theorem m_offs {pc : Nat} {d k : Int} : ∀ {ps : List (Int × Int)}, ps.all (fun q => decide (0 ≤ q.1) && decide (q.1 < 1000) && decide (0 ≤ (pc : Int) + q.2)) = true → 0 ≤ (pc : Int) + d → 0 ≤ (pc : Int) + Op.lookupswitch.offset ps d k
  | [], _, h => h
  | (a, o) :: r, h, hd => by
    rw [List.all_cons] at h
    simp only [Bool.and_eq_true, decide_eq_true_eq] at h
    rw [Op.lookupswitch.offset_cons]
    by_cases e : a = k
    · rw [if_pos e]; exact h.1.2
    · rw [if_neg e]; exact m_offs h.2 hd
set_option maxHeartbeats 4000000 in
theorem mEx_tsw {M : MB} {d : Nat} {scr : Option (Nat × (Nat → Int32))} {p : Program} {l : Launch} {e : Env} {R : Room} {s : State} {m : MethodId} {args : Array Value} {below : List Frame} {meth : Method} {c : Code} {D : va_G} {σ : Nat → Nat} {tA : Nat → ClassId} {A : Nat → Prop} {H0 : Heap} {cells slots : Nat} {Q : State → Prop} (hC : mCx M d scr p R s m args c D σ tA A H0) {pc n a b : Nat} {dd lo_ hi : Int} {offs : Array Int} {r : List MEn} {z : List (Option Value)} {st : List Value} {μ : MMe} {S : MSt} (hk : mChk M.1.cls M.2.1 pc ((.tableswitch dd lo_ hi offs, n, a, b) :: r) = true) (h : mEx M.2.2.2.2 pc (.tableswitch dd lo_ hi offs) n a b r z st μ = some S) (k : mChk M.1.cls M.2.1 S.1 S.2.1 = true → mWk M p l e R s m args below meth c D σ tA A H0 cells slots Q S) : mWk M p l e R s m args below meth c D σ tA A H0 cells slots Q (pc, (.tableswitch dd lo_ hi offs, n, a, b) :: r, z, st, μ) := by
  obtain ⟨hd, ho, hr⟩ := mChk.head hk
  intro H locs ls hP hD hS hL
  obtain ⟨hx, hb, hml, hown, hts, hK, hA, hfr, hlo, hok, hsc⟩ := hC
  show W p l e R s m args below meth c H locs cells slots Q (F0 m pc ls (st.map (cV σ)))
  replace hD : va_D A (mW σ tA μ) := hD
  replace hP : va_P D cls_ (mW σ tA μ) H := hP
  replace hL : mL ls M.2.2.1 (cL σ z) := hL
  simp only [mEx] at h
  simp only [mOpd, Bool.and_eq_true, decide_eq_true_eq, List.all_eq_true] at ho
  obtain ⟨⟨⟨⟨o1, o2⟩, o3⟩, o4⟩, o5⟩ := ho
  split at h
  rotate_left
  · cases h
  rename_i x t
  have hlen : (offs.toList.length : Int) = hi - lo_ + 1 := by rw [Array.length_toList]; exact o4
  rw [mSw_ts offs.toList lo_ o2 (by omega)] at h
  by_cases hin : lo_ ≤ x.toInt ∧ x.toInt < lo_ + offs.toList.length
  · rw [dif_pos hin] at h
    cases h
    have hlt : (x.toInt - lo_).toNat < offs.toList.length := by omega
    refine lv_tableIn hx hb hd (by omega) (by omega) (off := offs.toList[(x.toInt - lo_).toNat]) (by rw [← Array.getElem?_toList, List.getElem?_eq_getElem hlt]) ?_ (k (hok.at _) H locs ls hP hD hS hL)
    have := o5 _ (List.getElem_mem hlt)
    exact (Int.toNat_of_nonneg this).symm
  · rw [dif_neg hin] at h
    cases h
    exact lv_tableOut hx hb hd (by omega) (Int.toNat_of_nonneg o1).symm (k (hok.at _) H locs ls hP hD hS hL)
set_option maxHeartbeats 4000000 in
theorem mEx_lsw {M : MB} {d : Nat} {scr : Option (Nat × (Nat → Int32))} {p : Program} {l : Launch} {e : Env} {R : Room} {s : State} {m : MethodId} {args : Array Value} {below : List Frame} {meth : Method} {c : Code} {D : va_G} {σ : Nat → Nat} {tA : Nat → ClassId} {A : Nat → Prop} {H0 : Heap} {cells slots : Nat} {Q : State → Prop} (hC : mCx M d scr p R s m args c D σ tA A H0) {pc n a b : Nat} {dd : Int} {ps : Array (Int × Int)} {r : List MEn} {z : List (Option Value)} {st : List Value} {μ : MMe} {S : MSt} (hk : mChk M.1.cls M.2.1 pc ((.lookupswitch dd ps, n, a, b) :: r) = true) (h : mEx M.2.2.2.2 pc (.lookupswitch dd ps) n a b r z st μ = some S) (k : mChk M.1.cls M.2.1 S.1 S.2.1 = true → mWk M p l e R s m args below meth c D σ tA A H0 cells slots Q S) : mWk M p l e R s m args below meth c D σ tA A H0 cells slots Q (pc, (.lookupswitch dd ps, n, a, b) :: r, z, st, μ) := by
  obtain ⟨hd, ho, hr⟩ := mChk.head hk
  intro H locs ls hP hD hS hL
  obtain ⟨hx, hb, hml, hown, hts, hK, hA, hfr, hlo, hok, hsc⟩ := hC
  show W p l e R s m args below meth c H locs cells slots Q (F0 m pc ls (st.map (cV σ)))
  replace hD : va_D A (mW σ tA μ) := hD
  replace hP : va_P D cls_ (mW σ tA μ) H := hP
  replace hL : mL ls M.2.2.1 (cL σ z) := hL
  simp only [mEx] at h
  simp only [mOpd, Bool.and_eq_true, decide_eq_true_eq] at ho
  obtain ⟨⟨o1, o2⟩, o3⟩ := ho
  split at h
  rotate_left
  · cases h
  rename_i x t
  rw [mSw_ls ps.toList o3] at h
  cases h
  refine lv_lookup hx hb hd o2 rfl ?_ (k (hok.at _) H locs ls hP hD hS hL)
  refine (Int.toNat_of_nonneg ?_).symm
  exact m_offs o3 o1
set_option maxHeartbeats 4000000 in
theorem mEx_getf {M : MB} {d : Nat} {scr : Option (Nat × (Nat → Int32))} {p : Program} {l : Launch} {e : Env} {R : Room} {s : State} {m : MethodId} {args : Array Value} {below : List Frame} {meth : Method} {c : Code} {D : va_G} {σ : Nat → Nat} {tA : Nat → ClassId} {A : Nat → Prop} {H0 : Heap} {cells slots : Nat} {Q : State → Prop} (hC : mCx M d scr p R s m args c D σ tA A H0) {pc n a b : Nat} {v : Nat} {r : List MEn} {z : List (Option Value)} {st : List Value} {μ : MMe} {S : MSt} (hk : mChk M.1.cls M.2.1 pc ((.getfield v, n, a, b) :: r) = true) (h : mEx M.2.2.2.2 pc (.getfield v) n a b r z st μ = some S) (k : mChk M.1.cls M.2.1 S.1 S.2.1 = true → mWk M p l e R s m args below meth c D σ tA A H0 cells slots Q S) : mWk M p l e R s m args below meth c D σ tA A H0 cells slots Q (pc, (.getfield v, n, a, b) :: r, z, st, μ) := by
  obtain ⟨hd, ho, hr⟩ := mChk.head hk
  intro H locs ls hP hD hS hL
  obtain ⟨hx, hb, hml, hown, hts, hK, hA, hfr, hlo, hok, hsc⟩ := hC
  show W p l e R s m args below meth c H locs cells slots Q (F0 m pc ls (st.map (cV σ)))
  replace hD : va_D A (mW σ tA μ) := hD
  replace hP : va_P D cls_ (mW σ tA μ) H := hP
  replace hL : mL ls M.2.2.1 (cL σ z) := hL
  simp only [mEx] at h
  simp only [mOpd, Bool.and_eq_true, Nat.beq_eq, decide_eq_true_eq] at ho
  obtain ⟨rfl, ho⟩ := ho
  obtain ⟨C, T, N, hc, hkN, hw⟩ := FL_ok ho
  split at h
  rotate_left
  · cases h
  rename_i q t
  split at h
  rotate_left
  · cases h
  rename_i ci fs hq
  split at h
  rotate_left
  · cases h
  rename_i he
  rw [Nat.beq_eq] at he
  subst he
  split at h
  rotate_left
  · cases h
  rename_i vv hv
  cases h
  have hWk := mW_at (σ := σ) (tA := tA) hq
  refine va_get hx hb hts (m_clsT hc) hown hK hP q (a := σ q) (fs := fs.map (cV σ)) hWk hc b hkN (hts _ (mTt_in hw rfl)) (fun _ h9 => h9) (v := cV σ vv) (by rw [List.getElem?_map, hv]; rfl) hd (k hr H locs ls hP hD hS hL)
set_option maxHeartbeats 4000000 in
theorem mEx_putf {M : MB} {d : Nat} {scr : Option (Nat × (Nat → Int32))} {p : Program} {l : Launch} {e : Env} {R : Room} {s : State} {m : MethodId} {args : Array Value} {below : List Frame} {meth : Method} {c : Code} {D : va_G} {σ : Nat → Nat} {tA : Nat → ClassId} {A : Nat → Prop} {H0 : Heap} {cells slots : Nat} {Q : State → Prop} (hC : mCx M d scr p R s m args c D σ tA A H0) {pc n a b : Nat} {v : Nat} {r : List MEn} {z : List (Option Value)} {st : List Value} {μ : MMe} {S : MSt} (hk : mChk M.1.cls M.2.1 pc ((.putfield v, n, a, b) :: r) = true) (h : mEx M.2.2.2.2 pc (.putfield v) n a b r z st μ = some S) (k : mChk M.1.cls M.2.1 S.1 S.2.1 = true → mWk M p l e R s m args below meth c D σ tA A H0 cells slots Q S) : mWk M p l e R s m args below meth c D σ tA A H0 cells slots Q (pc, (.putfield v, n, a, b) :: r, z, st, μ) := by
  obtain ⟨hd, ho, hr⟩ := mChk.head hk
  intro H locs ls hP hD hS hL
  obtain ⟨hx, hb, hml, hown, hts, hK, hA, hfr, hlo, hok, hsc⟩ := hC
  show W p l e R s m args below meth c H locs cells slots Q (F0 m pc ls (st.map (cV σ)))
  replace hD : va_D A (mW σ tA μ) := hD
  replace hP : va_P D cls_ (mW σ tA μ) H := hP
  replace hL : mL ls M.2.2.1 (cL σ z) := hL
  simp only [mEx] at h
  simp only [mOpd, Bool.and_eq_true, Nat.beq_eq, decide_eq_true_eq] at ho
  obtain ⟨⟨rfl, ho⟩, ho2⟩ := ho
  obtain ⟨C, T, N, hc, hkN, hw⟩ := FL_ok ho
  rw [hc] at ho2
  simp only [Bool.and_eq_true, decide_eq_true_eq, Bool.not_eq_true'] at ho2
  obtain ⟨hI, hfin⟩ := ho2
  split at h
  rotate_left
  · cases h
  rename_i vv q t
  split at h
  rotate_left
  · cases h
  rename_i ci fs hq
  split at h
  rotate_left
  · cases h
  rename_i he
  simp only [Bool.and_eq_true, Nat.beq_eq, Nat.blt_eq] at he
  obtain ⟨rfl, hbl⟩ := he
  cases h
  obtain ⟨ty0, hty⟩ := (m_cls hc).2.1
  have hWk := mW_at (σ := σ) (tA := tA) hq
  have hset : (mW σ tA μ).set q (σ q, Sum.inr (ci, (fs.map (cV σ)).set b (.int vv))) = mW σ tA (μ.set q (.inr (ci, fs.set b (.int vv)))) := by
    rw [← mW_set]
    show _ = (mW σ tA μ).set q (σ q, Sum.inr (ci, (fs.set b (.int vv)).map (cV σ)))
    rw [List.map_set]
    rfl
  refine va_put hx hb hts (m_clsT hc) ty0 hty (m_cls hc).2.2 hown hK hP hD hS q (a := σ q) (fs := fs.map (cV σ)) hWk hc b hkN (hts _ (mTt_in hw rfl)) (fun _ h9 => h9) hfin (ty := .int) (v := .int vv) (by rw [hI]; decide +kernel) rfl rfl (by rw [List.length_map]; exact hbl) hd (fun H1 locs1 hP hD hS => ?_)
  rw [hset] at hP hD
  exact k hr H1 locs1 ls hP hD hS hL
set_option maxHeartbeats 4000000 in
theorem mEx_iald {M : MB} {d : Nat} {scr : Option (Nat × (Nat → Int32))} {p : Program} {l : Launch} {e : Env} {R : Room} {s : State} {m : MethodId} {args : Array Value} {below : List Frame} {meth : Method} {c : Code} {D : va_G} {σ : Nat → Nat} {tA : Nat → ClassId} {A : Nat → Prop} {H0 : Heap} {cells slots : Nat} {Q : State → Prop} (hC : mCx M d scr p R s m args c D σ tA A H0) {pc n a b : Nat} {r : List MEn} {z : List (Option Value)} {st : List Value} {μ : MMe} {S : MSt} (hk : mChk M.1.cls M.2.1 pc ((.iaload, n, a, b) :: r) = true) (h : mEx M.2.2.2.2 pc (.iaload) n a b r z st μ = some S) (k : mChk M.1.cls M.2.1 S.1 S.2.1 = true → mWk M p l e R s m args below meth c D σ tA A H0 cells slots Q S) : mWk M p l e R s m args below meth c D σ tA A H0 cells slots Q (pc, (.iaload, n, a, b) :: r, z, st, μ) := by
  obtain ⟨hd, ho, hr⟩ := mChk.head hk
  intro H locs ls hP hD hS hL
  obtain ⟨hx, hb, hml, hown, hts, hK, hA, hfr, hlo, hok, hsc⟩ := hC
  show W p l e R s m args below meth c H locs cells slots Q (F0 m pc ls (st.map (cV σ)))
  replace hD : va_D A (mW σ tA μ) := hD
  replace hP : va_P D cls_ (mW σ tA μ) H := hP
  replace hL : mL ls M.2.2.1 (cL σ z) := hL
  simp only [mEx] at h
  simp only [mOpd, Bool.and_eq_true, Nat.beq_eq, decide_eq_true_eq] at ho
  subst ho
  split at h
  rotate_left
  · cases h
  rename_i ii q t
  split at h
  rotate_left
  · cases h
  rename_i n0 f hq
  split at h
  rotate_left
  · cases h
  rename_i hg
  cases h
  have hWk := mW_at (σ := σ) (tA := tA) hq
  exact va_iald hx hb hK hP q 0 (cA := tA 0) (n := n0) (f := f) hWk rfl (inb_in hg) hd (k hr H locs ls hP hD hS hL)
set_option maxHeartbeats 4000000 in
theorem mEx_iast {M : MB} {d : Nat} {scr : Option (Nat × (Nat → Int32))} {p : Program} {l : Launch} {e : Env} {R : Room} {s : State} {m : MethodId} {args : Array Value} {below : List Frame} {meth : Method} {c : Code} {D : va_G} {σ : Nat → Nat} {tA : Nat → ClassId} {A : Nat → Prop} {H0 : Heap} {cells slots : Nat} {Q : State → Prop} (hC : mCx M d scr p R s m args c D σ tA A H0) {pc n a b : Nat} {r : List MEn} {z : List (Option Value)} {st : List Value} {μ : MMe} {S : MSt} (hk : mChk M.1.cls M.2.1 pc ((.iastore, n, a, b) :: r) = true) (h : mEx M.2.2.2.2 pc (.iastore) n a b r z st μ = some S) (k : mChk M.1.cls M.2.1 S.1 S.2.1 = true → mWk M p l e R s m args below meth c D σ tA A H0 cells slots Q S) : mWk M p l e R s m args below meth c D σ tA A H0 cells slots Q (pc, (.iastore, n, a, b) :: r, z, st, μ) := by
  obtain ⟨hd, ho, hr⟩ := mChk.head hk
  intro H locs ls hP hD hS hL
  obtain ⟨hx, hb, hml, hown, hts, hK, hA, hfr, hlo, hok, hsc⟩ := hC
  show W p l e R s m args below meth c H locs cells slots Q (F0 m pc ls (st.map (cV σ)))
  replace hD : va_D A (mW σ tA μ) := hD
  replace hP : va_P D cls_ (mW σ tA μ) H := hP
  replace hL : mL ls M.2.2.1 (cL σ z) := hL
  simp only [mEx] at h
  simp only [mOpd, Bool.and_eq_true, Nat.beq_eq, decide_eq_true_eq] at ho
  subst ho
  split at h
  rotate_left
  · cases h
  rename_i xx ii q t
  split at h
  rotate_left
  · cases h
  rename_i n0 f hq
  split at h
  rotate_left
  · cases h
  rename_i hg
  cases h
  have hWk := mW_at (σ := σ) (tA := tA) hq
  refine va_iast hx hb hK hP hD hS q 0 (cA := tA 0) (n := n0) (f := f) hWk rfl (inb_in hg) hd (fun H1 locs1 hP hD hS => ?_)
  rw [show ((mW σ tA μ).set q (σ q, Sum.inl (tA 0, n0, Sum.inl (upd f ii.toNatClampNeg xx)))) = mW σ tA (μ.set q (.inl (0, n0, .inl (upd f ii.toNatClampNeg xx)))) from mW_set (c := .inl (0, n0, .inl (upd f ii.toNatClampNeg xx)))] at hP hD
  exact k hr H1 locs1 ls hP hD hS hL
set_option maxHeartbeats 4000000 in
theorem mEx_aald {M : MB} {d : Nat} {scr : Option (Nat × (Nat → Int32))} {p : Program} {l : Launch} {e : Env} {R : Room} {s : State} {m : MethodId} {args : Array Value} {below : List Frame} {meth : Method} {c : Code} {D : va_G} {σ : Nat → Nat} {tA : Nat → ClassId} {A : Nat → Prop} {H0 : Heap} {cells slots : Nat} {Q : State → Prop} (hC : mCx M d scr p R s m args c D σ tA A H0) {pc n a b : Nat} {r : List MEn} {z : List (Option Value)} {st : List Value} {μ : MMe} {S : MSt} (hk : mChk M.1.cls M.2.1 pc ((.aaload, n, a, b) :: r) = true) (h : mEx M.2.2.2.2 pc (.aaload) n a b r z st μ = some S) (k : mChk M.1.cls M.2.1 S.1 S.2.1 = true → mWk M p l e R s m args below meth c D σ tA A H0 cells slots Q S) : mWk M p l e R s m args below meth c D σ tA A H0 cells slots Q (pc, (.aaload, n, a, b) :: r, z, st, μ) := by
  obtain ⟨hd, ho, hr⟩ := mChk.head hk
  intro H locs ls hP hD hS hL
  obtain ⟨hx, hb, hml, hown, hts, hK, hA, hfr, hlo, hok, hsc⟩ := hC
  show W p l e R s m args below meth c H locs cells slots Q (F0 m pc ls (st.map (cV σ)))
  replace hD : va_D A (mW σ tA μ) := hD
  replace hP : va_P D cls_ (mW σ tA μ) H := hP
  replace hL : mL ls M.2.2.1 (cL σ z) := hL
  simp only [mEx] at h
  simp only [mOpd, Bool.and_eq_true, Nat.beq_eq, decide_eq_true_eq] at ho
  subst ho
  split at h
  rotate_left
  · cases h
  rename_i ii q t
  split at h
  rotate_left
  · cases h
  rename_i n0 f hq
  split at h
  rotate_left
  · cases h
  rename_i hg
  cases h
  have hWk := mW_at (σ := σ) (tA := tA) hq
  have hk2 := k hr H locs ls hP hD hS hL
  refine va_aldq hx hb hK hP q 1 (cA := tA 1) (C := RX0) (n := n0) (f := fun k => (f k).map σ) hWk rfl (inb_in hg) hd ?_
  rw [show va_rf ((f ii.toNatClampNeg).map σ) = cV σ (va_rf (f ii.toNatClampNeg)) from by cases f ii.toNatClampNeg <;> rfl]
  exact hk2
set_option maxHeartbeats 4000000 in
theorem mEx_alen {M : MB} {d : Nat} {scr : Option (Nat × (Nat → Int32))} {p : Program} {l : Launch} {e : Env} {R : Room} {s : State} {m : MethodId} {args : Array Value} {below : List Frame} {meth : Method} {c : Code} {D : va_G} {σ : Nat → Nat} {tA : Nat → ClassId} {A : Nat → Prop} {H0 : Heap} {cells slots : Nat} {Q : State → Prop} (hC : mCx M d scr p R s m args c D σ tA A H0) {pc n a b : Nat} {r : List MEn} {z : List (Option Value)} {st : List Value} {μ : MMe} {S : MSt} (hk : mChk M.1.cls M.2.1 pc ((.arraylength, n, a, b) :: r) = true) (h : mEx M.2.2.2.2 pc (.arraylength) n a b r z st μ = some S) (k : mChk M.1.cls M.2.1 S.1 S.2.1 = true → mWk M p l e R s m args below meth c D σ tA A H0 cells slots Q S) : mWk M p l e R s m args below meth c D σ tA A H0 cells slots Q (pc, (.arraylength, n, a, b) :: r, z, st, μ) := by
  obtain ⟨hd, ho, hr⟩ := mChk.head hk
  intro H locs ls hP hD hS hL
  obtain ⟨hx, hb, hml, hown, hts, hK, hA, hfr, hlo, hok, hsc⟩ := hC
  show W p l e R s m args below meth c H locs cells slots Q (F0 m pc ls (st.map (cV σ)))
  replace hD : va_D A (mW σ tA μ) := hD
  replace hP : va_P D cls_ (mW σ tA μ) H := hP
  replace hL : mL ls M.2.2.1 (cL σ z) := hL
  simp only [mEx] at h
  simp only [mOpd, Bool.and_eq_true, Nat.beq_eq, decide_eq_true_eq] at ho
  subst ho
  split at h
  rotate_left
  · cases h
  rename_i q t
  split at h
  rotate_left
  · cases h
  rename_i n0 ff hq
  cases h
  have hWk := mW_at (σ := σ) (tA := tA) hq
  obtain ⟨xx, hxx⟩ : ∃ y : (Nat → Int32) ⊕ (Nat → Int64) ⊕ (Nat → UInt32) ⊕ (Nat → UInt64) ⊕ (Nat → Option Nat), cE σ tA (.inl (0, n0, ff)) = .inl (tA 0, n0, y) := by
    match ff with
    | .inl f => exact ⟨_, rfl⟩
    | .inr (.inl f) => exact ⟨_, rfl⟩
    | .inr (.inr (.inl f)) => exact ⟨_, rfl⟩
    | .inr (.inr (.inr (.inl f))) => exact ⟨_, rfl⟩
    | .inr (.inr (.inr (.inr f))) => exact ⟨_, rfl⟩
  rw [hxx] at hWk
  exact va_alen hx hb hK hP q 0 (cA := tA 0) (x := (n0, xx)) hWk (ty := .int) rfl rfl hd (k hr H locs ls hP hD hS hL)
set_option maxHeartbeats 4000000 in
theorem mStp_ok {M : MB} {d : Nat} {scr : Option (Nat × (Nat → Int32))} {p : Program} {l : Launch} {e : Env} {R : Room} {s : State} {m : MethodId} {args : Array Value} {below : List Frame} {meth : Method} {c : Code} {D : va_G} {σ : Nat → Nat} {tA : Nat → ClassId} {A : Nat → Prop} {H0 : Heap} {cells slots : Nat} {Q : State → Prop} (hC : mCx M d scr p R s m args c D σ tA A H0) {S S' : MSt} (hk : mChk M.1.cls M.2.1 S.1 S.2.1 = true) (h : mStp M.2.2.2.2 S = some S') (k : mChk M.1.cls M.2.1 S'.1 S'.2.1 = true → mWk M p l e R s m args below meth c D σ tA A H0 cells slots Q S') : mWk M p l e R s m args below meth c D σ tA A H0 cells slots Q S := by
  obtain ⟨pc, cd, z, st, μ⟩ := S
  cases cd with
  | nil =>
    simp only [mStp] at h
    split at h
    rotate_left
    · cases h
    rename_i e0 r0 hl
    cases h
    refine k ?_
    have h9 := hC.2.2.2.2.2.2.2.2.2.1 _ (mLook hl)
    exact h9
  | cons q r =>
    obtain ⟨i, n, a, b⟩ := q
    have h : mEx M.2.2.2.2 pc i n a b r z st μ = some S' := h
    cases i with
    | iconst v => exact mEx_iconst hC hk h k
    | bipush v => exact mEx_bipush hC hk h k
    | sipush v => exact mEx_sipush hC hk h k
    | ldc v => exact mEx_ldc hC hk h k
    | ldc2_w v => exact mEx_ldc2 hC hk h k
    | iload_n v => exact mEx_iload_n hC hk h k
    | iload v => exact mEx_iload hC hk h k
    | istore_n v => exact mEx_istore_n hC hk h k
    | istore v => exact mEx_istore hC hk h k
    | lload_n v => exact mEx_lload_n hC hk h k
    | lload v => exact mEx_lload hC hk h k
    | lstore_n v => exact mEx_lstore_n hC hk h k
    | lstore v => exact mEx_lstore hC hk h k
    | aload_n v => exact mEx_aload_n hC hk h k
    | aload v => exact mEx_aload hC hk h k
    | astore_n v => exact mEx_astore_n hC hk h k
    | astore v => exact mEx_astore hC hk h k
    | iinc v w => exact mEx_iinc hC hk h k
    | iadd => exact mEx_iadd hC hk h k
    | isub => exact mEx_isub hC hk h k
    | imul => exact mEx_imul hC hk h k
    | iand => exact mEx_iand hC hk h k
    | ladd => exact mEx_ladd hC hk h k
    | lmul => exact mEx_lmul hC hk h k
    | lcmp => exact mEx_lcmp hC hk h k
    | ineg => exact mEx_ineg hC hk h k
    | i2l => exact mEx_i2l hC hk h k
    | l2i => exact mEx_l2i hC hk h k
    | idiv => exact mEx_idiv hC hk h k
    | irem => exact mEx_irem hC hk h k
    | lrem => exact mEx_lrem hC hk h k
    | dup => exact mEx_dup hC hk h k
    | dup2 => exact mEx_dup2 hC hk h k
    | pop => exact mEx_pop hC hk h k
    | goto v => exact mEx_goto hC hk h k
    | tableswitch v w x y => exact mEx_tsw hC hk h k
    | lookupswitch v w => exact mEx_lsw hC hk h k
    | getfield v => exact mEx_getf hC hk h k
    | putfield v => exact mEx_putf hC hk h k
    | iaload => exact mEx_iald hC hk h k
    | iastore => exact mEx_iast hC hk h k
    | aaload => exact mEx_aald hC hk h k
    | arraylength => exact mEx_alen hC hk h k
    | ifCond cc v => cases cc <;> first | exact mEx_if_eq hC hk h k | exact mEx_if_ne hC hk h k | exact mEx_if_lt hC hk h k | exact mEx_if_ge hC hk h k | exact mEx_if_gt hC hk h k | exact mEx_if_le hC hk h k
    | if_icmp cc v => cases cc <;> first | exact mEx_icmp_eq hC hk h k | exact mEx_icmp_ne hC hk h k | exact mEx_icmp_lt hC hk h k | exact mEx_icmp_ge hC hk h k | exact mEx_icmp_gt hC hk h k | exact mEx_icmp_le hC hk h k
    | _ => cases h
theorem mStps_ok {M : MB} {d : Nat} {scr : Option (Nat × (Nat → Int32))} {p : Program} {l : Launch} {e : Env} {R : Room} {s : State} {m : MethodId} {args : Array Value} {below : List Frame} {meth : Method} {c : Code} {D : va_G} {σ : Nat → Nat} {tA : Nat → ClassId} {A : Nat → Prop} {H0 : Heap} {cells slots : Nat} {Q : State → Prop} (hC : mCx M d scr p R s m args c D σ tA A H0) : ∀ (k : Nat) {S S' : MSt}, mChk M.1.cls M.2.1 S.1 S.2.1 = true → mStps M.2.2.2.2 k S = some S' → (mChk M.1.cls M.2.1 S'.1 S'.2.1 = true → mWk M p l e R s m args below meth c D σ tA A H0 cells slots Q S') → mWk M p l e R s m args below meth c D σ tA A H0 cells slots Q S
  | 0, S, S', hk, h, kk => by
    cases h
    exact kk hk
  | 1, S, S', hk, h, kk => mStp_ok hC hk h kk
  | n + 2, S, S', hk, h, kk => by
    have h : (mStp M.2.2.2.2 S).bind (mStps M.2.2.2.2 (n + 1)) = some S' := h
    cases h1 : mStp M.2.2.2.2 S with
    | none => rw [h1] at h; cases h
    | some S1 =>
      rw [h1] at h
      exact mStp_ok hC hk h1 (fun hk1 => mStps_ok hC (n + 1) hk1 h kk)
end
section
/-! what a run of a body comes to, and a call's contract, without the JVM's state -/
def mRet (M : MB) (pc : Nat) (r : Option Value) : Prop := match r with
  | none => decode M.2.1 pc = .ok (.return_, 1) ∧ M.2.2.2.1 = none
  | some (.int v) => decode M.2.1 pc = .ok (.ireturn, 1) ∧ ∃ ty, M.2.2.2.1 = some ty ∧ narrow ty (.int v) = .int v
  | some (.long _) => decode M.2.1 pc = .ok (.lreturn, 1) ∧ M.2.2.2.1 = some .long
  | _ => False
def mEv (d : Nat) (M : MB) (scr : Option (Nat × (Nat → Int32))) (S : MSt) (r : Option Value) (μ' : MMe) : Prop :=
  ∀ (p : Program) (l : Launch) (e : Env) (R : Room) (s : State) (m : MethodId) (args : Array Value) (below : List Frame) (meth : Method) (c : Code) (D : va_G) (σ : Nat → Nat) (tA : Nat → ClassId) (A : Nat → Prop) (H0 : Heap) (cells slots : Nat) (Q : State → Prop),
    mCx M d scr p R s m args c D σ tA A H0 → cells ≤ R.cells → slots ≤ R.slots →
    (∀ (pc : Nat) (H : Heap) (locs : List Loc) (ls : Array Slot), mRet M pc r → va_P D cls_ (mW σ tA μ') H → va_D A (mW σ tA μ') → va_S A H0 H locs → W p l e R s m args below meth c H locs cells slots Q (F0 m pc ls (r.toList.map (cV σ)))) →
    mChk M.1.cls M.2.1 S.1 S.2.1 = true → mWk M p l e R s m args below meth c D σ tA A H0 cells slots Q S
section EV
variable {d : Nat} {M : MB} {scr : Option (Nat × (Nat → Int32))} {S S' S1 S2 : MSt} {r : Option Value} {μ μ' μ1 : MMe}
theorem mEv.stp (k : Nat) (h : mStps M.2.2.2.2 k S = some S') (E : mEv d M scr S' r μ') : mEv d M scr S r μ' := fun p l e R s m args below meth c D σ tA A H0 cells slots Q hC hc hs hret hk =>
  mStps_ok hC k hk h (fun hk1 => E p l e R s m args below meth c D σ tA A H0 cells slots Q hC hc hs hret hk1)
theorem mEv.gd {g : Prop} {inst : Decidable g} (k : Nat) (h : mStps M.2.2.2.2 k S = @ite _ g inst (some S') none) (hg : g) (E : mEv d M scr S' r μ') : mEv d M scr S r μ' := mEv.stp k (h.trans (if_pos hg)) E
theorem mEv.br {g : Prop} {inst : Decidable g} (k : Nat) (h : mStps M.2.2.2.2 k S = some (@ite _ g inst S1 S2)) (E1 : g → mEv d M scr S1 r μ') (E2 : ¬ g → mEv d M scr S2 r μ') : mEv d M scr S r μ' := by
  refine mEv.stp k h ?_
  by_cases hg : g
  · rw [if_pos hg]; exact E1 hg
  · rw [if_neg hg]; exact E2 hg
theorem mEv.sw {TL : List (Nat × List MEn)} {x v : Int32} {t df : Nat} {ps : List (Int32 × Nat)} {z : List (Option Value)} {st : List Value} (E1 : x = v → mEv d M scr (t, mT TL t, z, st, μ) r μ') (E2 : ¬ x = v → mEv d M scr (mSw x ps df, mT TL (mSw x ps df), z, st, μ) r μ') : mEv d M scr (mSw x ((v, t) :: ps) df, mT TL (mSw x ((v, t) :: ps) df), z, st, μ) r μ' := by
  show mEv d M scr ((if x = v then t else mSw x ps df), mT TL (if x = v then t else mSw x ps df), z, st, μ) r μ'
  by_cases hg : x = v
  · rw [if_pos hg]; exact E1 hg
  · rw [if_neg hg]; exact E2 hg
theorem mEv.reti {pc n a b : Nat} {cd : List MEn} {z : List (Option Value)} {v : Int32} (hn : ∃ ty, M.2.2.2.1 = some ty ∧ narrow ty (.int v) = .int v) : mEv d M scr (pc, (.ireturn, n, a, b) :: cd, z, [.int v], μ) (some (.int v)) μ := by
  intro p l e R s m args below meth c D σ tA A H0 cells slots Q hC hc hs hret hk H locs ls hP hD hS hL
  obtain ⟨hd, ho, -⟩ := mChk.head hk
  simp only [mOpd, Nat.beq_eq] at ho
  subst ho
  exact hret pc H locs ls ⟨hd, hn⟩ hP hD hS
theorem mEv.retl {pc n a b : Nat} {cd : List MEn} {z : List (Option Value)} {v : Int64} (hn : M.2.2.2.1 = some .long) : mEv d M scr (pc, (.lreturn, n, a, b) :: cd, z, [.long v], μ) (some (.long v)) μ := by
  intro p l e R s m args below meth c D σ tA A H0 cells slots Q hC hc hs hret hk H locs ls hP hD hS hL
  obtain ⟨hd, ho, -⟩ := mChk.head hk
  simp only [mOpd, Nat.beq_eq] at ho
  subst ho
  exact hret pc H locs ls ⟨hd, hn⟩ hP hD hS
theorem mEv.retv {pc n a b : Nat} {cd : List MEn} {z : List (Option Value)} (hn : M.2.2.2.1 = none) : mEv d M scr (pc, (.return_, n, a, b) :: cd, z, [], μ) none μ := by
  intro p l e R s m args below meth c D σ tA A H0 cells slots Q hC hc hs hret hk H locs ls hP hD hS hL
  obtain ⟨hd, ho, -⟩ := mChk.head hk
  simp only [mOpd, Nat.beq_eq] at ho
  subst ho
  exact hret pc H locs ls ⟨hd, hn⟩ hP hD hS
end EV
def mWs (M : MB) : List Cond := .code M.1 M.2.1 M.2.2.1 M.2.2.2.1 :: mTt
def mRm (d : Nat) : Room := { frames := d, cells := 0, slots := 0, locals := 40 * d }
def mBf (D : va_G) (σ : Nat → Nat) (tA : Nat → ClassId) (sz : Nat) (μ : MMe) : State → Prop := fun U => U.heap.size = sz ∧ va_P D cls_ (mW σ tA μ) U.heap ∧ va_K D cls_ (mTy tA) U ∧ va_D (fun _ => True) (mW σ tA μ)
def mQ (D : va_G) (σ : Nat → Nat) (tA : Nat → ClassId) (A : Nat → Prop) (r : Option Value) (μ' : MMe) : Array Value → State → Outcome → State → Prop := fun _ st oc t => (oc = .returned (r.map (cV σ)) ∧ va_P D cls_ (mW σ tA μ') t.heap ∧ va_K D cls_ (mTy tA) t ∧ va_D A (mW σ tA μ')) ∧ va_F A st t
def mCall (d : Nat) (M : MB) (as : List Value) (μ : MMe) (r : Option Value) (μ' : MMe) : Prop :=
  ∀ (l : Launch) (D : va_G) (σ : Nat → Nat) (tA : Nat → ClassId) (sz : Nat), Met l M.1 (mWs M) (mRm d) (va_Pc (as.map (cV σ)) (mBf D σ tA sz μ)) (mQ D σ tA (va_A (mW σ tA μ) sz) r μ') 0 0 (va_A (mW σ tA μ) sz)
/-! the locals with which a body begins -/
def mEn : List Value → List (Option Value)
  | [] => []
  | v :: vs => if v.category = 2 then some v :: none :: mEn vs else some v :: mEn vs
def mEnt (nL : Nat) (as : List Value) : List (Option Value) := mEn as ++ List.replicate (nL - (mEn as).length) none
theorem cV_cat {σ : Nat → Nat} {v : Value} : (cV σ v).category = v.category := by cases v <;> rfl
theorem mEn_c {σ : Nat → Nat} : ∀ as : List Value, cL σ (mEn as) = mEn (as.map (cV σ))
  | [] => rfl
  | v :: vs => by
    rw [List.map_cons]
    unfold mEn
    rw [cV_cat]
    by_cases h : v.category = 2
    · rw [if_pos h, if_pos h, ← mEn_c vs]; rfl
    · rw [if_neg h, if_neg h, ← mEn_c vs]; rfl
theorem mEnt_c {σ : Nat → Nat} {nL : Nat} {as : List Value} : cL σ (mEnt nL as) = mEnt nL (as.map (cV σ)) := by
  unfold mEnt
  rw [← mEn_c, cL_len]
  unfold cL
  rw [List.map_append, List.map_replicate]
  rfl
theorem mEn_args : ∀ (as : List Value) (i0 j : Nat) (v : Value), (mEn as)[j]? = some (some v) → (i0 + j, v) ∈ lv_args i0 as
  | [], i0, j, v, h => by simp [mEn] at h
  | w :: ws, i0, j, v, h => by
    unfold mEn at h
    unfold lv_args
    by_cases hc : w.category = 2
    · rw [if_pos hc] at h ⊢
      match j, h with
      | 0, h => cases h; exact List.mem_cons_self
      | 1, h => cases h
      | j + 2, h =>
        have := mEn_args ws (i0 + 2) j v h
        rw [show i0 + (j + 2) = i0 + 2 + j by omega]
        exact List.mem_cons_of_mem _ this
    · rw [if_neg hc] at h ⊢
      match j, h with
      | 0, h => cases h; exact List.mem_cons_self
      | j + 1, h =>
        have := mEn_args ws (i0 + 1) j v h
        rw [show i0 + (j + 1) = i0 + 1 + j by omega]
        exact List.mem_cons_of_mem _ this
theorem mEn_len : ∀ as : List Value, (mEn as).length = (lg_sl as).length
  | [] => rfl
  | v :: vs => by
    unfold mEn
    show _ = (List.flatMap _ (v :: vs)).length
    rw [List.flatMap_cons]
    by_cases h : v.category = 2
    · rw [if_pos h, if_pos h]; show (mEn vs).length + 2 = _; rw [mEn_len vs, List.length_append]; show _ = 2 + (lg_sl vs).length; omega
    · rw [if_neg h, if_neg h]; show (mEn vs).length + 1 = _; rw [mEn_len vs, List.length_append]; show _ = 1 + (lg_sl vs).length; omega
theorem mEnt_has {vs : List Value} {nL : Nat} (h : (mEn vs).length ≤ nL) : mL ((lg_sl vs ++ List.replicate (nL - (lg_sl vs).length) Slot.unset).toArray) nL (mEnt nL vs) := by
  have h1 := lv_entry vs (n := nL) (by rw [← mEn_len]; exact h)
  refine ⟨⟨h1.1, h1.2.1, fun q hq => h1.2.2 q ?_⟩, ?_⟩
  · obtain ⟨j, v⟩ := q
    have hj := mAs_iff.mp hq
    unfold mEnt at hj
    by_cases hl : j < (mEn vs).length
    · rw [List.getElem?_append_left hl] at hj
      have := mEn_args vs 0 j v hj
      rwa [Nat.zero_add] at this
    · rw [List.getElem?_append_right (by omega)] at hj
      have := List.eq_of_mem_replicate (List.mem_of_getElem? hj)
      cases this
  · unfold mEnt
    rw [List.length_append, List.length_replicate]
    omega
set_option maxHeartbeats 4000000 in
/-- a body's run is the method's contract -/
theorem mCall.intro {d : Nat} {M : MB} {as : List Value} {μ : MMe} {r : Option Value} {μ' : MMe} (hok : mOk M) (hpl : plainFor M.1 = true) (hmax : Nat.ble (mEn as).length M.2.2.1 = true) (E : mEv d M none (0, [], mEnt M.2.2.1 as, [], μ) r μ') : mCall d M as μ r μ' := by
  intro l D σ tA sz
  refine va_MetF (cc := M.2.1) (maxL := M.2.2.1) (ret := M.2.2.2.1) hpl rfl ?_
  intro p e s m args below meth c s₁ B hml hv
  obtain ⟨rfl, hsz, hP, hK, hD0⟩ := hv
  have hx := B.exec
  have hb := B.bytes
  have hr := B.returns
  have hts := atoms_spec (ws := mWs M) B.pre
  have hown : s.vm.findClass M.1.cls = some m.cls := findClass_of_methodNamed B.named
  have hlocks := B.notSynchronized
  subst hsz
  have hD := hD0.self (sz := s.heap.size)
  have hA : ∀ q : Nat, s.heap.size ≤ q → va_A (mW σ tA μ) s.heap.size q := fun q h => Or.inr h
  have hS : va_S (va_A (mW σ tA μ) s.heap.size) s.heap s.heap [] := va_S.rf
  rw [lg_entry_eq]
  have hlen : (mEn (as.map (cV σ))).length ≤ M.2.2.1 := by rw [← mEn_c, cL_len]; exact Nat.le_of_ble_eq_true hmax
  have hl := mEnt_has hlen
  rw [← mEnt_c] at hl
  refine E p l e _ s m _ below meth c D σ tA (va_A (mW σ tA μ) s.heap.size) s.heap 0 0 _ ⟨hx, hb, hml, hown, fun w hw => hts w (List.mem_cons_of_mem _ hw), hK, hA, Nat.le_refl _, Nat.le_refl _, hok, fun L xs h => by cases h⟩ (Nat.le_refl _) (Nat.le_refl _) ?_ rfl s.heap [] _ hP hD hS hl
  intro pc H locs ls hret hP1 hD1 hS1
  cases r with
  | none => exact W.vret hx hb (hr.trans hret.2) (fun t ht hW => ⟨⟨rfl, by rw [ht]; exact hP1, va_K.moved hW.alike hK, hD1⟩, hS1.F ht⟩) hS1.2.2 hret.1
  | some v =>
    cases v with
    | int v =>
      obtain ⟨h1, ty, h2, h3⟩ := hret
      exact W.zret hx hb (hr.trans h2) h3 (fun t ht hW => ⟨⟨rfl, by rw [ht]; exact hP1, va_K.moved hW.alike hK, hD1⟩, hS1.F ht⟩) hS1.2.2 h1
    | long v => exact W.lret hx hb (hr.trans hret.2) (fun t ht hW => ⟨⟨rfl, by rw [ht]; exact hP1, va_K.moved hW.alike hK, hD1⟩, hS1.F ht⟩) hS1.2.2 hret.1
    | _ => exact hret.elim
end
