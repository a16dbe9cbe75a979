def T_X0_pairCell : List (Nat × List MEn) := [(0, [(.iload_n 0, 1, 0, 0), (.bipush 6, 2, 0, 0), (.imul, 1, 0, 0), (.iload_n 1, 1, 0, 0), (.iadd, 1, 0, 0), (.ireturn, 1, 0, 0)])]
def m_X0_pairCell : MB := (yX0_pairCell, cX0_pairCell, 2, (some .int), T_X0_pairCell)
theorem ok_X0_pairCell : mOk m_X0_pairCell := mOk.of (by decide +kernel)
theorem pl_X0_pairCell : plainFor m_X0_pairCell.1 = true := by decide +kernel
def T_X0_linkCell : List (Nat × List MEn) := [(0, [(.iload_n 0, 1, 0, 0), (.iload_n 1, 1, 0, 0), (.if_icmp .ge 12, 3, 14, 0), (.iload_n 0, 1, 0, 0), (.bipush 6, 2, 0, 0), (.imul, 1, 0, 0), (.iload_n 1, 1, 0, 0), (.iadd, 1, 0, 0), (.goto 9, 3, 20, 0)]),
  (14, [(.iload_n 1, 1, 0, 0), (.bipush 6, 2, 0, 0), (.imul, 1, 0, 0), (.iload_n 0, 1, 0, 0), (.iadd, 1, 0, 0)]),
  (20, [(.ireturn, 1, 0, 0)])]
def m_X0_linkCell : MB := (yX0_linkCell, cX0_linkCell, 2, (some .int), T_X0_linkCell)
theorem ok_X0_linkCell : mOk m_X0_linkCell := mOk.of (by decide +kernel)
theorem pl_X0_linkCell : plainFor m_X0_linkCell.1 = true := by decide +kernel
def T_X0_begin : List (Nat × List MEn) := [(0, [(.aload_n 0, 1, 0, 0), (.iload_n 1, 1, 0, 0), (.putfield 40, 3, 0, 0), (.aload_n 0, 1, 0, 0), (.iconst 0, 1, 0, 0), (.putfield 44, 3, 0, 1), (.aload_n 0, 1, 0, 0), (.iconst 1, 1, 0, 0), (.putfield 47, 3, 0, 2), (.aload_n 0, 1, 0, 0), (.iconst 0, 1, 0, 0), (.putfield 50, 3, 0, 3), (.aload_n 0, 1, 0, 0), (.iconst 0, 1, 0, 0), (.putfield 53, 3, 0, 4), (.aload_n 0, 1, 0, 0), (.getfield 11, 3, 0, 5), (.iconst 5, 1, 0, 0), (.invokestatic 56, 3, 0, 0), (.aload_n 0, 1, 0, 0), (.getfield 15, 3, 0, 6), (.iconst 0, 1, 0, 0), (.invokestatic 56, 3, 0, 0), (.aload_n 0, 1, 0, 0), (.getfield 18, 3, 0, 7), (.iconst 0, 1, 0, 0), (.invokestatic 56, 3, 0, 0), (.aload_n 0, 1, 0, 0), (.getfield 24, 3, 0, 9), (.iconst 0, 1, 0, 0), (.invokestatic 56, 3, 0, 0), (.aload_n 0, 1, 0, 0), (.getfield 27, 3, 0, 10), (.iconst 0, 1, 0, 0), (.invokestatic 56, 3, 0, 0), (.aload_n 0, 1, 0, 0), (.getfield 30, 3, 0, 11), (.iconst 0, 1, 0, 0), (.invokestatic 56, 3, 0, 0), (.iconst 0, 1, 0, 0), (.istore_n 2, 1, 0, 0)]),
  (75, [(.iload_n 2, 1, 0, 0), (.bipush 6, 2, 0, 0), (.if_icmp .ge 38, 3, 116, 0), (.iconst 0, 1, 0, 0), (.istore_n 3, 1, 0, 0)]),
  (83, [(.iload_n 3, 1, 0, 0), (.bipush 6, 2, 0, 0), (.if_icmp .ge 24, 3, 110, 0), (.aload_n 0, 1, 0, 0), (.getfield 21, 3, 0, 8), (.iload_n 2, 1, 0, 0), (.iload_n 3, 1, 0, 0), (.invokestatic 60, 3, 0, 0), (.iload_n 2, 1, 0, 0), (.iload_n 3, 1, 0, 0), (.invokestatic 64, 3, 0, 0), (.iastore, 1, 0, 0), (.iinc 3 1, 3, 0, 0), (.goto (-24), 3, 83, 0)]),
  (110, [(.iinc 2 1, 3, 0, 0), (.goto (-38), 3, 75, 0)]),
  (116, [(.return_, 1, 0, 0)])]
def m_X0_begin : MB := (yX0_begin, cX0_begin, 4, none, T_X0_begin)
theorem ok_X0_begin : mOk m_X0_begin := mOk.of (by decide +kernel)
theorem pl_X0_begin : plainFor m_X0_begin.1 = true := by decide +kernel
def T_X0_leastOther : List (Nat × List MEn) := [(0, [(.iload_n 0, 1, 0, 0), (.ifCond .eq 9, 3, 10, 0), (.iload_n 1, 1, 0, 0), (.ifCond .eq 5, 3, 10, 0), (.iconst 0, 1, 0, 0), (.ireturn, 1, 0, 0)]),
  (10, [(.iload_n 0, 1, 0, 0), (.iconst 1, 1, 0, 0), (.if_icmp .eq 12, 3, 24, 0), (.iload_n 1, 1, 0, 0), (.iconst 1, 1, 0, 0), (.if_icmp .eq 7, 3, 24, 0), (.iconst 1, 1, 0, 0), (.goto 4, 3, 25, 0)]),
  (24, [(.iconst 2, 1, 0, 0)]),
  (25, [(.ireturn, 1, 0, 0)])]
def m_X0_leastOther : MB := (yX0_leastOther, cX0_leastOther, 2, (some .int), T_X0_leastOther)
theorem ok_X0_leastOther : mOk m_X0_leastOther := mOk.of (by decide +kernel)
theorem pl_X0_leastOther : plainFor m_X0_leastOther.1 = true := by decide +kernel
def T_X0_fill : List (Nat × List MEn) := [(0, [(.iconst 0, 1, 0, 0), (.istore_n 2, 1, 0, 0)]),
  (2, [(.iload_n 2, 1, 0, 0), (.aload_n 0, 1, 0, 0), (.arraylength, 1, 0, 0), (.if_icmp .ge 13, 3, 18, 0), (.aload_n 0, 1, 0, 0), (.iload_n 2, 1, 0, 0), (.iload_n 1, 1, 0, 0), (.iastore, 1, 0, 0), (.iinc 2 1, 3, 0, 0), (.goto (-13), 3, 2, 0)]),
  (18, [(.return_, 1, 0, 0)])]
def m_X0_fill : MB := (yX0_fill, cX0_fill, 3, none, T_X0_fill)
theorem ok_X0_fill : mOk m_X0_fill := mOk.of (by decide +kernel)
theorem pl_X0_fill : plainFor m_X0_fill.1 = true := by decide +kernel
def T_X0_copyFrom : List (Nat × List MEn) := [(0, [(.aload_n 0, 1, 0, 0), (.aload_n 1, 1, 0, 0), (.getfield 40, 3, 0, 0), (.putfield 40, 3, 0, 0), (.aload_n 0, 1, 0, 0), (.aload_n 1, 1, 0, 0), (.getfield 44, 3, 0, 1), (.putfield 44, 3, 0, 1), (.aload_n 0, 1, 0, 0), (.aload_n 1, 1, 0, 0), (.getfield 47, 3, 0, 2), (.putfield 47, 3, 0, 2), (.aload_n 0, 1, 0, 0), (.aload_n 1, 1, 0, 0), (.getfield 50, 3, 0, 3), (.putfield 50, 3, 0, 3), (.aload_n 0, 1, 0, 0), (.aload_n 1, 1, 0, 0), (.getfield 53, 3, 0, 4), (.putfield 53, 3, 0, 4), (.aload_n 1, 1, 0, 0), (.getfield 11, 3, 0, 5), (.iconst 0, 1, 0, 0), (.aload_n 0, 1, 0, 0), (.getfield 11, 3, 0, 5), (.iconst 0, 1, 0, 0), (.bipush 36, 2, 0, 0), (.invokestatic 67, 3, 0, 0), (.aload_n 1, 1, 0, 0), (.getfield 15, 3, 0, 6), (.iconst 0, 1, 0, 0), (.aload_n 0, 1, 0, 0), (.getfield 15, 3, 0, 6), (.iconst 0, 1, 0, 0), (.bipush 36, 2, 0, 0), (.invokestatic 67, 3, 0, 0), (.aload_n 1, 1, 0, 0), (.getfield 18, 3, 0, 7), (.iconst 0, 1, 0, 0), (.aload_n 0, 1, 0, 0), (.getfield 18, 3, 0, 7), (.iconst 0, 1, 0, 0), (.bipush 36, 2, 0, 0), (.invokestatic 67, 3, 0, 0), (.aload_n 1, 1, 0, 0), (.getfield 21, 3, 0, 8), (.iconst 0, 1, 0, 0), (.aload_n 0, 1, 0, 0), (.getfield 21, 3, 0, 8), (.iconst 0, 1, 0, 0), (.bipush 36, 2, 0, 0), (.invokestatic 67, 3, 0, 0), (.aload_n 1, 1, 0, 0), (.getfield 24, 3, 0, 9), (.iconst 0, 1, 0, 0), (.aload_n 0, 1, 0, 0), (.getfield 24, 3, 0, 9), (.iconst 0, 1, 0, 0), (.sipush 180, 3, 0, 0), (.invokestatic 67, 3, 0, 0), (.aload_n 1, 1, 0, 0), (.getfield 27, 3, 0, 10), (.iconst 0, 1, 0, 0), (.aload_n 0, 1, 0, 0), (.getfield 27, 3, 0, 10), (.iconst 0, 1, 0, 0), (.iconst 5, 1, 0, 0), (.invokestatic 67, 3, 0, 0), (.aload_n 1, 1, 0, 0), (.getfield 30, 3, 0, 11), (.iconst 0, 1, 0, 0), (.aload_n 0, 1, 0, 0), (.getfield 30, 3, 0, 11), (.iconst 0, 1, 0, 0), (.bipush 24, 2, 0, 0), (.invokestatic 67, 3, 0, 0), (.aload_n 1, 1, 0, 0), (.getfield 33, 3, 0, 12), (.iconst 0, 1, 0, 0), (.aload_n 0, 1, 0, 0), (.getfield 33, 3, 0, 12), (.iconst 0, 1, 0, 0), (.aload_n 1, 1, 0, 0), (.getfield 53, 3, 0, 4), (.iconst 4, 1, 0, 0), (.imul, 1, 0, 0), (.invokestatic 67, 3, 0, 0), (.return_, 1, 0, 0)])]
def m_X0_copyFrom : MB := (yX0_copyFrom, cX0_copyFrom, 2, none, T_X0_copyFrom)
theorem ok_X0_copyFrom : mOk m_X0_copyFrom := mOk.of (by decide +kernel)
theorem pl_X0_copyFrom : plainFor m_X0_copyFrom.1 = true := by decide +kernel
def T_X0_freeWires : List (Nat × List MEn) := [(0, [(.aload_n 0, 1, 0, 0), (.getfield 11, 3, 0, 5), (.iload_n 1, 1, 0, 0), (.iaload, 1, 0, 0), (.aload_n 0, 1, 0, 0), (.getfield 18, 3, 0, 7), (.iload_n 1, 1, 0, 0), (.iaload, 1, 0, 0), (.isub, 1, 0, 0), (.istore_n 2, 1, 0, 0), (.iload_n 2, 1, 0, 0), (.ifCond .ge 7, 3, 22, 0), (.iconst 0, 1, 0, 0), (.goto 4, 3, 23, 0)]),
  (22, [(.iload_n 2, 1, 0, 0)]),
  (23, [(.ireturn, 1, 0, 0)])]
def m_X0_freeWires : MB := (yX0_freeWires, cX0_freeWires, 3, (some .int), T_X0_freeWires)
theorem ok_X0_freeWires : mOk m_X0_freeWires := mOk.of (by decide +kernel)
theorem pl_X0_freeWires : plainFor m_X0_freeWires.1 = true := by decide +kernel
def T_X0_servesOver : List (Nat × List MEn) := [(0, [(.aload_n 0, 1, 0, 0), (.getfield 11, 3, 0, 5), (.iload_n 1, 1, 0, 0), (.iaload, 1, 0, 0), (.aload_n 0, 1, 0, 0), (.getfield 18, 3, 0, 7), (.iload_n 1, 1, 0, 0), (.iaload, 1, 0, 0), (.isub, 1, 0, 0), (.aload_n 0, 1, 0, 0), (.getfield 15, 3, 0, 6), (.iload_n 1, 1, 0, 0), (.iaload, 1, 0, 0), (.if_icmp .le 7, 3, 26, 0), (.iconst 1, 1, 0, 0), (.goto 4, 3, 27, 0)]),
  (26, [(.iconst 0, 1, 0, 0)]),
  (27, [(.ireturn, 1, 0, 0)])]
def m_X0_servesOver : MB := (yX0_servesOver, cX0_servesOver, 2, (some .boolean), T_X0_servesOver)
theorem ok_X0_servesOver : mOk m_X0_servesOver := mOk.of (by decide +kernel)
theorem pl_X0_servesOver : plainFor m_X0_servesOver.1 = true := by decide +kernel
def T_X0_wayNow : List (Nat × List MEn) := [(0, [(.aload_n 0, 1, 0, 0), (.iload_n 1, 1, 0, 0), (.iload_n 2, 1, 0, 0), (.invokestatic 73, 3, 0, 0), (.invokevirtual 76, 3, 0, 0), (.ifCond .le 5, 3, 14, 0), (.iconst (-1), 1, 0, 0), (.ireturn, 1, 0, 0)]),
  (14, [(.aload_n 0, 1, 0, 0), (.getfield 21, 3, 0, 8), (.iload_n 1, 1, 0, 0), (.iload_n 2, 1, 0, 0), (.invokestatic 60, 3, 0, 0), (.iaload, 1, 0, 0), (.istore_n 3, 1, 0, 0), (.aload_n 0, 1, 0, 0), (.iload_n 1, 1, 0, 0), (.iload_n 3, 1, 0, 0), (.invokestatic 73, 3, 0, 0), (.invokevirtual 80, 3, 0, 0), (.ifCond .eq 19, 3, 53, 0), (.aload_n 0, 1, 0, 0), (.iload_n 3, 1, 0, 0), (.iload_n 2, 1, 0, 0), (.invokestatic 73, 3, 0, 0), (.invokevirtual 80, 3, 0, 0), (.ifCond .eq 7, 3, 53, 0), (.iload_n 3, 1, 0, 0), (.goto 5, 3, 55, 0)]),
  (53, [(.bipush (-5), 2, 0, 0)]),
  (55, [(.ireturn, 1, 0, 0)])]
def m_X0_wayNow : MB := (yX0_wayNow, cX0_wayNow, 4, (some .int), T_X0_wayNow)
theorem ok_X0_wayNow : mOk m_X0_wayNow := mOk.of (by decide +kernel)
theorem pl_X0_wayNow : plainFor m_X0_wayNow.1 = true := by decide +kernel
def T_X0_hasAnyWay : List (Nat × List MEn) := [(0, [(.aload_n 0, 1, 0, 0), (.iload_n 1, 1, 0, 0), (.iload_n 2, 1, 0, 0), (.invokestatic 73, 3, 0, 0), (.invokevirtual 76, 3, 0, 0), (.ifCond .le 7, 3, 16, 0), (.iconst 1, 1, 0, 0), (.goto 4, 3, 17, 0)]),
  (16, [(.iconst 0, 1, 0, 0)]),
  (17, [(.istore_n 3, 1, 0, 0), (.iconst 0, 1, 0, 0), (.istore 4, 2, 0, 0)]),
  (21, [(.iload 4, 2, 0, 0), (.aload_n 0, 1, 0, 0), (.getfield 40, 3, 0, 0), (.if_icmp .ge 57, 3, 84, 0), (.iload_n 3, 1, 0, 0), (.ifCond .ne 53, 3, 84, 0), (.iload 4, 2, 0, 0), (.iload_n 1, 1, 0, 0), (.if_icmp .eq 39, 3, 76, 0), (.iload 4, 2, 0, 0), (.iload_n 2, 1, 0, 0), (.if_icmp .eq 33, 3, 76, 0), (.aload_n 0, 1, 0, 0), (.iload_n 1, 1, 0, 0), (.iload 4, 2, 0, 0), (.invokestatic 73, 3, 0, 0), (.invokevirtual 80, 3, 0, 0), (.ifCond .eq 20, 3, 76, 0), (.aload_n 0, 1, 0, 0), (.iload 4, 2, 0, 0), (.iload_n 2, 1, 0, 0), (.invokestatic 73, 3, 0, 0), (.invokevirtual 80, 3, 0, 0), (.ifCond .eq 7, 3, 76, 0), (.iconst 1, 1, 0, 0), (.goto 4, 3, 77, 0)]),
  (76, [(.iconst 0, 1, 0, 0)]),
  (77, [(.istore_n 3, 1, 0, 0), (.iinc 4 1, 3, 0, 0), (.goto (-60), 3, 21, 0)]),
  (84, [(.iload_n 3, 1, 0, 0), (.ireturn, 1, 0, 0)])]
def m_X0_hasAnyWay : MB := (yX0_hasAnyWay, cX0_hasAnyWay, 5, (some .boolean), T_X0_hasAnyWay)
theorem ok_X0_hasAnyWay : mOk m_X0_hasAnyWay := mOk.of (by decide +kernel)
theorem pl_X0_hasAnyWay : plainFor m_X0_hasAnyWay.1 = true := by decide +kernel
def T_X0_ask : List (Nat × List MEn) := [(0, [(.iload_n 1, 1, 0, 0), (.iload_n 2, 1, 0, 0), (.invokestatic 60, 3, 0, 0), (.istore 4, 2, 0, 0), (.aload_n 0, 1, 0, 0), (.iconst 0, 1, 0, 0), (.iload 4, 2, 0, 0), (.invokevirtual 84, 3, 0, 0), (.aload_n 0, 1, 0, 0), (.getfield 53, 3, 0, 4), (.bipush 80, 2, 0, 0), (.if_icmp .lt 13, 3, 33, 0), (.aload_n 0, 1, 0, 0), (.iconst 4, 1, 0, 0), (.iload 4, 2, 0, 0), (.invokevirtual 84, 3, 0, 0), (.bipush (-5), 2, 0, 0), (.ireturn, 1, 0, 0)]),
  (33, [(.aload_n 0, 1, 0, 0), (.iload_n 1, 1, 0, 0), (.iload_n 2, 1, 0, 0), (.invokevirtual 88, 3, 0, 0), (.istore 5, 2, 0, 0), (.iload 5, 2, 0, 0), (.bipush (-5), 2, 0, 0), (.if_icmp .ne 50, 3, 95, 0), (.aload_n 0, 1, 0, 0), (.getfield 44, 3, 0, 1), (.iconst 1, 1, 0, 0), (.if_icmp .ne 42, 3, 95, 0), (.aload_n 0, 1, 0, 0), (.iload_n 1, 1, 0, 0), (.aload_n 0, 1, 0, 0), (.getfield 21, 3, 0, 8), (.iload 4, 2, 0, 0), (.iaload, 1, 0, 0), (.invokestatic 73, 3, 0, 0), (.invokevirtual 80, 3, 0, 0), (.ifCond .eq 24, 3, 95, 0), (.aload_n 0, 1, 0, 0), (.iconst 3, 1, 0, 0), (.iload 4, 2, 0, 0), (.invokevirtual 84, 3, 0, 0), (.aload_n 0, 1, 0, 0), (.iload_n 1, 1, 0, 0), (.iload_n 2, 1, 0, 0), (.invokevirtual 91, 3, 0, 0), (.aload_n 0, 1, 0, 0), (.iload_n 1, 1, 0, 0), (.iload_n 2, 1, 0, 0), (.invokevirtual 88, 3, 0, 0), (.istore 5, 2, 0, 0)]),
  (95, [(.iload 5, 2, 0, 0), (.bipush (-5), 2, 0, 0), (.if_icmp .ne 19, 3, 118, 0), (.aload_n 0, 1, 0, 0), (.iconst 4, 1, 0, 0), (.iload 4, 2, 0, 0), (.invokevirtual 84, 3, 0, 0), (.aload_n 0, 1, 0, 0), (.iload_n 1, 1, 0, 0), (.iload_n 2, 1, 0, 0), (.invokevirtual 91, 3, 0, 0), (.bipush (-5), 2, 0, 0), (.ireturn, 1, 0, 0)]),
  (118, [(.aload_n 0, 1, 0, 0), (.iload 5, 2, 0, 0), (.iconst (-1), 1, 0, 0), (.if_icmp .ne 7, 3, 129, 0), (.iconst 1, 1, 0, 0), (.goto 4, 3, 130, 0)]),
  (129, [(.iconst 2, 1, 0, 0)]),
  (130, [(.iload 4, 2, 0, 0), (.invokevirtual 84, 3, 0, 0), (.aload_n 0, 1, 0, 0), (.aload_n 0, 1, 0, 0), (.iload_n 1, 1, 0, 0), (.iload_n 2, 1, 0, 0), (.iload 5, 2, 0, 0), (.iload_n 3, 1, 0, 0), (.invokevirtual 94, 3, 0, 0), (.iconst 1, 1, 0, 0), (.invokevirtual 98, 3, 0, 0), (.iload 5, 2, 0, 0), (.ireturn, 1, 0, 0)])]
def m_X0_ask : MB := (yX0_ask, cX0_ask, 6, (some .int), T_X0_ask)
theorem ok_X0_ask : mOk m_X0_ask := mOk.of (by decide +kernel)
theorem pl_X0_ask : plainFor m_X0_ask.1 = true := by decide +kernel
def T_X0_count : List (Nat × List MEn) := [(0, [(.aload_n 0, 1, 0, 0), (.getfield 27, 3, 0, 10), (.iload_n 1, 1, 0, 0), (.dup2, 1, 0, 0), (.iaload, 1, 0, 0), (.iconst 1, 1, 0, 0), (.iadd, 1, 0, 0), (.iastore, 1, 0, 0), (.aload_n 0, 1, 0, 0), (.getfield 24, 3, 0, 9), (.iload_n 1, 1, 0, 0), (.bipush 36, 2, 0, 0), (.imul, 1, 0, 0), (.iload_n 2, 1, 0, 0), (.iadd, 1, 0, 0), (.dup2, 1, 0, 0), (.iaload, 1, 0, 0), (.iconst 1, 1, 0, 0), (.iadd, 1, 0, 0), (.iastore, 1, 0, 0), (.return_, 1, 0, 0)])]
def m_X0_count : MB := (yX0_count, cX0_count, 3, none, T_X0_count)
theorem ok_X0_count : mOk m_X0_count := mOk.of (by decide +kernel)
theorem pl_X0_count : plainFor m_X0_count.1 = true := by decide +kernel
def T_X0_advanceX : List (Nat × List MEn) := [(0, [(.aload_n 0, 1, 0, 0), (.aload_n 0, 1, 0, 0), (.getfield 47, 3, 0, 2), (.i2l, 1, 0, 0), (.ldc2_w 101, 3, 1103515245, 0), (.lmul, 1, 0, 0), (.ldc2_w 103, 3, 12345, 0), (.ladd, 1, 0, 0), (.ldc2_w 105, 3, 2147483648, 0), (.lrem, 1, 0, 0), (.l2i, 1, 0, 0), (.putfield 47, 3, 0, 2), (.return_, 1, 0, 0)])]
def m_X0_advanceX : MB := (yX0_advanceX, cX0_advanceX, 1, none, T_X0_advanceX)
theorem ok_X0_advanceX : mOk m_X0_advanceX := mOk.of (by decide +kernel)
theorem pl_X0_advanceX : plainFor m_X0_advanceX.1 = true := by decide +kernel
def T_X0_redraw : List (Nat × List MEn) := [(0, [(.aload_n 0, 1, 0, 0), (.invokevirtual 107, 3, 0, 0), (.aload_n 0, 1, 0, 0), (.getfield 47, 3, 0, 2), (.ldc 110, 2, 65536, 0), (.idiv, 1, 0, 0), (.aload_n 0, 1, 0, 0), (.getfield 40, 3, 0, 0), (.iconst 2, 1, 0, 0), (.isub, 1, 0, 0), (.irem, 1, 0, 0), (.istore_n 3, 1, 0, 0), (.iload_n 3, 1, 0, 0), (.iload_n 1, 1, 0, 0), (.iload_n 2, 1, 0, 0), (.invokestatic 111, 3, 0, 0), (.if_icmp .lt 6, 3, 31, 0), (.iinc 3 1, 3, 0, 0)]),
  (31, [(.iload_n 3, 1, 0, 0), (.iload_n 1, 1, 0, 0), (.iload_n 2, 1, 0, 0), (.invokestatic 116, 3, 0, 0), (.if_icmp .lt 6, 3, 43, 0), (.iinc 3 1, 3, 0, 0)]),
  (43, [(.aload_n 0, 1, 0, 0), (.getfield 21, 3, 0, 8), (.iload_n 1, 1, 0, 0), (.iload_n 2, 1, 0, 0), (.invokestatic 60, 3, 0, 0), (.iload_n 3, 1, 0, 0), (.iastore, 1, 0, 0), (.return_, 1, 0, 0)])]
def m_X0_redraw : MB := (yX0_redraw, cX0_redraw, 4, none, T_X0_redraw)
theorem ok_X0_redraw : mOk m_X0_redraw := mOk.of (by decide +kernel)
theorem pl_X0_redraw : plainFor m_X0_redraw.1 = true := by decide +kernel
def T_X0_addCall : List (Nat × List MEn) := [(0, [(.aload_n 0, 1, 0, 0), (.getfield 53, 3, 0, 4), (.iconst 4, 1, 0, 0), (.imul, 1, 0, 0), (.istore 5, 2, 0, 0), (.aload_n 0, 1, 0, 0), (.getfield 33, 3, 0, 12), (.iload 5, 2, 0, 0), (.iconst 0, 1, 0, 0), (.iadd, 1, 0, 0), (.iload_n 1, 1, 0, 0), (.iastore, 1, 0, 0), (.aload_n 0, 1, 0, 0), (.getfield 33, 3, 0, 12), (.iload 5, 2, 0, 0), (.iconst 1, 1, 0, 0), (.iadd, 1, 0, 0), (.iload_n 2, 1, 0, 0), (.iastore, 1, 0, 0), (.aload_n 0, 1, 0, 0), (.getfield 33, 3, 0, 12), (.iload 5, 2, 0, 0), (.iconst 2, 1, 0, 0), (.iadd, 1, 0, 0), (.iload_n 3, 1, 0, 0), (.iastore, 1, 0, 0), (.aload_n 0, 1, 0, 0), (.getfield 33, 3, 0, 12), (.iload 5, 2, 0, 0), (.iconst 3, 1, 0, 0), (.iadd, 1, 0, 0), (.iload 4, 2, 0, 0), (.iastore, 1, 0, 0), (.aload_n 0, 1, 0, 0), (.dup, 1, 0, 0), (.getfield 53, 3, 0, 4), (.iconst 1, 1, 0, 0), (.iadd, 1, 0, 0), (.putfield 53, 3, 0, 4), (.iload 5, 2, 0, 0), (.ireturn, 1, 0, 0)])]
def m_X0_addCall : MB := (yX0_addCall, cX0_addCall, 6, (some .int), T_X0_addCall)
theorem ok_X0_addCall : mOk m_X0_addCall := mOk.of (by decide +kernel)
theorem pl_X0_addCall : plainFor m_X0_addCall.1 = true := by decide +kernel
def T_X0_hold : List (Nat × List MEn) := [(0, [(.aload_n 0, 1, 0, 0), (.getfield 33, 3, 0, 12), (.iload_n 1, 1, 0, 0), (.iconst 0, 1, 0, 0), (.iadd, 1, 0, 0), (.iaload, 1, 0, 0), (.istore_n 3, 1, 0, 0), (.aload_n 0, 1, 0, 0), (.getfield 33, 3, 0, 12), (.iload_n 1, 1, 0, 0), (.iconst 1, 1, 0, 0), (.iadd, 1, 0, 0), (.iaload, 1, 0, 0), (.istore 4, 2, 0, 0), (.aload_n 0, 1, 0, 0), (.getfield 33, 3, 0, 12), (.iload_n 1, 1, 0, 0), (.iconst 2, 1, 0, 0), (.iadd, 1, 0, 0), (.iaload, 1, 0, 0), (.istore 5, 2, 0, 0), (.iload 5, 2, 0, 0), (.iconst (-1), 1, 0, 0), (.if_icmp .ne 21, 3, 53, 0), (.aload_n 0, 1, 0, 0), (.getfield 18, 3, 0, 7), (.iload_n 3, 1, 0, 0), (.iload 4, 2, 0, 0), (.invokestatic 73, 3, 0, 0), (.dup2, 1, 0, 0), (.iaload, 1, 0, 0), (.iload_n 2, 1, 0, 0), (.iadd, 1, 0, 0), (.iastore, 1, 0, 0), (.goto 34, 3, 84, 0)]),
  (53, [(.aload_n 0, 1, 0, 0), (.getfield 18, 3, 0, 7), (.iload_n 3, 1, 0, 0), (.iload 5, 2, 0, 0), (.invokestatic 73, 3, 0, 0), (.dup2, 1, 0, 0), (.iaload, 1, 0, 0), (.iload_n 2, 1, 0, 0), (.iadd, 1, 0, 0), (.iastore, 1, 0, 0), (.aload_n 0, 1, 0, 0), (.getfield 18, 3, 0, 7), (.iload 5, 2, 0, 0), (.iload 4, 2, 0, 0), (.invokestatic 73, 3, 0, 0), (.dup2, 1, 0, 0), (.iaload, 1, 0, 0), (.iload_n 2, 1, 0, 0), (.iadd, 1, 0, 0), (.iastore, 1, 0, 0)]),
  (84, [(.return_, 1, 0, 0)])]
def m_X0_hold : MB := (yX0_hold, cX0_hold, 6, none, T_X0_hold)
theorem ok_X0_hold : mOk m_X0_hold := mOk.of (by decide +kernel)
theorem pl_X0_hold : plainFor m_X0_hold.1 = true := by decide +kernel
def T_X0_endCall : List (Nat × List MEn) := [(0, [(.iload_n 1, 1, 0, 0), (.iconst 4, 1, 0, 0), (.imul, 1, 0, 0), (.istore_n 2, 1, 0, 0), (.aload_n 0, 1, 0, 0), (.getfield 53, 3, 0, 4), (.iload_n 1, 1, 0, 0), (.isub, 1, 0, 0), (.iconst 1, 1, 0, 0), (.isub, 1, 0, 0), (.iconst 4, 1, 0, 0), (.imul, 1, 0, 0), (.istore_n 3, 1, 0, 0), (.aload_n 0, 1, 0, 0), (.iload_n 2, 1, 0, 0), (.iconst (-1), 1, 0, 0), (.invokevirtual 98, 3, 0, 0), (.aload_n 0, 1, 0, 0), (.getfield 33, 3, 0, 12), (.iload_n 2, 1, 0, 0), (.iconst 4, 1, 0, 0), (.iadd, 1, 0, 0), (.aload_n 0, 1, 0, 0), (.getfield 33, 3, 0, 12), (.iload_n 2, 1, 0, 0), (.iload_n 3, 1, 0, 0), (.invokestatic 67, 3, 0, 0), (.aload_n 0, 1, 0, 0), (.dup, 1, 0, 0), (.getfield 53, 3, 0, 4), (.iconst 1, 1, 0, 0), (.isub, 1, 0, 0), (.putfield 53, 3, 0, 4), (.return_, 1, 0, 0)])]
def m_X0_endCall : MB := (yX0_endCall, cX0_endCall, 4, none, T_X0_endCall)
theorem ok_X0_endCall : mOk m_X0_endCall := mOk.of (by decide +kernel)
theorem pl_X0_endCall : plainFor m_X0_endCall.1 = true := by decide +kernel
def T_X0_passHours : List (Nat × List MEn) := [(0, [(.iconst 0, 1, 0, 0), (.istore_n 2, 1, 0, 0), (.iconst 0, 1, 0, 0), (.istore_n 3, 1, 0, 0)]),
  (4, [(.iload_n 3, 1, 0, 0), (.iload_n 1, 1, 0, 0), (.if_icmp .ge 62, 3, 68, 0), (.iload_n 2, 1, 0, 0), (.aload_n 0, 1, 0, 0), (.invokevirtual 119, 3, 0, 0), (.iadd, 1, 0, 0), (.istore_n 2, 1, 0, 0), (.aload_n 0, 1, 0, 0), (.dup, 1, 0, 0), (.getfield 50, 3, 0, 3), (.iconst 1, 1, 0, 0), (.iadd, 1, 0, 0), (.putfield 50, 3, 0, 3), (.aload_n 0, 1, 0, 0), (.getfield 30, 3, 0, 11), (.aload_n 0, 1, 0, 0), (.getfield 50, 3, 0, 3), (.bipush 24, 2, 0, 0), (.invokestatic 123, 3, 0, 0), (.iaload, 1, 0, 0), (.istore 4, 2, 0, 0), (.iconst 0, 1, 0, 0), (.istore 5, 2, 0, 0)]),
  (45, [(.iload 5, 2, 0, 0), (.iload 4, 2, 0, 0), (.if_icmp .ge 13, 3, 62, 0), (.aload_n 0, 1, 0, 0), (.invokevirtual 126, 3, 0, 0), (.iinc 5 1, 3, 0, 0), (.goto (-14), 3, 45, 0)]),
  (62, [(.iinc 3 1, 3, 0, 0), (.goto (-61), 3, 4, 0)]),
  (68, [(.iload_n 2, 1, 0, 0), (.ireturn, 1, 0, 0)])]
def m_X0_passHours : MB := (yX0_passHours, cX0_passHours, 6, (some .int), T_X0_passHours)
theorem ok_X0_passHours : mOk m_X0_passHours := mOk.of (by decide +kernel)
theorem pl_X0_passHours : plainFor m_X0_passHours.1 = true := by decide +kernel
def T_X0_endHour : List (Nat × List MEn) := [(0, [(.aload_n 0, 1, 0, 0), (.getfield 53, 3, 0, 4), (.istore_n 1, 1, 0, 0), (.iconst 0, 1, 0, 0), (.istore_n 2, 1, 0, 0), (.iconst 0, 1, 0, 0), (.istore_n 3, 1, 0, 0)]),
  (9, [(.iload_n 3, 1, 0, 0), (.iload_n 1, 1, 0, 0), (.if_icmp .ge 61, 3, 72, 0), (.iload_n 3, 1, 0, 0), (.iconst 4, 1, 0, 0), (.imul, 1, 0, 0), (.istore 4, 2, 0, 0), (.aload_n 0, 1, 0, 0), (.getfield 33, 3, 0, 12), (.iload 4, 2, 0, 0), (.iconst 3, 1, 0, 0), (.iadd, 1, 0, 0), (.dup2, 1, 0, 0), (.iaload, 1, 0, 0), (.iconst 1, 1, 0, 0), (.isub, 1, 0, 0), (.iastore, 1, 0, 0), (.aload_n 0, 1, 0, 0), (.getfield 33, 3, 0, 12), (.iload 4, 2, 0, 0), (.iconst 3, 1, 0, 0), (.iadd, 1, 0, 0), (.iaload, 1, 0, 0), (.ifCond .ne 13, 3, 54, 0), (.aload_n 0, 1, 0, 0), (.iload 4, 2, 0, 0), (.iconst (-1), 1, 0, 0), (.invokevirtual 98, 3, 0, 0), (.goto 15, 3, 66, 0)]),
  (54, [(.aload_n 0, 1, 0, 0), (.iload 4, 2, 0, 0), (.iload_n 2, 1, 0, 0), (.iconst 4, 1, 0, 0), (.imul, 1, 0, 0), (.invokevirtual 129, 3, 0, 0), (.iinc 2 1, 3, 0, 0)]),
  (66, [(.iinc 3 1, 3, 0, 0), (.goto (-60), 3, 9, 0)]),
  (72, [(.aload_n 0, 1, 0, 0), (.iload_n 2, 1, 0, 0), (.putfield 53, 3, 0, 4), (.iload_n 1, 1, 0, 0), (.iload_n 2, 1, 0, 0), (.isub, 1, 0, 0), (.ireturn, 1, 0, 0)])]
def m_X0_endHour : MB := (yX0_endHour, cX0_endHour, 5, (some .int), T_X0_endHour)
theorem ok_X0_endHour : mOk m_X0_endHour := mOk.of (by decide +kernel)
theorem pl_X0_endHour : plainFor m_X0_endHour.1 = true := by decide +kernel
def T_X0_moveCall : List (Nat × List MEn) := [(0, [(.iload_n 2, 1, 0, 0), (.iload_n 1, 1, 0, 0), (.if_icmp .eq 17, 3, 19, 0), (.aload_n 0, 1, 0, 0), (.getfield 33, 3, 0, 12), (.iload_n 1, 1, 0, 0), (.aload_n 0, 1, 0, 0), (.getfield 33, 3, 0, 12), (.iload_n 2, 1, 0, 0), (.iconst 4, 1, 0, 0), (.invokestatic 67, 3, 0, 0)]),
  (19, [(.return_, 1, 0, 0)])]
def m_X0_moveCall : MB := (yX0_moveCall, cX0_moveCall, 3, none, T_X0_moveCall)
theorem ok_X0_moveCall : mOk m_X0_moveCall := mOk.of (by decide +kernel)
theorem pl_X0_moveCall : plainFor m_X0_moveCall.1 = true := by decide +kernel
def T_X0_askByPlan : List (Nat × List MEn) := [(0, [(.aload_n 0, 1, 0, 0), (.invokevirtual 107, 3, 0, 0), (.aload_n 0, 1, 0, 0), (.getfield 47, 3, 0, 2), (.ldc 110, 2, 65536, 0), (.idiv, 1, 0, 0), (.aload_n 0, 1, 0, 0), (.getfield 40, 3, 0, 0), (.irem, 1, 0, 0), (.istore_n 1, 1, 0, 0), (.aload_n 0, 1, 0, 0), (.getfield 47, 3, 0, 2), (.sipush 1024, 3, 0, 0), (.idiv, 1, 0, 0), (.aload_n 0, 1, 0, 0), (.getfield 40, 3, 0, 0), (.irem, 1, 0, 0), (.istore_n 2, 1, 0, 0), (.iload_n 2, 1, 0, 0), (.iload_n 1, 1, 0, 0), (.if_icmp .ne 12, 3, 45, 0), (.iload_n 2, 1, 0, 0), (.iconst 1, 1, 0, 0), (.iadd, 1, 0, 0), (.aload_n 0, 1, 0, 0), (.getfield 40, 3, 0, 0), (.irem, 1, 0, 0), (.istore_n 2, 1, 0, 0)]),
  (45, [(.aload_n 0, 1, 0, 0), (.iload_n 1, 1, 0, 0), (.iload_n 2, 1, 0, 0), (.iconst 1, 1, 0, 0), (.aload_n 0, 1, 0, 0), (.getfield 47, 3, 0, 2), (.sipush 4096, 3, 0, 0), (.idiv, 1, 0, 0), (.bipush 6, 2, 0, 0), (.irem, 1, 0, 0), (.iadd, 1, 0, 0), (.invokevirtual 132, 3, 0, 0), (.pop, 1, 0, 0), (.return_, 1, 0, 0)])]
def m_X0_askByPlan : MB := (yX0_askByPlan, cX0_askByPlan, 3, none, T_X0_askByPlan)
theorem ok_X0_askByPlan : mOk m_X0_askByPlan := mOk.of (by decide +kernel)
theorem pl_X0_askByPlan : plainFor m_X0_askByPlan.1 = true := by decide +kernel
def T_X0_doOrder : List (Nat × List MEn) := [(0, [(.aload_n 1, 1, 0, 0), (.iload_n 2, 1, 0, 0), (.iconst 1, 1, 0, 0), (.iadd, 1, 0, 0), (.iaload, 1, 0, 0), (.istore_n 3, 1, 0, 0), (.aload_n 1, 1, 0, 0), (.iload_n 2, 1, 0, 0), (.iconst 2, 1, 0, 0), (.iadd, 1, 0, 0), (.iaload, 1, 0, 0), (.istore 4, 2, 0, 0), (.aload_n 1, 1, 0, 0), (.iload_n 2, 1, 0, 0), (.iconst 3, 1, 0, 0), (.iadd, 1, 0, 0), (.iaload, 1, 0, 0), (.istore 5, 2, 0, 0), (.aload_n 1, 1, 0, 0), (.iload_n 2, 1, 0, 0), (.iconst 0, 1, 0, 0), (.iadd, 1, 0, 0), (.iaload, 1, 0, 0), (.lookupswitch 120 #[(43, 71), (48, 51), (112, 110), (114, 95), (119, 80)], 51, 0, 0)]),
  (76, [(.aload_n 0, 1, 0, 0), (.iload_n 3, 1, 0, 0), (.iload 4, 2, 0, 0), (.iload 5, 2, 0, 0), (.invokevirtual 132, 3, 0, 0), (.bipush (-5), 2, 0, 0), (.if_icmp .eq 7, 3, 94, 0), (.iconst 1, 1, 0, 0), (.goto 4, 3, 95, 0)]),
  (94, [(.iconst 0, 1, 0, 0)]),
  (95, [(.ireturn, 1, 0, 0)]),
  (96, [(.aload_n 0, 1, 0, 0), (.iload 5, 2, 0, 0), (.invokevirtual 138, 3, 0, 0), (.pop, 1, 0, 0), (.iconst 0, 1, 0, 0), (.ireturn, 1, 0, 0)]),
  (105, [(.aload_n 0, 1, 0, 0), (.getfield 11, 3, 0, 5), (.iload_n 3, 1, 0, 0), (.iload 4, 2, 0, 0), (.invokestatic 73, 3, 0, 0), (.iload 5, 2, 0, 0), (.iastore, 1, 0, 0), (.iconst 0, 1, 0, 0), (.ireturn, 1, 0, 0)]),
  (120, [(.aload_n 0, 1, 0, 0), (.getfield 15, 3, 0, 6), (.iload_n 3, 1, 0, 0), (.iload 4, 2, 0, 0), (.invokestatic 73, 3, 0, 0), (.iload 5, 2, 0, 0), (.iastore, 1, 0, 0), (.iconst 0, 1, 0, 0), (.ireturn, 1, 0, 0)]),
  (135, [(.aload_n 0, 1, 0, 0), (.getfield 30, 3, 0, 11), (.iload_n 3, 1, 0, 0), (.iload 5, 2, 0, 0), (.iastore, 1, 0, 0), (.iconst 0, 1, 0, 0), (.ireturn, 1, 0, 0)]),
  (145, [(.aload_n 0, 1, 0, 0), (.iload 5, 2, 0, 0), (.putfield 44, 3, 0, 1), (.iconst 0, 1, 0, 0), (.ireturn, 1, 0, 0)])]
def m_X0_doOrder : MB := (yX0_doOrder, cX0_doOrder, 6, (some .boolean), T_X0_doOrder)
theorem ok_X0_doOrder : mOk m_X0_doOrder := mOk.of (by decide +kernel)
theorem pl_X0_doOrder : plainFor m_X0_doOrder.1 = true := by decide +kernel
def T_X0_callsOverLink : List (Nat × List MEn) := [(0, [(.iconst 0, 1, 0, 0), (.istore_n 2, 1, 0, 0), (.iconst 0, 1, 0, 0), (.istore_n 3, 1, 0, 0)]),
  (4, [(.iload_n 3, 1, 0, 0), (.aload_n 0, 1, 0, 0), (.getfield 53, 3, 0, 4), (.if_icmp .ge 70, 3, 79, 0), (.iload_n 3, 1, 0, 0), (.iconst 4, 1, 0, 0), (.imul, 1, 0, 0), (.istore 4, 2, 0, 0), (.aload_n 0, 1, 0, 0), (.getfield 33, 3, 0, 12), (.iload 4, 2, 0, 0), (.iconst 2, 1, 0, 0), (.iadd, 1, 0, 0), (.iaload, 1, 0, 0), (.istore 5, 2, 0, 0), (.iload 5, 2, 0, 0), (.iconst (-1), 1, 0, 0), (.if_icmp .eq 42, 3, 73, 0), (.aload_n 0, 1, 0, 0), (.getfield 33, 3, 0, 12), (.iload 4, 2, 0, 0), (.iconst 0, 1, 0, 0), (.iadd, 1, 0, 0), (.iaload, 1, 0, 0), (.iload 5, 2, 0, 0), (.invokestatic 73, 3, 0, 0), (.iload_n 1, 1, 0, 0), (.if_icmp .eq 21, 3, 70, 0), (.iload 5, 2, 0, 0), (.aload_n 0, 1, 0, 0), (.getfield 33, 3, 0, 12), (.iload 4, 2, 0, 0), (.iconst 1, 1, 0, 0), (.iadd, 1, 0, 0), (.iaload, 1, 0, 0), (.invokestatic 73, 3, 0, 0), (.iload_n 1, 1, 0, 0), (.if_icmp .ne 6, 3, 73, 0)]),
  (70, [(.iinc 2 1, 3, 0, 0)]),
  (73, [(.iinc 3 1, 3, 0, 0), (.goto (-72), 3, 4, 0)]),
  (79, [(.iload_n 2, 1, 0, 0), (.ireturn, 1, 0, 0)])]
def m_X0_callsOverLink : MB := (yX0_callsOverLink, cX0_callsOverLink, 6, (some .int), T_X0_callsOverLink)
theorem ok_X0_callsOverLink : mOk m_X0_callsOverLink := mOk.of (by decide +kernel)
theorem pl_X0_callsOverLink : plainFor m_X0_callsOverLink.1 = true := by decide +kernel
def T_X0_wiresHeld : List (Nat × List MEn) := [(0, [(.iconst 0, 1, 0, 0), (.istore_n 1, 1, 0, 0), (.iconst 0, 1, 0, 0), (.istore_n 2, 1, 0, 0)]),
  (4, [(.iload_n 2, 1, 0, 0), (.aload_n 0, 1, 0, 0), (.getfield 53, 3, 0, 4), (.if_icmp .ge 31, 3, 40, 0), (.iload_n 1, 1, 0, 0), (.aload_n 0, 1, 0, 0), (.getfield 33, 3, 0, 12), (.iload_n 2, 1, 0, 0), (.iconst 4, 1, 0, 0), (.imul, 1, 0, 0), (.iconst 2, 1, 0, 0), (.iadd, 1, 0, 0), (.iaload, 1, 0, 0), (.iconst (-1), 1, 0, 0), (.if_icmp .ne 7, 3, 31, 0), (.iconst 1, 1, 0, 0), (.goto 4, 3, 32, 0)]),
  (31, [(.iconst 2, 1, 0, 0)]),
  (32, [(.iadd, 1, 0, 0), (.istore_n 1, 1, 0, 0), (.iinc 2 1, 3, 0, 0), (.goto (-33), 3, 4, 0)]),
  (40, [(.iload_n 1, 1, 0, 0), (.ireturn, 1, 0, 0)])]
def m_X0_wiresHeld : MB := (yX0_wiresHeld, cX0_wiresHeld, 3, (some .int), T_X0_wiresHeld)
theorem ok_X0_wiresHeld : mOk m_X0_wiresHeld := mOk.of (by decide +kernel)
theorem pl_X0_wiresHeld : plainFor m_X0_wiresHeld.1 = true := by decide +kernel
def T_X0_refusedAt : List (Nat × List MEn) := [(0, [(.aload_n 0, 1, 0, 0), (.getfield 24, 3, 0, 9), (.sipush 144, 3, 0, 0), (.iload_n 1, 1, 0, 0), (.iadd, 1, 0, 0), (.iaload, 1, 0, 0), (.ireturn, 1, 0, 0)])]
def m_X0_refusedAt : MB := (yX0_refusedAt, cX0_refusedAt, 2, (some .int), T_X0_refusedAt)
theorem ok_X0_refusedAt : mOk m_X0_refusedAt := mOk.of (by decide +kernel)
theorem pl_X0_refusedAt : plainFor m_X0_refusedAt.1 = true := by decide +kernel
def T_X0_mostRefusedPair : List (Nat × List MEn) := [(0, [(.iconst 0, 1, 0, 0), (.iconst 1, 1, 0, 0), (.invokestatic 60, 3, 0, 0), (.istore_n 1, 1, 0, 0), (.iconst 0, 1, 0, 0), (.istore_n 2, 1, 0, 0)]),
  (8, [(.iload_n 2, 1, 0, 0), (.aload_n 0, 1, 0, 0), (.getfield 40, 3, 0, 0), (.if_icmp .ge 53, 3, 66, 0), (.iconst 0, 1, 0, 0), (.istore_n 3, 1, 0, 0)]),
  (18, [(.iload_n 3, 1, 0, 0), (.aload_n 0, 1, 0, 0), (.getfield 40, 3, 0, 0), (.if_icmp .ge 37, 3, 60, 0), (.iload_n 2, 1, 0, 0), (.iload_n 3, 1, 0, 0), (.if_icmp .eq 26, 3, 54, 0), (.aload_n 0, 1, 0, 0), (.iload_n 2, 1, 0, 0), (.iload_n 3, 1, 0, 0), (.invokestatic 60, 3, 0, 0), (.invokevirtual 141, 3, 0, 0), (.aload_n 0, 1, 0, 0), (.iload_n 1, 1, 0, 0), (.invokevirtual 141, 3, 0, 0), (.if_icmp .le 9, 3, 54, 0), (.iload_n 2, 1, 0, 0), (.iload_n 3, 1, 0, 0), (.invokestatic 60, 3, 0, 0), (.istore_n 1, 1, 0, 0)]),
  (54, [(.iinc 3 1, 3, 0, 0), (.goto (-39), 3, 18, 0)]),
  (60, [(.iinc 2 1, 3, 0, 0), (.goto (-55), 3, 8, 0)]),
  (66, [(.iload_n 1, 1, 0, 0), (.ireturn, 1, 0, 0)])]
def m_X0_mostRefusedPair : MB := (yX0_mostRefusedPair, cX0_mostRefusedPair, 4, (some .int), T_X0_mostRefusedPair)
theorem ok_X0_mostRefusedPair : mOk m_X0_mostRefusedPair := mOk.of (by decide +kernel)
theorem pl_X0_mostRefusedPair : plainFor m_X0_mostRefusedPair.1 = true := by decide +kernel
def T_X0_scarcestLink : List (Nat × List MEn) := [(0, [(.iconst 0, 1, 0, 0), (.iconst 1, 1, 0, 0), (.invokestatic 73, 3, 0, 0), (.istore_n 1, 1, 0, 0), (.iconst 0, 1, 0, 0), (.istore_n 2, 1, 0, 0)]),
  (8, [(.iload_n 2, 1, 0, 0), (.aload_n 0, 1, 0, 0), (.getfield 40, 3, 0, 0), (.if_icmp .ge 50, 3, 63, 0), (.iload_n 2, 1, 0, 0), (.iconst 1, 1, 0, 0), (.iadd, 1, 0, 0), (.istore_n 3, 1, 0, 0)]),
  (20, [(.iload_n 3, 1, 0, 0), (.aload_n 0, 1, 0, 0), (.getfield 40, 3, 0, 0), (.if_icmp .ge 32, 3, 57, 0), (.aload_n 0, 1, 0, 0), (.iload_n 2, 1, 0, 0), (.iload_n 3, 1, 0, 0), (.invokestatic 73, 3, 0, 0), (.invokevirtual 76, 3, 0, 0), (.aload_n 0, 1, 0, 0), (.iload_n 1, 1, 0, 0), (.invokevirtual 76, 3, 0, 0), (.if_icmp .ge 9, 3, 51, 0), (.iload_n 2, 1, 0, 0), (.iload_n 3, 1, 0, 0), (.invokestatic 73, 3, 0, 0), (.istore_n 1, 1, 0, 0)]),
  (51, [(.iinc 3 1, 3, 0, 0), (.goto (-34), 3, 20, 0)]),
  (57, [(.iinc 2 1, 3, 0, 0), (.goto (-52), 3, 8, 0)]),
  (63, [(.iload_n 1, 1, 0, 0), (.ireturn, 1, 0, 0)])]
def m_X0_scarcestLink : MB := (yX0_scarcestLink, cX0_scarcestLink, 4, (some .int), T_X0_scarcestLink)
theorem ok_X0_scarcestLink : mOk m_X0_scarcestLink := mOk.of (by decide +kernel)
theorem pl_X0_scarcestLink : plainFor m_X0_scarcestLink.1 = true := by decide +kernel
def T_X0_mixLinks : List (Nat × List MEn) := [(0, [(.lload_n 1, 1, 0, 0), (.lstore_n 3, 1, 0, 0), (.iconst 0, 1, 0, 0), (.istore 5, 2, 0, 0)]),
  (5, [(.iload 5, 2, 0, 0), (.aload_n 0, 1, 0, 0), (.getfield 40, 3, 0, 0), (.if_icmp .ge 83, 3, 94, 0), (.iload 5, 2, 0, 0), (.iconst 1, 1, 0, 0), (.iadd, 1, 0, 0), (.istore 6, 2, 0, 0)]),
  (20, [(.iload 6, 2, 0, 0), (.aload_n 0, 1, 0, 0), (.getfield 40, 3, 0, 0), (.if_icmp .ge 62, 3, 88, 0), (.iload 5, 2, 0, 0), (.iload 6, 2, 0, 0), (.invokestatic 73, 3, 0, 0), (.istore 7, 2, 0, 0), (.ldc2_w 144, 3, 31, 0), (.lload_n 3, 1, 0, 0), (.lmul, 1, 0, 0), (.aload_n 0, 1, 0, 0), (.getfield 11, 3, 0, 5), (.iload 7, 2, 0, 0), (.iaload, 1, 0, 0), (.i2l, 1, 0, 0), (.ladd, 1, 0, 0), (.lstore_n 3, 1, 0, 0), (.ldc2_w 144, 3, 31, 0), (.lload_n 3, 1, 0, 0), (.lmul, 1, 0, 0), (.aload_n 0, 1, 0, 0), (.getfield 15, 3, 0, 6), (.iload 7, 2, 0, 0), (.iaload, 1, 0, 0), (.i2l, 1, 0, 0), (.ladd, 1, 0, 0), (.lstore_n 3, 1, 0, 0), (.ldc2_w 144, 3, 31, 0), (.lload_n 3, 1, 0, 0), (.lmul, 1, 0, 0), (.aload_n 0, 1, 0, 0), (.iload 7, 2, 0, 0), (.invokevirtual 76, 3, 0, 0), (.i2l, 1, 0, 0), (.ladd, 1, 0, 0), (.lstore_n 3, 1, 0, 0), (.iinc 6 1, 3, 0, 0), (.goto (-65), 3, 20, 0)]),
  (88, [(.iinc 5 1, 3, 0, 0), (.goto (-86), 3, 5, 0)]),
  (94, [(.lload_n 3, 1, 0, 0), (.lreturn, 1, 0, 0)])]
def m_X0_mixLinks : MB := (yX0_mixLinks, cX0_mixLinks, 8, (some .long), T_X0_mixLinks)
theorem ok_X0_mixLinks : mOk m_X0_mixLinks := mOk.of (by decide +kernel)
theorem pl_X0_mixLinks : plainFor m_X0_mixLinks.1 = true := by decide +kernel
def T_X0_mixPairs : List (Nat × List MEn) := [(0, [(.lload_n 1, 1, 0, 0), (.lstore_n 3, 1, 0, 0), (.iconst 0, 1, 0, 0), (.istore 5, 2, 0, 0)]),
  (5, [(.iload 5, 2, 0, 0), (.aload_n 0, 1, 0, 0), (.getfield 40, 3, 0, 0), (.if_icmp .ge 73, 3, 84, 0), (.iconst 0, 1, 0, 0), (.istore 6, 2, 0, 0)]),
  (17, [(.iload 6, 2, 0, 0), (.aload_n 0, 1, 0, 0), (.getfield 40, 3, 0, 0), (.if_icmp .ge 55, 3, 78, 0), (.iload 5, 2, 0, 0), (.iload 6, 2, 0, 0), (.if_icmp .eq 42, 3, 72, 0), (.ldc2_w 144, 3, 31, 0), (.lload_n 3, 1, 0, 0), (.lmul, 1, 0, 0), (.aload_n 0, 1, 0, 0), (.getfield 21, 3, 0, 8), (.iload 5, 2, 0, 0), (.iload 6, 2, 0, 0), (.invokestatic 60, 3, 0, 0), (.iaload, 1, 0, 0), (.i2l, 1, 0, 0), (.ladd, 1, 0, 0), (.lstore_n 3, 1, 0, 0), (.ldc2_w 144, 3, 31, 0), (.lload_n 3, 1, 0, 0), (.lmul, 1, 0, 0), (.aload_n 0, 1, 0, 0), (.iload 5, 2, 0, 0), (.iload 6, 2, 0, 0), (.invokestatic 60, 3, 0, 0), (.invokevirtual 141, 3, 0, 0), (.i2l, 1, 0, 0), (.ladd, 1, 0, 0), (.lstore_n 3, 1, 0, 0)]),
  (72, [(.iinc 6 1, 3, 0, 0), (.goto (-58), 3, 17, 0)]),
  (78, [(.iinc 5 1, 3, 0, 0), (.goto (-76), 3, 5, 0)]),
  (84, [(.lload_n 3, 1, 0, 0), (.lreturn, 1, 0, 0)])]
def m_X0_mixPairs : MB := (yX0_mixPairs, cX0_mixPairs, 7, (some .long), T_X0_mixPairs)
theorem ok_X0_mixPairs : mOk m_X0_mixPairs := mOk.of (by decide +kernel)
theorem pl_X0_mixPairs : plainFor m_X0_mixPairs.1 = true := by decide +kernel
def T_X0_mixLoadsAndCalls : List (Nat × List MEn) := [(0, [(.lload_n 1, 1, 0, 0), (.lstore_n 3, 1, 0, 0), (.iconst 0, 1, 0, 0), (.istore 5, 2, 0, 0)]),
  (5, [(.iload 5, 2, 0, 0), (.bipush 24, 2, 0, 0), (.if_icmp .ge 24, 3, 33, 0), (.ldc2_w 144, 3, 31, 0), (.lload_n 3, 1, 0, 0), (.lmul, 1, 0, 0), (.aload_n 0, 1, 0, 0), (.getfield 30, 3, 0, 11), (.iload 5, 2, 0, 0), (.iaload, 1, 0, 0), (.i2l, 1, 0, 0), (.ladd, 1, 0, 0), (.lstore_n 3, 1, 0, 0), (.iinc 5 1, 3, 0, 0), (.goto (-25), 3, 5, 0)]),
  (33, [(.iconst 0, 1, 0, 0), (.istore 5, 2, 0, 0)]),
  (36, [(.iload 5, 2, 0, 0), (.aload_n 0, 1, 0, 0), (.getfield 53, 3, 0, 4), (.iconst 4, 1, 0, 0), (.imul, 1, 0, 0), (.if_icmp .ge 24, 3, 68, 0), (.ldc2_w 144, 3, 31, 0), (.lload_n 3, 1, 0, 0), (.lmul, 1, 0, 0), (.aload_n 0, 1, 0, 0), (.getfield 33, 3, 0, 12), (.iload 5, 2, 0, 0), (.iaload, 1, 0, 0), (.i2l, 1, 0, 0), (.ladd, 1, 0, 0), (.lstore_n 3, 1, 0, 0), (.iinc 5 1, 3, 0, 0), (.goto (-29), 3, 36, 0)]),
  (68, [(.lload_n 3, 1, 0, 0), (.lreturn, 1, 0, 0)])]
def m_X0_mixLoadsAndCalls : MB := (yX0_mixLoadsAndCalls, cX0_mixLoadsAndCalls, 6, (some .long), T_X0_mixLoadsAndCalls)
theorem ok_X0_mixLoadsAndCalls : mOk m_X0_mixLoadsAndCalls := mOk.of (by decide +kernel)
theorem pl_X0_mixLoadsAndCalls : plainFor m_X0_mixLoadsAndCalls.1 = true := by decide +kernel
def T_X1_append : List (Nat × List MEn) := [(0, [(.aload_n 0, 1, 0, 0), (.getfield 18, 3, 1, 2), (.bipush 120, 2, 0, 0), (.if_icmp .lt 5, 3, 11, 0), (.iconst 0, 1, 0, 0), (.ireturn, 1, 0, 0)]),
  (11, [(.aload_n 0, 1, 0, 0), (.getfield 11, 3, 1, 0), (.aload_n 0, 1, 0, 0), (.getfield 18, 3, 1, 2), (.iload_n 1, 1, 0, 0), (.iastore, 1, 0, 0), (.aload_n 0, 1, 0, 0), (.dup, 1, 0, 0), (.getfield 18, 3, 1, 2), (.iconst 1, 1, 0, 0), (.iadd, 1, 0, 0), (.putfield 18, 3, 1, 2), (.iconst 1, 1, 0, 0), (.ireturn, 1, 0, 0)])]
def m_X1_append : MB := (yX1_append, cX1_append, 2, (some .boolean), T_X1_append)
theorem ok_X1_append : mOk m_X1_append := mOk.of (by decide +kernel)
theorem pl_X1_append : plainFor m_X1_append.1 = true := by decide +kernel
def T_X1_read : List (Nat × List MEn) := [(0, [(.aload_n 0, 1, 0, 0), (.iload_n 1, 1, 0, 0), (.putfield 22, 3, 1, 4), (.aload_n 0, 1, 0, 0), (.iconst 0, 1, 0, 0), (.putfield 25, 3, 1, 5), (.aload_n 0, 1, 0, 0), (.iconst (-1), 1, 0, 0), (.putfield 28, 3, 1, 6), (.aload_n 0, 1, 0, 0), (.iconst 0, 1, 0, 0), (.putfield 31, 3, 1, 3), (.aload_n 0, 1, 0, 0), (.invokevirtual 34, 3, 0, 0), (.aload_n 0, 1, 0, 0), (.getfield 25, 3, 1, 5), (.aload_n 0, 1, 0, 0), (.getfield 18, 3, 1, 2), (.if_icmp .lt 11, 3, 43, 0), (.aload_n 0, 1, 0, 0), (.aload_n 0, 1, 0, 0), (.getfield 18, 3, 1, 2), (.putfield 28, 3, 1, 6)]),
  (43, [(.iconst 0, 1, 0, 0), (.istore_n 2, 1, 0, 0)]),
  (45, [(.iload_n 2, 1, 0, 0), (.bipush 40, 2, 0, 0), (.if_icmp .ge 49, 3, 97, 0), (.aload_n 0, 1, 0, 0), (.getfield 28, 3, 1, 6), (.iconst (-1), 1, 0, 0), (.if_icmp .ne 41, 3, 97, 0), (.aload_n 0, 1, 0, 0), (.getfield 25, 3, 1, 5), (.aload_n 0, 1, 0, 0), (.getfield 18, 3, 1, 2), (.if_icmp .ge 30, 3, 97, 0), (.aload_n 0, 1, 0, 0), (.iload_n 2, 1, 0, 0), (.iconst 4, 1, 0, 0), (.imul, 1, 0, 0), (.invokevirtual 37, 3, 0, 0), (.aload_n 0, 1, 0, 0), (.invokevirtual 34, 3, 0, 0), (.aload_n 0, 1, 0, 0), (.dup, 1, 0, 0), (.getfield 31, 3, 1, 3), (.iconst 1, 1, 0, 0), (.iadd, 1, 0, 0), (.putfield 31, 3, 1, 3), (.iinc 2 1, 3, 0, 0), (.goto (-49), 3, 45, 0)]),
  (97, [(.aload_n 0, 1, 0, 0), (.getfield 28, 3, 1, 6), (.ireturn, 1, 0, 0)])]
def m_X1_read : MB := (yX1_read, cX1_read, 3, (some .int), T_X1_read)
theorem ok_X1_read : mOk m_X1_read := mOk.of (by decide +kernel)
theorem pl_X1_read : plainFor m_X1_read.1 = true := by decide +kernel
def T_X1_readOrder : List (Nat × List MEn) := [(0, [(.iconst 0, 1, 0, 0), (.istore_n 2, 1, 0, 0), (.iconst 0, 1, 0, 0), (.istore_n 3, 1, 0, 0), (.iconst 0, 1, 0, 0), (.istore 4, 2, 0, 0), (.aload_n 0, 1, 0, 0), (.invokevirtual 41, 3, 0, 0), (.istore 5, 2, 0, 0), (.iload 5, 2, 0, 0), (.lookupswitch 147 #[(43, 125), (48, 57), (112, 105), (114, 81), (119, 81), (120, 137)], 57, 0, 0)]),
  (72, [(.aload_n 0, 1, 0, 0), (.iconst (-1), 1, 0, 0), (.invokevirtual 45, 3, 0, 0), (.istore_n 2, 1, 0, 0), (.aload_n 0, 1, 0, 0), (.iload_n 2, 1, 0, 0), (.invokevirtual 45, 3, 0, 0), (.istore_n 3, 1, 0, 0), (.aload_n 0, 1, 0, 0), (.iconst 1, 1, 0, 0), (.bipush 24, 2, 0, 0), (.invokevirtual 51, 3, 0, 0), (.istore 4, 2, 0, 0), (.goto 79, 3, 172, 0)]),
  (96, [(.aload_n 0, 1, 0, 0), (.iconst (-1), 1, 0, 0), (.invokevirtual 45, 3, 0, 0), (.istore_n 2, 1, 0, 0), (.aload_n 0, 1, 0, 0), (.iload_n 2, 1, 0, 0), (.invokevirtual 45, 3, 0, 0), (.istore_n 3, 1, 0, 0), (.aload_n 0, 1, 0, 0), (.iconst 0, 1, 0, 0), (.bipush 30, 2, 0, 0), (.invokevirtual 51, 3, 0, 0), (.istore 4, 2, 0, 0), (.goto 55, 3, 172, 0)]),
  (120, [(.aload_n 0, 1, 0, 0), (.iconst 0, 1, 0, 0), (.bipush 23, 2, 0, 0), (.invokevirtual 51, 3, 0, 0), (.istore_n 2, 1, 0, 0), (.aload_n 0, 1, 0, 0), (.iconst 0, 1, 0, 0), (.bipush 9, 2, 0, 0), (.invokevirtual 51, 3, 0, 0), (.istore 4, 2, 0, 0), (.goto 35, 3, 172, 0)]),
  (140, [(.aload_n 0, 1, 0, 0), (.iconst 0, 1, 0, 0), (.bipush 99, 2, 0, 0), (.invokevirtual 51, 3, 0, 0), (.istore 4, 2, 0, 0), (.goto 23, 3, 172, 0)]),
  (152, [(.aload_n 0, 1, 0, 0), (.iconst 1, 1, 0, 0), (.invokevirtual 55, 3, 0, 0), (.istore 4, 2, 0, 0), (.goto 13, 3, 172, 0)]),
  (162, [(.aload_n 0, 1, 0, 0), (.aload_n 0, 1, 0, 0), (.getfield 25, 3, 1, 5), (.iconst 1, 1, 0, 0), (.isub, 1, 0, 0), (.putfield 28, 3, 1, 6)]),
  (172, [(.aload_n 0, 1, 0, 0), (.invokevirtual 58, 3, 0, 0), (.aload_n 0, 1, 0, 0), (.getfield 15, 3, 1, 1), (.iload_n 1, 1, 0, 0), (.iconst 0, 1, 0, 0), (.iadd, 1, 0, 0), (.iload 5, 2, 0, 0), (.iastore, 1, 0, 0), (.aload_n 0, 1, 0, 0), (.getfield 15, 3, 1, 1), (.iload_n 1, 1, 0, 0), (.iconst 1, 1, 0, 0), (.iadd, 1, 0, 0), (.iload_n 2, 1, 0, 0), (.iastore, 1, 0, 0), (.aload_n 0, 1, 0, 0), (.getfield 15, 3, 1, 1), (.iload_n 1, 1, 0, 0), (.iconst 2, 1, 0, 0), (.iadd, 1, 0, 0), (.iload_n 3, 1, 0, 0), (.iastore, 1, 0, 0), (.aload_n 0, 1, 0, 0), (.getfield 15, 3, 1, 1), (.iload_n 1, 1, 0, 0), (.iconst 3, 1, 0, 0), (.iadd, 1, 0, 0), (.iload 4, 2, 0, 0), (.iastore, 1, 0, 0), (.return_, 1, 0, 0)])]
def m_X1_readOrder : MB := (yX1_readOrder, cX1_readOrder, 6, none, T_X1_readOrder)
theorem ok_X1_readOrder : mOk m_X1_readOrder := mOk.of (by decide +kernel)
theorem pl_X1_readOrder : plainFor m_X1_readOrder.1 = true := by decide +kernel
def T_X1_readKind : List (Nat × List MEn) := [(0, [(.aload_n 0, 1, 0, 0), (.getfield 11, 3, 1, 0), (.aload_n 0, 1, 0, 0), (.getfield 25, 3, 1, 5), (.iaload, 1, 0, 0), (.istore_n 1, 1, 0, 0), (.iload_n 1, 1, 0, 0), (.invokestatic 61, 3, 0, 0), (.ifCond .eq 6, 3, 20, 0), (.bipush 48, 2, 0, 0), (.ireturn, 1, 0, 0)]),
  (20, [(.aload_n 0, 1, 0, 0), (.dup, 1, 0, 0), (.getfield 25, 3, 1, 5), (.iconst 1, 1, 0, 0), (.iadd, 1, 0, 0), (.putfield 25, 3, 1, 5), (.iload_n 1, 1, 0, 0), (.ireturn, 1, 0, 0)])]
def m_X1_readKind : MB := (yX1_readKind, cX1_readKind, 2, (some .int), T_X1_readKind)
theorem ok_X1_readKind : mOk m_X1_readKind := mOk.of (by decide +kernel)
theorem pl_X1_readKind : plainFor m_X1_readKind.1 = true := by decide +kernel
def T_X1_readTown : List (Nat × List MEn) := [(0, [(.aload_n 0, 1, 0, 0), (.aload_n 0, 1, 0, 0), (.getfield 22, 3, 1, 4), (.iconst 1, 1, 0, 0), (.isub, 1, 0, 0), (.invokevirtual 55, 3, 0, 0), (.istore_n 2, 1, 0, 0), (.aload_n 0, 1, 0, 0), (.getfield 28, 3, 1, 6), (.iconst (-1), 1, 0, 0), (.if_icmp .ne 18, 3, 34, 0), (.iload_n 2, 1, 0, 0), (.iload_n 1, 1, 0, 0), (.if_icmp .ne 13, 3, 34, 0), (.aload_n 0, 1, 0, 0), (.aload_n 0, 1, 0, 0), (.getfield 25, 3, 1, 5), (.iconst 1, 1, 0, 0), (.isub, 1, 0, 0), (.putfield 28, 3, 1, 6)]),
  (34, [(.iload_n 2, 1, 0, 0), (.ireturn, 1, 0, 0)])]
def m_X1_readTown : MB := (yX1_readTown, cX1_readTown, 3, (some .int), T_X1_readTown)
theorem ok_X1_readTown : mOk m_X1_readTown := mOk.of (by decide +kernel)
theorem pl_X1_readTown : plainFor m_X1_readTown.1 = true := by decide +kernel
def T_X1_readFigure : List (Nat × List MEn) := [(0, [(.aload_n 0, 1, 0, 0), (.getfield 28, 3, 1, 6), (.iconst (-1), 1, 0, 0), (.if_icmp .eq 5, 3, 10, 0), (.iconst 0, 1, 0, 0), (.ireturn, 1, 0, 0)]),
  (10, [(.aload_n 0, 1, 0, 0), (.invokevirtual 34, 3, 0, 0), (.aload_n 0, 1, 0, 0), (.getfield 25, 3, 1, 5), (.aload_n 0, 1, 0, 0), (.getfield 18, 3, 1, 2), (.if_icmp .ge 18, 3, 40, 0), (.aload_n 0, 1, 0, 0), (.getfield 11, 3, 1, 0), (.aload_n 0, 1, 0, 0), (.getfield 25, 3, 1, 5), (.iaload, 1, 0, 0), (.bipush 48, 2, 0, 0), (.isub, 1, 0, 0), (.goto 4, 3, 41, 0)]),
  (40, [(.iconst (-1), 1, 0, 0)]),
  (41, [(.istore_n 2, 1, 0, 0), (.iload_n 2, 1, 0, 0), (.ifCond .lt 8, 3, 51, 0), (.iload_n 2, 1, 0, 0), (.iload_n 1, 1, 0, 0), (.if_icmp .le 13, 3, 61, 0)]),
  (51, [(.aload_n 0, 1, 0, 0), (.aload_n 0, 1, 0, 0), (.getfield 25, 3, 1, 5), (.putfield 28, 3, 1, 6), (.iconst 0, 1, 0, 0), (.ireturn, 1, 0, 0)]),
  (61, [(.aload_n 0, 1, 0, 0), (.dup, 1, 0, 0), (.getfield 25, 3, 1, 5), (.iconst 1, 1, 0, 0), (.iadd, 1, 0, 0), (.putfield 25, 3, 1, 5), (.iload_n 2, 1, 0, 0), (.ireturn, 1, 0, 0)])]
def m_X1_readFigure : MB := (yX1_readFigure, cX1_readFigure, 3, (some .int), T_X1_readFigure)
theorem ok_X1_readFigure : mOk m_X1_readFigure := mOk.of (by decide +kernel)
theorem pl_X1_readFigure : plainFor m_X1_readFigure.1 = true := by decide +kernel
def T_X1_readNumber : List (Nat × List MEn) := [(0, [(.aload_n 0, 1, 0, 0), (.getfield 28, 3, 1, 6), (.iconst (-1), 1, 0, 0), (.if_icmp .eq 5, 3, 10, 0), (.iconst 0, 1, 0, 0), (.ireturn, 1, 0, 0)]),
  (10, [(.aload_n 0, 1, 0, 0), (.invokevirtual 34, 3, 0, 0), (.aload_n 0, 1, 0, 0), (.getfield 25, 3, 1, 5), (.istore_n 3, 1, 0, 0), (.iconst 0, 1, 0, 0), (.istore 4, 2, 0, 0)]),
  (22, [(.aload_n 0, 1, 0, 0), (.getfield 25, 3, 1, 5), (.aload_n 0, 1, 0, 0), (.getfield 18, 3, 1, 2), (.if_icmp .ge 51, 3, 81, 0), (.aload_n 0, 1, 0, 0), (.getfield 11, 3, 1, 0), (.aload_n 0, 1, 0, 0), (.getfield 25, 3, 1, 5), (.iaload, 1, 0, 0), (.invokestatic 61, 3, 0, 0), (.ifCond .eq 36, 3, 81, 0), (.iload 4, 2, 0, 0), (.bipush 10, 2, 0, 0), (.imul, 1, 0, 0), (.aload_n 0, 1, 0, 0), (.getfield 11, 3, 1, 0), (.aload_n 0, 1, 0, 0), (.getfield 25, 3, 1, 5), (.iaload, 1, 0, 0), (.iadd, 1, 0, 0), (.bipush 48, 2, 0, 0), (.isub, 1, 0, 0), (.istore 4, 2, 0, 0), (.aload_n 0, 1, 0, 0), (.dup, 1, 0, 0), (.getfield 25, 3, 1, 5), (.iconst 1, 1, 0, 0), (.iadd, 1, 0, 0), (.putfield 25, 3, 1, 5), (.goto (-56), 3, 22, 0)]),
  (81, [(.aload_n 0, 1, 0, 0), (.getfield 25, 3, 1, 5), (.iload_n 3, 1, 0, 0), (.isub, 1, 0, 0), (.istore 5, 2, 0, 0), (.iload 5, 2, 0, 0), (.iconst 1, 1, 0, 0), (.if_icmp .lt 21, 3, 113, 0), (.iload 5, 2, 0, 0), (.iconst 2, 1, 0, 0), (.if_icmp .gt 15, 3, 113, 0), (.iload 4, 2, 0, 0), (.iload_n 1, 1, 0, 0), (.if_icmp .lt 9, 3, 113, 0), (.iload 4, 2, 0, 0), (.iload_n 2, 1, 0, 0), (.if_icmp .le 8, 3, 118, 0)]),
  (113, [(.aload_n 0, 1, 0, 0), (.iload_n 3, 1, 0, 0), (.putfield 28, 3, 1, 6)]),
  (118, [(.iload 4, 2, 0, 0), (.ireturn, 1, 0, 0)])]
def m_X1_readNumber : MB := (yX1_readNumber, cX1_readNumber, 6, (some .int), T_X1_readNumber)
theorem ok_X1_readNumber : mOk m_X1_readNumber := mOk.of (by decide +kernel)
theorem pl_X1_readNumber : plainFor m_X1_readNumber.1 = true := by decide +kernel
def T_X1_readEnd : List (Nat × List MEn) := [(0, [(.aload_n 0, 1, 0, 0), (.getfield 28, 3, 1, 6), (.iconst (-1), 1, 0, 0), (.if_icmp .eq 4, 3, 9, 0), (.return_, 1, 0, 0)]),
  (9, [(.aload_n 0, 1, 0, 0), (.invokevirtual 34, 3, 0, 0), (.aload_n 0, 1, 0, 0), (.getfield 25, 3, 1, 5), (.aload_n 0, 1, 0, 0), (.getfield 18, 3, 1, 2), (.if_icmp .ge 30, 3, 51, 0), (.aload_n 0, 1, 0, 0), (.getfield 11, 3, 1, 0), (.aload_n 0, 1, 0, 0), (.getfield 25, 3, 1, 5), (.iaload, 1, 0, 0), (.bipush 59, 2, 0, 0), (.if_icmp .ne 16, 3, 51, 0), (.aload_n 0, 1, 0, 0), (.dup, 1, 0, 0), (.getfield 25, 3, 1, 5), (.iconst 1, 1, 0, 0), (.iadd, 1, 0, 0), (.putfield 25, 3, 1, 5), (.goto 11, 3, 59, 0)]),
  (51, [(.aload_n 0, 1, 0, 0), (.aload_n 0, 1, 0, 0), (.getfield 25, 3, 1, 5), (.putfield 28, 3, 1, 6)]),
  (59, [(.return_, 1, 0, 0)])]
def m_X1_readEnd : MB := (yX1_readEnd, cX1_readEnd, 1, none, T_X1_readEnd)
theorem ok_X1_readEnd : mOk m_X1_readEnd := mOk.of (by decide +kernel)
theorem pl_X1_readEnd : plainFor m_X1_readEnd.1 = true := by decide +kernel
def T_X1_skipBlanks : List (Nat × List MEn) := [(0, [(.aload_n 0, 1, 0, 0), (.getfield 25, 3, 1, 5), (.aload_n 0, 1, 0, 0), (.getfield 18, 3, 1, 2), (.if_icmp .ge 30, 3, 38, 0), (.aload_n 0, 1, 0, 0), (.getfield 11, 3, 1, 0), (.aload_n 0, 1, 0, 0), (.getfield 25, 3, 1, 5), (.iaload, 1, 0, 0), (.bipush 32, 2, 0, 0), (.if_icmp .ne 16, 3, 38, 0), (.aload_n 0, 1, 0, 0), (.dup, 1, 0, 0), (.getfield 25, 3, 1, 5), (.iconst 1, 1, 0, 0), (.iadd, 1, 0, 0), (.putfield 25, 3, 1, 5), (.goto (-35), 3, 0, 0)]),
  (38, [(.return_, 1, 0, 0)])]
def m_X1_skipBlanks : MB := (yX1_skipBlanks, cX1_skipBlanks, 1, none, T_X1_skipBlanks)
theorem ok_X1_skipBlanks : mOk m_X1_skipBlanks := mOk.of (by decide +kernel)
theorem pl_X1_skipBlanks : plainFor m_X1_skipBlanks.1 = true := by decide +kernel
def T_X1_isFigure : List (Nat × List MEn) := [(0, [(.iload_n 0, 1, 0, 0), (.bipush 48, 2, 0, 0), (.if_icmp .lt 13, 3, 16, 0), (.iload_n 0, 1, 0, 0), (.bipush 57, 2, 0, 0), (.if_icmp .gt 7, 3, 16, 0), (.iconst 1, 1, 0, 0), (.goto 4, 3, 17, 0)]),
  (16, [(.iconst 0, 1, 0, 0)]),
  (17, [(.ireturn, 1, 0, 0)])]
def m_X1_isFigure : MB := (yX1_isFigure, cX1_isFigure, 1, (some .boolean), T_X1_isFigure)
theorem ok_X1_isFigure : mOk m_X1_isFigure := mOk.of (by decide +kernel)
theorem pl_X1_isFigure : plainFor m_X1_isFigure.1 = true := by decide +kernel
def T_X2_towns : List (Nat × List MEn) := [(0, [(.iload_n 1, 1, 0, 0), (.iconst 3, 1, 0, 0), (.bipush 6, 2, 0, 0), (.invokestatic 30, 3, 0, 0), (.ifCond .ne 10, 3, 17, 0), (.aload_n 0, 1, 0, 0), (.bipush (-2), 2, 0, 0), (.invokevirtual 34, 3, 0, 0), (.ireturn, 1, 0, 0)]),
  (17, [(.aload_n 0, 1, 0, 0), (.invokevirtual 38, 3, 0, 0), (.aload_n 0, 1, 0, 0), (.getfield 10, 3, 2, 0), (.getfield 41, 3, 0, 0), (.istore_n 2, 1, 0, 0), (.aload_n 0, 1, 0, 0), (.getfield 10, 3, 2, 0), (.iload_n 1, 1, 0, 0), (.invokevirtual 45, 3, 0, 0), (.iload_n 2, 1, 0, 0), (.ireturn, 1, 0, 0)])]
def m_X2_towns : MB := (yX2_towns, cX2_towns, 3, (some .int), T_X2_towns)
theorem ok_X2_towns : mOk m_X2_towns := mOk.of (by decide +kernel)
theorem pl_X2_towns : plainFor m_X2_towns.1 = true := by decide +kernel
def T_X2_link : List (Nat × List MEn) := [(0, [(.aload_n 0, 1, 0, 0), (.iload_n 1, 1, 0, 0), (.iload_n 2, 1, 0, 0), (.invokevirtual 49, 3, 0, 0), (.ifCond .eq 23, 3, 29, 0), (.iload_n 3, 1, 0, 0), (.iconst 0, 1, 0, 0), (.iconst 1, 1, 0, 0), (.invokestatic 30, 3, 0, 0), (.ifCond .eq 14, 3, 29, 0), (.iload 4, 2, 0, 0), (.iconst 0, 1, 0, 0), (.bipush 30, 2, 0, 0), (.invokestatic 30, 3, 0, 0), (.ifCond .ne 10, 3, 36, 0)]),
  (29, [(.aload_n 0, 1, 0, 0), (.bipush (-2), 2, 0, 0), (.invokevirtual 34, 3, 0, 0), (.ireturn, 1, 0, 0)]),
  (36, [(.aload_n 0, 1, 0, 0), (.invokevirtual 38, 3, 0, 0), (.iload_n 3, 1, 0, 0), (.ifCond .ne 13, 3, 54, 0), (.aload_n 0, 1, 0, 0), (.getfield 10, 3, 2, 0), (.getfield 53, 3, 0, 5), (.goto 10, 3, 61, 0)]),
  (54, [(.aload_n 0, 1, 0, 0), (.getfield 10, 3, 2, 0), (.getfield 57, 3, 0, 6)]),
  (61, [(.astore 5, 2, 0, 0), (.iload_n 1, 1, 0, 0), (.iload_n 2, 1, 0, 0), (.invokestatic 60, 3, 0, 0), (.istore 6, 2, 0, 0), (.aload 5, 2, 0, 0), (.iload 6, 2, 0, 0), (.iaload, 1, 0, 0), (.istore 7, 2, 0, 0), (.aload 5, 2, 0, 0), (.iload 6, 2, 0, 0), (.iload 4, 2, 0, 0), (.iastore, 1, 0, 0), (.iload 7, 2, 0, 0), (.ireturn, 1, 0, 0)])]
def m_X2_link : MB := (yX2_link, cX2_link, 8, (some .int), T_X2_link)
theorem ok_X2_link : mOk m_X2_link := mOk.of (by decide +kernel)
theorem pl_X2_link : plainFor m_X2_link.1 = true := by decide +kernel
def T_X2_links : List (Nat × List MEn) := [(0, [(.iload_n 1, 1, 0, 0), (.iconst 0, 1, 0, 0), (.iconst 1, 1, 0, 0), (.invokestatic 30, 3, 0, 0), (.ifCond .eq 13, 3, 19, 0), (.iload_n 2, 1, 0, 0), (.iconst 0, 1, 0, 0), (.bipush 30, 2, 0, 0), (.invokestatic 30, 3, 0, 0), (.ifCond .ne 10, 3, 26, 0)]),
  (19, [(.aload_n 0, 1, 0, 0), (.bipush (-2), 2, 0, 0), (.invokevirtual 34, 3, 0, 0), (.ireturn, 1, 0, 0)]),
  (26, [(.aload_n 0, 1, 0, 0), (.invokevirtual 38, 3, 0, 0), (.iload_n 1, 1, 0, 0), (.ifCond .ne 13, 3, 44, 0), (.aload_n 0, 1, 0, 0), (.getfield 10, 3, 2, 0), (.getfield 53, 3, 0, 5), (.goto 10, 3, 51, 0)]),
  (44, [(.aload_n 0, 1, 0, 0), (.getfield 10, 3, 2, 0), (.getfield 57, 3, 0, 6)]),
  (51, [(.iload_n 2, 1, 0, 0), (.invokestatic 64, 3, 0, 0), (.aload_n 0, 1, 0, 0), (.getfield 10, 3, 2, 0), (.getfield 41, 3, 0, 0), (.aload_n 0, 1, 0, 0), (.getfield 10, 3, 2, 0), (.getfield 41, 3, 0, 0), (.iconst 1, 1, 0, 0), (.isub, 1, 0, 0), (.imul, 1, 0, 0), (.iconst 2, 1, 0, 0), (.idiv, 1, 0, 0), (.ireturn, 1, 0, 0)])]
def m_X2_links : MB := (yX2_links, cX2_links, 3, (some .int), T_X2_links)
theorem ok_X2_links : mOk m_X2_links := mOk.of (by decide +kernel)
theorem pl_X2_links : plainFor m_X2_links.1 = true := by decide +kernel
def T_X2_back : List (Nat × List MEn) := [(0, [(.iload_n 1, 1, 0, 0), (.iconst 0, 1, 0, 0), (.iconst 1, 1, 0, 0), (.invokestatic 30, 3, 0, 0), (.ifCond .ne 10, 3, 16, 0), (.aload_n 0, 1, 0, 0), (.bipush (-2), 2, 0, 0), (.invokevirtual 34, 3, 0, 0), (.ireturn, 1, 0, 0)]),
  (16, [(.aload_n 0, 1, 0, 0), (.invokevirtual 38, 3, 0, 0), (.aload_n 0, 1, 0, 0), (.getfield 10, 3, 2, 0), (.getfield 68, 3, 0, 1), (.istore_n 2, 1, 0, 0), (.aload_n 0, 1, 0, 0), (.getfield 10, 3, 2, 0), (.iload_n 1, 1, 0, 0), (.putfield 68, 3, 0, 1), (.iload_n 2, 1, 0, 0), (.ireturn, 1, 0, 0)])]
def m_X2_back : MB := (yX2_back, cX2_back, 3, (some .int), T_X2_back)
theorem ok_X2_back : mOk m_X2_back := mOk.of (by decide +kernel)
theorem pl_X2_back : plainFor m_X2_back.1 = true := by decide +kernel
def T_X2_load : List (Nat × List MEn) := [(0, [(.iload_n 1, 1, 0, 0), (.iconst 0, 1, 0, 0), (.bipush 23, 2, 0, 0), (.invokestatic 30, 3, 0, 0), (.ifCond .eq 13, 3, 20, 0), (.iload_n 2, 1, 0, 0), (.iconst 0, 1, 0, 0), (.bipush 9, 2, 0, 0), (.invokestatic 30, 3, 0, 0), (.ifCond .ne 10, 3, 27, 0)]),
  (20, [(.aload_n 0, 1, 0, 0), (.bipush (-2), 2, 0, 0), (.invokevirtual 34, 3, 0, 0), (.ireturn, 1, 0, 0)]),
  (27, [(.aload_n 0, 1, 0, 0), (.invokevirtual 38, 3, 0, 0), (.aload_n 0, 1, 0, 0), (.getfield 10, 3, 2, 0), (.getfield 71, 3, 0, 11), (.iload_n 1, 1, 0, 0), (.iaload, 1, 0, 0), (.istore_n 3, 1, 0, 0), (.aload_n 0, 1, 0, 0), (.getfield 10, 3, 2, 0), (.getfield 71, 3, 0, 11), (.iload_n 1, 1, 0, 0), (.iload_n 2, 1, 0, 0), (.iastore, 1, 0, 0), (.iload_n 3, 1, 0, 0), (.ireturn, 1, 0, 0)])]
def m_X2_load : MB := (yX2_load, cX2_load, 4, (some .int), T_X2_load)
theorem ok_X2_load : mOk m_X2_load := mOk.of (by decide +kernel)
theorem pl_X2_load : plainFor m_X2_load.1 = true := by decide +kernel
def T_X2_seed : List (Nat × List MEn) := [(0, [(.iload_n 1, 1, 0, 0), (.iconst 0, 1, 0, 0), (.ldc 74, 2, 999999, 0), (.invokestatic 30, 3, 0, 0), (.ifCond .ne 10, 3, 17, 0), (.aload_n 0, 1, 0, 0), (.bipush (-2), 2, 0, 0), (.invokevirtual 34, 3, 0, 0), (.ireturn, 1, 0, 0)]),
  (17, [(.aload_n 0, 1, 0, 0), (.invokevirtual 38, 3, 0, 0), (.aload_n 0, 1, 0, 0), (.getfield 10, 3, 2, 0), (.iload_n 1, 1, 0, 0), (.putfield 75, 3, 0, 2), (.iconst 1, 1, 0, 0), (.ireturn, 1, 0, 0)])]
def m_X2_seed : MB := (yX2_seed, cX2_seed, 2, (some .int), T_X2_seed)
theorem ok_X2_seed : mOk m_X2_seed := mOk.of (by decide +kernel)
theorem pl_X2_seed : plainFor m_X2_seed.1 = true := by decide +kernel
def T_X2_of : List (Nat × List MEn) := [(0, [(.aload_n 0, 1, 0, 0), (.iload_n 1, 1, 0, 0), (.iload_n 2, 1, 0, 0), (.invokevirtual 49, 3, 0, 0), (.ifCond .eq 12, 3, 18, 0), (.iload_n 3, 1, 0, 0), (.iconst 0, 1, 0, 0), (.iconst 3, 1, 0, 0), (.invokestatic 30, 3, 0, 0), (.ifCond .ne 10, 3, 25, 0)]),
  (18, [(.aload_n 0, 1, 0, 0), (.bipush (-2), 2, 0, 0), (.invokevirtual 34, 3, 0, 0), (.ireturn, 1, 0, 0)]),
  (25, [(.iload_n 1, 1, 0, 0), (.iload_n 2, 1, 0, 0), (.invokestatic 60, 3, 0, 0), (.istore 4, 2, 0, 0), (.iload_n 3, 1, 0, 0), (.tableswitch 59 0 2 #[27, 38, 49], 27, 0, 0)]),
  (60, [(.aload_n 0, 1, 0, 0), (.getfield 10, 3, 2, 0), (.getfield 53, 3, 0, 5), (.iload 4, 2, 0, 0), (.iaload, 1, 0, 0), (.ireturn, 1, 0, 0)]),
  (71, [(.aload_n 0, 1, 0, 0), (.getfield 10, 3, 2, 0), (.getfield 57, 3, 0, 6), (.iload 4, 2, 0, 0), (.iaload, 1, 0, 0), (.ireturn, 1, 0, 0)]),
  (82, [(.aload_n 0, 1, 0, 0), (.getfield 10, 3, 2, 0), (.iload 4, 2, 0, 0), (.invokevirtual 78, 3, 0, 0), (.ireturn, 1, 0, 0)]),
  (92, [(.aload_n 0, 1, 0, 0), (.getfield 10, 3, 2, 0), (.iload 4, 2, 0, 0), (.invokevirtual 81, 3, 0, 0), (.ireturn, 1, 0, 0)])]
def m_X2_of : MB := (yX2_of, cX2_of, 5, (some .int), T_X2_of)
theorem ok_X2_of : mOk m_X2_of := mOk.of (by decide +kernel)
theorem pl_X2_of : plainFor m_X2_of.1 = true := by decide +kernel
def T_X2_sticky : List (Nat × List MEn) := [(0, [(.aload_n 0, 1, 0, 0), (.iload_n 1, 1, 0, 0), (.iload_n 2, 1, 0, 0), (.invokevirtual 49, 3, 0, 0), (.ifCond .eq 19, 3, 25, 0), (.aload_n 0, 1, 0, 0), (.getfield 10, 3, 2, 0), (.getfield 84, 3, 0, 8), (.iload_n 1, 1, 0, 0), (.iload_n 2, 1, 0, 0), (.invokestatic 87, 3, 0, 0), (.iaload, 1, 0, 0), (.goto 9, 3, 31, 0)]),
  (25, [(.aload_n 0, 1, 0, 0), (.bipush (-2), 2, 0, 0), (.invokevirtual 34, 3, 0, 0)]),
  (31, [(.ireturn, 1, 0, 0)])]
def m_X2_sticky : MB := (yX2_sticky, cX2_sticky, 3, (some .int), T_X2_sticky)
theorem ok_X2_sticky : mOk m_X2_sticky := mOk.of (by decide +kernel)
theorem pl_X2_sticky : plainFor m_X2_sticky.1 = true := by decide +kernel
def T_X2_call : List (Nat × List MEn) := [(0, [(.aload_n 0, 1, 0, 0), (.iload_n 1, 1, 0, 0), (.iload_n 2, 1, 0, 0), (.invokevirtual 49, 3, 0, 0), (.ifCond .eq 13, 3, 19, 0), (.iload_n 3, 1, 0, 0), (.iconst 1, 1, 0, 0), (.bipush 24, 2, 0, 0), (.invokestatic 30, 3, 0, 0), (.ifCond .ne 10, 3, 26, 0)]),
  (19, [(.aload_n 0, 1, 0, 0), (.bipush (-2), 2, 0, 0), (.invokevirtual 34, 3, 0, 0), (.ireturn, 1, 0, 0)]),
  (26, [(.aload_n 0, 1, 0, 0), (.getfield 10, 3, 2, 0), (.getfield 90, 3, 0, 4), (.bipush 80, 2, 0, 0), (.if_icmp .lt 10, 3, 45, 0), (.aload_n 0, 1, 0, 0), (.bipush (-4), 2, 0, 0), (.invokevirtual 34, 3, 0, 0), (.ireturn, 1, 0, 0)]),
  (45, [(.aload_n 0, 1, 0, 0), (.invokevirtual 38, 3, 0, 0), (.aload_n 0, 1, 0, 0), (.getfield 10, 3, 2, 0), (.iload_n 1, 1, 0, 0), (.iload_n 2, 1, 0, 0), (.iload_n 3, 1, 0, 0), (.invokevirtual 93, 3, 0, 0), (.ireturn, 1, 0, 0)])]
def m_X2_call : MB := (yX2_call, cX2_call, 4, (some .int), T_X2_call)
theorem ok_X2_call : mOk m_X2_call := mOk.of (by decide +kernel)
theorem pl_X2_call : plainFor m_X2_call.1 = true := by decide +kernel
def T_X2_hours : List (Nat × List MEn) := [(0, [(.iload_n 1, 1, 0, 0), (.iconst 1, 1, 0, 0), (.bipush 48, 2, 0, 0), (.invokestatic 30, 3, 0, 0), (.ifCond .ne 10, 3, 17, 0), (.aload_n 0, 1, 0, 0), (.bipush (-2), 2, 0, 0), (.invokevirtual 34, 3, 0, 0), (.ireturn, 1, 0, 0)]),
  (17, [(.aload_n 0, 1, 0, 0), (.invokevirtual 38, 3, 0, 0), (.aload_n 0, 1, 0, 0), (.getfield 10, 3, 2, 0), (.iload_n 1, 1, 0, 0), (.invokevirtual 97, 3, 0, 0), (.ireturn, 1, 0, 0)])]
def m_X2_hours : MB := (yX2_hours, cX2_hours, 2, (some .int), T_X2_hours)
theorem ok_X2_hours : mOk m_X2_hours := mOk.of (by decide +kernel)
theorem pl_X2_hours : plainFor m_X2_hours.1 = true := by decide +kernel
def T_X2_going : List (Nat × List MEn) := [(0, [(.iload_n 1, 1, 0, 0), (.ifCond .lt 12, 3, 13, 0), (.iload_n 2, 1, 0, 0), (.iconst 0, 1, 0, 0), (.iconst 3, 1, 0, 0), (.invokestatic 30, 3, 0, 0), (.ifCond .ne 10, 3, 20, 0)]),
  (13, [(.aload_n 0, 1, 0, 0), (.bipush (-2), 2, 0, 0), (.invokevirtual 34, 3, 0, 0), (.ireturn, 1, 0, 0)]),
  (20, [(.iload_n 1, 1, 0, 0), (.aload_n 0, 1, 0, 0), (.getfield 10, 3, 2, 0), (.getfield 90, 3, 0, 4), (.if_icmp .ge 19, 3, 47, 0), (.aload_n 0, 1, 0, 0), (.getfield 10, 3, 2, 0), (.getfield 100, 3, 0, 12), (.iload_n 1, 1, 0, 0), (.iconst 4, 1, 0, 0), (.imul, 1, 0, 0), (.iload_n 2, 1, 0, 0), (.iadd, 1, 0, 0), (.iaload, 1, 0, 0), (.goto 4, 3, 48, 0)]),
  (47, [(.iconst (-1), 1, 0, 0)]),
  (48, [(.ireturn, 1, 0, 0)])]
def m_X2_going : MB := (yX2_going, cX2_going, 3, (some .int), T_X2_going)
theorem ok_X2_going : mOk m_X2_going := mOk.of (by decide +kernel)
theorem pl_X2_going : plainFor m_X2_going.1 = true := by decide +kernel
def T_X2_ends : List (Nat × List MEn) := [(0, [(.iload_n 1, 1, 0, 0), (.ifCond .ge 10, 3, 11, 0), (.aload_n 0, 1, 0, 0), (.bipush (-2), 2, 0, 0), (.invokevirtual 34, 3, 0, 0), (.ireturn, 1, 0, 0)]),
  (11, [(.iload_n 1, 1, 0, 0), (.aload_n 0, 1, 0, 0), (.getfield 10, 3, 2, 0), (.getfield 90, 3, 0, 4), (.if_icmp .lt 10, 3, 29, 0), (.aload_n 0, 1, 0, 0), (.bipush (-3), 2, 0, 0), (.invokevirtual 34, 3, 0, 0), (.ireturn, 1, 0, 0)]),
  (29, [(.aload_n 0, 1, 0, 0), (.invokevirtual 38, 3, 0, 0), (.aload_n 0, 1, 0, 0), (.getfield 10, 3, 2, 0), (.iload_n 1, 1, 0, 0), (.invokevirtual 103, 3, 0, 0), (.aload_n 0, 1, 0, 0), (.getfield 10, 3, 2, 0), (.getfield 90, 3, 0, 4), (.ireturn, 1, 0, 0)])]
def m_X2_ends : MB := (yX2_ends, cX2_ends, 2, (some .int), T_X2_ends)
theorem ok_X2_ends : mOk m_X2_ends := mOk.of (by decide +kernel)
theorem pl_X2_ends : plainFor m_X2_ends.1 = true := by decide +kernel
def T_X2_all : List (Nat × List MEn) := [(0, [(.iload_n 1, 1, 0, 0), (.iconst 0, 1, 0, 0), (.iconst 4, 1, 0, 0), (.invokestatic 30, 3, 0, 0), (.ifCond .eq 15, 3, 21, 0), (.aload_n 0, 1, 0, 0), (.getfield 10, 3, 2, 0), (.getfield 106, 3, 0, 10), (.iload_n 1, 1, 0, 0), (.iaload, 1, 0, 0), (.goto 9, 3, 27, 0)]),
  (21, [(.aload_n 0, 1, 0, 0), (.bipush (-2), 2, 0, 0), (.invokevirtual 34, 3, 0, 0)]),
  (27, [(.ireturn, 1, 0, 0)])]
def m_X2_all : MB := (yX2_all, cX2_all, 2, (some .int), T_X2_all)
theorem ok_X2_all : mOk m_X2_all := mOk.of (by decide +kernel)
theorem pl_X2_all : plainFor m_X2_all.1 = true := by decide +kernel
def T_X2_pair : List (Nat × List MEn) := [(0, [(.aload_n 0, 1, 0, 0), (.iload_n 1, 1, 0, 0), (.iload_n 2, 1, 0, 0), (.invokevirtual 49, 3, 0, 0), (.ifCond .eq 12, 3, 18, 0), (.iload_n 3, 1, 0, 0), (.iconst 0, 1, 0, 0), (.iconst 4, 1, 0, 0), (.invokestatic 30, 3, 0, 0), (.ifCond .ne 10, 3, 25, 0)]),
  (18, [(.aload_n 0, 1, 0, 0), (.bipush (-2), 2, 0, 0), (.invokevirtual 34, 3, 0, 0), (.ireturn, 1, 0, 0)]),
  (25, [(.aload_n 0, 1, 0, 0), (.getfield 10, 3, 2, 0), (.getfield 109, 3, 0, 9), (.iload_n 3, 1, 0, 0), (.bipush 36, 2, 0, 0), (.imul, 1, 0, 0), (.iload_n 1, 1, 0, 0), (.iload_n 2, 1, 0, 0), (.invokestatic 87, 3, 0, 0), (.iadd, 1, 0, 0), (.iaload, 1, 0, 0), (.ireturn, 1, 0, 0)])]
def m_X2_pair : MB := (yX2_pair, cX2_pair, 4, (some .int), T_X2_pair)
theorem ok_X2_pair : mOk m_X2_pair := mOk.of (by decide +kernel)
theorem pl_X2_pair : plainFor m_X2_pair.1 = true := by decide +kernel
def T_X2_worst : List (Nat × List MEn) := [(0, [(.iload_n 1, 1, 0, 0), (.iconst 0, 1, 0, 0), (.iconst 3, 1, 0, 0), (.invokestatic 30, 3, 0, 0), (.ifCond .ne 10, 3, 16, 0), (.aload_n 0, 1, 0, 0), (.bipush (-2), 2, 0, 0), (.invokevirtual 34, 3, 0, 0), (.ireturn, 1, 0, 0)]),
  (16, [(.iload_n 1, 1, 0, 0), (.iconst 2, 1, 0, 0), (.if_icmp .ge 13, 3, 31, 0), (.aload_n 0, 1, 0, 0), (.getfield 10, 3, 2, 0), (.invokevirtual 112, 3, 0, 0), (.goto 10, 3, 38, 0)]),
  (31, [(.aload_n 0, 1, 0, 0), (.getfield 10, 3, 2, 0), (.invokevirtual 116, 3, 0, 0)]),
  (38, [(.istore_n 2, 1, 0, 0), (.iload_n 1, 1, 0, 0), (.lookupswitch 46 #[(1, 28), (3, 37)], 28, 0, 0)]),
  (68, [(.aload_n 0, 1, 0, 0), (.getfield 10, 3, 2, 0), (.iload_n 2, 1, 0, 0), (.invokevirtual 119, 3, 0, 0), (.ireturn, 1, 0, 0)]),
  (77, [(.aload_n 0, 1, 0, 0), (.getfield 10, 3, 2, 0), (.iload_n 2, 1, 0, 0), (.invokevirtual 78, 3, 0, 0), (.ireturn, 1, 0, 0)]),
  (86, [(.iload_n 2, 1, 0, 0), (.bipush 6, 2, 0, 0), (.idiv, 1, 0, 0), (.bipush 10, 2, 0, 0), (.imul, 1, 0, 0), (.iload_n 2, 1, 0, 0), (.bipush 6, 2, 0, 0), (.irem, 1, 0, 0), (.iadd, 1, 0, 0), (.ireturn, 1, 0, 0)])]
def m_X2_worst : MB := (yX2_worst, cX2_worst, 3, (some .int), T_X2_worst)
theorem ok_X2_worst : mOk m_X2_worst := mOk.of (by decide +kernel)
theorem pl_X2_worst : plainFor m_X2_worst.1 = true := by decide +kernel
def T_X2_burden : List (Nat × List MEn) := [(0, [(.aload_n 0, 1, 0, 0), (.getfield 10, 3, 2, 0), (.getfield 90, 3, 0, 4), (.ifCond .ne 7, 3, 14, 0), (.iconst 0, 1, 0, 0), (.goto 22, 3, 33, 0)]),
  (14, [(.aload_n 0, 1, 0, 0), (.getfield 10, 3, 2, 0), (.invokevirtual 122, 3, 0, 0), (.sipush 1000, 3, 0, 0), (.imul, 1, 0, 0), (.aload_n 0, 1, 0, 0), (.getfield 10, 3, 2, 0), (.getfield 90, 3, 0, 4), (.idiv, 1, 0, 0)]),
  (33, [(.ireturn, 1, 0, 0)])]
def m_X2_burden : MB := (yX2_burden, cX2_burden, 1, (some .int), T_X2_burden)
theorem ok_X2_burden : mOk m_X2_burden := mOk.of (by decide +kernel)
theorem pl_X2_burden : plainFor m_X2_burden.1 = true := by decide +kernel
def T_X2_would : List (Nat × List MEn) := [(0, [(.iload_n 1, 1, 0, 0), (.iconst 1, 1, 0, 0), (.bipush 48, 2, 0, 0), (.invokestatic 30, 3, 0, 0), (.ifCond .eq 13, 3, 20, 0), (.iload_n 2, 1, 0, 0), (.iconst 0, 1, 0, 0), (.bipush 30, 2, 0, 0), (.invokestatic 30, 3, 0, 0), (.ifCond .ne 10, 3, 27, 0)]),
  (20, [(.aload_n 0, 1, 0, 0), (.bipush (-2), 2, 0, 0), (.invokevirtual 34, 3, 0, 0), (.ireturn, 1, 0, 0)]),
  (27, [(.aload_n 0, 1, 0, 0), (.iload_n 2, 1, 0, 0), (.iload_n 1, 1, 0, 0), (.ldc 125, 2, 1000000, 0), (.invokevirtual 126, 3, 0, 0), (.ireturn, 1, 0, 0)])]
def m_X2_would : MB := (yX2_would, cX2_would, 3, (some .int), T_X2_would)
theorem ok_X2_would : mOk m_X2_would := mOk.of (by decide +kernel)
theorem pl_X2_would : plainFor m_X2_would.1 = true := by decide +kernel
def T_X2_best : List (Nat × List MEn) := [(0, [(.iload_n 1, 1, 0, 0), (.iconst 1, 1, 0, 0), (.bipush 48, 2, 0, 0), (.invokestatic 30, 3, 0, 0), (.ifCond .eq 12, 3, 19, 0), (.iload_n 2, 1, 0, 0), (.iconst 0, 1, 0, 0), (.iconst 1, 1, 0, 0), (.invokestatic 30, 3, 0, 0), (.ifCond .ne 10, 3, 26, 0)]),
  (19, [(.aload_n 0, 1, 0, 0), (.bipush (-2), 2, 0, 0), (.invokevirtual 34, 3, 0, 0), (.ireturn, 1, 0, 0)]),
  (26, [(.iconst 0, 1, 0, 0), (.istore_n 3, 1, 0, 0), (.ldc 125, 2, 1000000, 0), (.istore 4, 2, 0, 0), (.iconst 0, 1, 0, 0), (.istore 5, 2, 0, 0)]),
  (35, [(.iload 5, 2, 0, 0), (.bipush 30, 2, 0, 0), (.if_icmp .gt 39, 3, 78, 0), (.iload 4, 2, 0, 0), (.ifCond .le 34, 3, 78, 0), (.aload_n 0, 1, 0, 0), (.iload 5, 2, 0, 0), (.iload_n 1, 1, 0, 0), (.iload 4, 2, 0, 0), (.invokevirtual 126, 3, 0, 0), (.istore 6, 2, 0, 0), (.iload 6, 2, 0, 0), (.iload 4, 2, 0, 0), (.if_icmp .ge 10, 3, 72, 0), (.iload 6, 2, 0, 0), (.istore 4, 2, 0, 0), (.iload 5, 2, 0, 0), (.istore_n 3, 1, 0, 0)]),
  (72, [(.iinc 5 1, 3, 0, 0), (.goto (-40), 3, 35, 0)]),
  (78, [(.iload_n 2, 1, 0, 0), (.ifCond .ne 7, 3, 86, 0), (.iload_n 3, 1, 0, 0), (.goto 5, 3, 88, 0)]),
  (86, [(.iload 4, 2, 0, 0)]),
  (88, [(.ireturn, 1, 0, 0)])]
def m_X2_best : MB := (yX2_best, cX2_best, 7, (some .int), T_X2_best)
theorem ok_X2_best : mOk m_X2_best := mOk.of (by decide +kernel)
theorem pl_X2_best : plainFor m_X2_best.1 = true := by decide +kernel
def T_X2_choked : List (Nat × List MEn) := [(0, [(.iload_n 1, 1, 0, 0), (.iconst 0, 1, 0, 0), (.iconst 1, 1, 0, 0), (.invokestatic 30, 3, 0, 0), (.ifCond .ne 10, 3, 16, 0), (.aload_n 0, 1, 0, 0), (.bipush (-2), 2, 0, 0), (.invokevirtual 34, 3, 0, 0), (.ireturn, 1, 0, 0)]),
  (16, [(.iconst 0, 1, 0, 0), (.istore_n 2, 1, 0, 0), (.iconst 0, 1, 0, 0), (.istore_n 3, 1, 0, 0)]),
  (20, [(.iload_n 3, 1, 0, 0), (.aload_n 0, 1, 0, 0), (.getfield 10, 3, 2, 0), (.getfield 41, 3, 0, 0), (.if_icmp .ge 74, 3, 102, 0), (.iconst 0, 1, 0, 0), (.istore 4, 2, 0, 0)]),
  (34, [(.iload 4, 2, 0, 0), (.aload_n 0, 1, 0, 0), (.getfield 10, 3, 2, 0), (.getfield 41, 3, 0, 0), (.if_icmp .ge 53, 3, 96, 0), (.iload_n 3, 1, 0, 0), (.iload 4, 2, 0, 0), (.if_icmp .eq 41, 3, 90, 0), (.iload_n 1, 1, 0, 0), (.ifCond .ne 21, 3, 74, 0), (.aload_n 0, 1, 0, 0), (.getfield 10, 3, 2, 0), (.iload_n 3, 1, 0, 0), (.iload 4, 2, 0, 0), (.invokevirtual 129, 3, 0, 0), (.bipush (-5), 2, 0, 0), (.if_icmp .ne 22, 3, 90, 0), (.goto 16, 3, 87, 0)]),
  (74, [(.aload_n 0, 1, 0, 0), (.getfield 10, 3, 2, 0), (.iload_n 3, 1, 0, 0), (.iload 4, 2, 0, 0), (.invokevirtual 132, 3, 0, 0), (.ifCond .ne 6, 3, 90, 0)]),
  (87, [(.iinc 2 1, 3, 0, 0)]),
  (90, [(.iinc 4 1, 3, 0, 0), (.goto (-59), 3, 34, 0)]),
  (96, [(.iinc 3 1, 3, 0, 0), (.goto (-79), 3, 20, 0)]),
  (102, [(.iload_n 2, 1, 0, 0), (.ireturn, 1, 0, 0)])]
def m_X2_choked : MB := (yX2_choked, cX2_choked, 5, (some .int), T_X2_choked)
theorem ok_X2_choked : mOk m_X2_choked := mOk.of (by decide +kernel)
theorem pl_X2_choked : plainFor m_X2_choked.1 = true := by decide +kernel
def T_X2_type : List (Nat × List MEn) := [(0, [(.iload_n 1, 1, 0, 0), (.iconst 0, 1, 0, 0), (.bipush 127, 2, 0, 0), (.invokestatic 30, 3, 0, 0), (.ifCond .ne 10, 3, 17, 0), (.aload_n 0, 1, 0, 0), (.bipush (-2), 2, 0, 0), (.invokevirtual 34, 3, 0, 0), (.ireturn, 1, 0, 0)]),
  (17, [(.aload_n 0, 1, 0, 0), (.getfield 26, 3, 2, 3), (.iload_n 1, 1, 0, 0), (.invokevirtual 135, 3, 0, 0), (.ifCond .eq 13, 3, 38, 0), (.aload_n 0, 1, 0, 0), (.getfield 26, 3, 2, 3), (.getfield 139, 3, 1, 2), (.goto 9, 3, 44, 0)]),
  (38, [(.aload_n 0, 1, 0, 0), (.bipush (-4), 2, 0, 0), (.invokevirtual 34, 3, 0, 0)]),
  (44, [(.ireturn, 1, 0, 0)])]
def m_X2_type : MB := (yX2_type, cX2_type, 2, (some .int), T_X2_type)
theorem ok_X2_type : mOk m_X2_type := mOk.of (by decide +kernel)
theorem pl_X2_type : plainFor m_X2_type.1 = true := by decide +kernel
def T_X2_clear : List (Nat × List MEn) := [(0, [(.aload_n 0, 1, 0, 0), (.getfield 26, 3, 2, 3), (.getfield 139, 3, 1, 2), (.istore_n 1, 1, 0, 0), (.aload_n 0, 1, 0, 0), (.getfield 26, 3, 2, 3), (.iconst 0, 1, 0, 0), (.putfield 139, 3, 1, 2), (.iload_n 1, 1, 0, 0), (.ireturn, 1, 0, 0)])]
def m_X2_clear : MB := (yX2_clear, cX2_clear, 2, (some .int), T_X2_clear)
theorem ok_X2_clear : mOk m_X2_clear := mOk.of (by decide +kernel)
theorem pl_X2_clear : plainFor m_X2_clear.1 = true := by decide +kernel
def T_X2_does : List (Nat × List MEn) := [(0, [(.aload_n 0, 1, 0, 0), (.getfield 26, 3, 2, 3), (.aload_n 0, 1, 0, 0), (.getfield 10, 3, 2, 0), (.getfield 41, 3, 0, 0), (.invokevirtual 142, 3, 0, 0), (.istore_n 1, 1, 0, 0), (.iload_n 1, 1, 0, 0), (.iconst (-1), 1, 0, 0), (.if_icmp .eq 8, 3, 25, 0), (.bipush (-10), 2, 0, 0), (.iload_n 1, 1, 0, 0), (.isub, 1, 0, 0), (.ireturn, 1, 0, 0)]),
  (25, [(.aload_n 0, 1, 0, 0), (.invokevirtual 38, 3, 0, 0), (.iconst 0, 1, 0, 0), (.istore_n 2, 1, 0, 0), (.iconst 0, 1, 0, 0), (.istore_n 3, 1, 0, 0)]),
  (33, [(.iload_n 3, 1, 0, 0), (.aload_n 0, 1, 0, 0), (.getfield 26, 3, 2, 3), (.getfield 145, 3, 1, 3), (.if_icmp .ge 32, 3, 73, 0), (.aload_n 0, 1, 0, 0), (.getfield 10, 3, 2, 0), (.aload_n 0, 1, 0, 0), (.getfield 26, 3, 2, 3), (.getfield 148, 3, 1, 1), (.iload_n 3, 1, 0, 0), (.iconst 4, 1, 0, 0), (.imul, 1, 0, 0), (.invokevirtual 151, 3, 0, 0), (.ifCond .eq 6, 3, 67, 0), (.iinc 2 1, 3, 0, 0)]),
  (67, [(.iinc 3 1, 3, 0, 0), (.goto (-37), 3, 33, 0)]),
  (73, [(.iload_n 2, 1, 0, 0), (.ireturn, 1, 0, 0)])]
def m_X2_does : MB := (yX2_does, cX2_does, 4, (some .int), T_X2_does)
theorem ok_X2_does : mOk m_X2_does := mOk.of (by decide +kernel)
theorem pl_X2_does : plainFor m_X2_does.1 = true := by decide +kernel
def T_X2_undo : List (Nat × List MEn) := [(0, [(.aload_n 0, 1, 0, 0), (.getfield 155, 3, 2, 4), (.ifCond .ne 10, 3, 14, 0), (.aload_n 0, 1, 0, 0), (.bipush (-3), 2, 0, 0), (.invokevirtual 34, 3, 0, 0), (.ireturn, 1, 0, 0)]),
  (14, [(.aload_n 0, 1, 0, 0), (.dup, 1, 0, 0), (.getfield 155, 3, 2, 4), (.iconst 1, 1, 0, 0), (.isub, 1, 0, 0), (.putfield 155, 3, 2, 4), (.aload_n 0, 1, 0, 0), (.aload_n 0, 1, 0, 0), (.getfield 158, 3, 2, 5), (.iconst 5, 1, 0, 0), (.iadd, 1, 0, 0), (.iconst 1, 1, 0, 0), (.isub, 1, 0, 0), (.iconst 5, 1, 0, 0), (.irem, 1, 0, 0), (.putfield 158, 3, 2, 5), (.aload_n 0, 1, 0, 0), (.getfield 10, 3, 2, 0), (.aload_n 0, 1, 0, 0), (.getfield 19, 3, 2, 2), (.aload_n 0, 1, 0, 0), (.getfield 158, 3, 2, 5), (.aaload, 1, 0, 0), (.invokevirtual 161, 3, 0, 0), (.aload_n 0, 1, 0, 0), (.getfield 155, 3, 2, 4), (.ireturn, 1, 0, 0)])]
def m_X2_undo : MB := (yX2_undo, cX2_undo, 1, (some .int), T_X2_undo)
theorem ok_X2_undo : mOk m_X2_undo := mOk.of (by decide +kernel)
theorem pl_X2_undo : plainFor m_X2_undo.1 = true := by decide +kernel
def T_X2_told : List (Nat × List MEn) := [(0, [(.iload_n 1, 1, 0, 0), (.tableswitch 123 0 9 #[55, 60, 65, 70, 78, 86, 94, 102, 110, 118], 55, 0, 0)]),
  (56, [(.aload_n 0, 1, 0, 0), (.getfield 165, 3, 2, 6), (.ireturn, 1, 0, 0)]),
  (61, [(.aload_n 0, 1, 0, 0), (.getfield 168, 3, 2, 7), (.ireturn, 1, 0, 0)]),
  (66, [(.aload_n 0, 1, 0, 0), (.getfield 171, 3, 2, 8), (.ireturn, 1, 0, 0)]),
  (71, [(.aload_n 0, 1, 0, 0), (.getfield 26, 3, 2, 3), (.getfield 139, 3, 1, 2), (.ireturn, 1, 0, 0)]),
  (79, [(.aload_n 0, 1, 0, 0), (.getfield 10, 3, 2, 0), (.getfield 41, 3, 0, 0), (.ireturn, 1, 0, 0)]),
  (87, [(.aload_n 0, 1, 0, 0), (.getfield 10, 3, 2, 0), (.getfield 68, 3, 0, 1), (.ireturn, 1, 0, 0)]),
  (95, [(.aload_n 0, 1, 0, 0), (.getfield 10, 3, 2, 0), (.getfield 90, 3, 0, 4), (.ireturn, 1, 0, 0)]),
  (103, [(.aload_n 0, 1, 0, 0), (.getfield 10, 3, 2, 0), (.getfield 174, 3, 0, 3), (.ireturn, 1, 0, 0)]),
  (111, [(.aload_n 0, 1, 0, 0), (.getfield 10, 3, 2, 0), (.getfield 75, 3, 0, 2), (.ireturn, 1, 0, 0)]),
  (119, [(.aload_n 0, 1, 0, 0), (.getfield 155, 3, 2, 4), (.ireturn, 1, 0, 0)]),
  (124, [(.aload_n 0, 1, 0, 0), (.bipush (-2), 2, 0, 0), (.invokevirtual 34, 3, 0, 0), (.ireturn, 1, 0, 0)])]
def m_X2_told : MB := (yX2_told, cX2_told, 2, (some .int), T_X2_told)
theorem ok_X2_told : mOk m_X2_told := mOk.of (by decide +kernel)
theorem pl_X2_told : plainFor m_X2_told.1 = true := by decide +kernel
def T_X2_digest : List (Nat × List MEn) := [(0, [(.ldc2_w 177, 3, 2129, 0), (.lstore_n 1, 1, 0, 0), (.iconst 0, 1, 0, 0), (.istore_n 3, 1, 0, 0)]),
  (6, [(.iload_n 3, 1, 0, 0), (.bipush 9, 2, 0, 0), (.if_icmp .gt 22, 3, 31, 0), (.ldc2_w 179, 3, 31, 0), (.lload_n 1, 1, 0, 0), (.lmul, 1, 0, 0), (.aload_n 0, 1, 0, 0), (.iload_n 3, 1, 0, 0), (.invokevirtual 181, 3, 0, 0), (.i2l, 1, 0, 0), (.ladd, 1, 0, 0), (.lstore_n 1, 1, 0, 0), (.iinc 3 1, 3, 0, 0), (.goto (-22), 3, 6, 0)]),
  (31, [(.aload_n 0, 1, 0, 0), (.getfield 10, 3, 2, 0), (.lload_n 1, 1, 0, 0), (.invokevirtual 184, 3, 0, 0), (.lstore_n 1, 1, 0, 0), (.aload_n 0, 1, 0, 0), (.getfield 10, 3, 2, 0), (.lload_n 1, 1, 0, 0), (.invokevirtual 188, 3, 0, 0), (.lstore_n 1, 1, 0, 0), (.aload_n 0, 1, 0, 0), (.getfield 10, 3, 2, 0), (.lload_n 1, 1, 0, 0), (.invokevirtual 191, 3, 0, 0), (.lreturn, 1, 0, 0)])]
def m_X2_digest : MB := (yX2_digest, cX2_digest, 4, (some .long), T_X2_digest)
theorem ok_X2_digest : mOk m_X2_digest := mOk.of (by decide +kernel)
theorem pl_X2_digest : plainFor m_X2_digest.1 = true := by decide +kernel
def T_X2_within : List (Nat × List MEn) := [(0, [(.iload_n 0, 1, 0, 0), (.iload_n 1, 1, 0, 0), (.if_icmp .lt 12, 3, 14, 0), (.iload_n 0, 1, 0, 0), (.iload_n 2, 1, 0, 0), (.if_icmp .gt 7, 3, 14, 0), (.iconst 1, 1, 0, 0), (.goto 4, 3, 15, 0)]),
  (14, [(.iconst 0, 1, 0, 0)]),
  (15, [(.ireturn, 1, 0, 0)])]
def m_X2_within : MB := (yX2_within, cX2_within, 3, (some .boolean), T_X2_within)
theorem ok_X2_within : mOk m_X2_within := mOk.of (by decide +kernel)
theorem pl_X2_within : plainFor m_X2_within.1 = true := by decide +kernel
def T_X2_isPair : List (Nat × List MEn) := [(0, [(.iload_n 1, 1, 0, 0), (.iload_n 2, 1, 0, 0), (.if_icmp .eq 41, 3, 43, 0), (.iload_n 1, 1, 0, 0), (.iconst 0, 1, 0, 0), (.aload_n 0, 1, 0, 0), (.getfield 10, 3, 2, 0), (.getfield 41, 3, 0, 0), (.iconst 1, 1, 0, 0), (.isub, 1, 0, 0), (.invokestatic 30, 3, 0, 0), (.ifCond .eq 24, 3, 43, 0), (.iload_n 2, 1, 0, 0), (.iconst 0, 1, 0, 0), (.aload_n 0, 1, 0, 0), (.getfield 10, 3, 2, 0), (.getfield 41, 3, 0, 0), (.iconst 1, 1, 0, 0), (.isub, 1, 0, 0), (.invokestatic 30, 3, 0, 0), (.ifCond .eq 7, 3, 43, 0), (.iconst 1, 1, 0, 0), (.goto 4, 3, 44, 0)]),
  (43, [(.iconst 0, 1, 0, 0)]),
  (44, [(.ireturn, 1, 0, 0)])]
def m_X2_isPair : MB := (yX2_isPair, cX2_isPair, 3, (some .boolean), T_X2_isPair)
theorem ok_X2_isPair : mOk m_X2_isPair := mOk.of (by decide +kernel)
theorem pl_X2_isPair : plainFor m_X2_isPair.1 = true := by decide +kernel
def T_X2_refuse : List (Nat × List MEn) := [(0, [(.iload_n 1, 1, 0, 0), (.bipush (-2), 2, 0, 0), (.if_icmp .ne 16, 3, 19, 0), (.aload_n 0, 1, 0, 0), (.dup, 1, 0, 0), (.getfield 165, 3, 2, 6), (.iconst 1, 1, 0, 0), (.iadd, 1, 0, 0), (.putfield 165, 3, 2, 6), (.goto 32, 3, 48, 0)]),
  (19, [(.iload_n 1, 1, 0, 0), (.bipush (-3), 2, 0, 0), (.if_icmp .ne 16, 3, 38, 0), (.aload_n 0, 1, 0, 0), (.dup, 1, 0, 0), (.getfield 168, 3, 2, 7), (.iconst 1, 1, 0, 0), (.iadd, 1, 0, 0), (.putfield 168, 3, 2, 7), (.goto 13, 3, 48, 0)]),
  (38, [(.aload_n 0, 1, 0, 0), (.dup, 1, 0, 0), (.getfield 171, 3, 2, 8), (.iconst 1, 1, 0, 0), (.iadd, 1, 0, 0), (.putfield 171, 3, 2, 8)]),
  (48, [(.iload_n 1, 1, 0, 0), (.ireturn, 1, 0, 0)])]
def m_X2_refuse : MB := (yX2_refuse, cX2_refuse, 2, (some .int), T_X2_refuse)
theorem ok_X2_refuse : mOk m_X2_refuse := mOk.of (by decide +kernel)
theorem pl_X2_refuse : plainFor m_X2_refuse.1 = true := by decide +kernel
def T_X2_keepState : List (Nat × List MEn) := [(0, [(.aload_n 0, 1, 0, 0), (.getfield 19, 3, 2, 2), (.aload_n 0, 1, 0, 0), (.getfield 158, 3, 2, 5), (.aaload, 1, 0, 0), (.aload_n 0, 1, 0, 0), (.getfield 10, 3, 2, 0), (.invokevirtual 161, 3, 0, 0), (.aload_n 0, 1, 0, 0), (.aload_n 0, 1, 0, 0), (.getfield 158, 3, 2, 5), (.iconst 1, 1, 0, 0), (.iadd, 1, 0, 0), (.iconst 5, 1, 0, 0), (.irem, 1, 0, 0), (.putfield 158, 3, 2, 5), (.aload_n 0, 1, 0, 0), (.getfield 155, 3, 2, 4), (.iconst 5, 1, 0, 0), (.if_icmp .ge 13, 3, 46, 0), (.aload_n 0, 1, 0, 0), (.dup, 1, 0, 0), (.getfield 155, 3, 2, 4), (.iconst 1, 1, 0, 0), (.iadd, 1, 0, 0), (.putfield 155, 3, 2, 4)]),
  (46, [(.return_, 1, 0, 0)])]
def m_X2_keepState : MB := (yX2_keepState, cX2_keepState, 1, none, T_X2_keepState)
theorem ok_X2_keepState : mOk m_X2_keepState := mOk.of (by decide +kernel)
theorem pl_X2_keepState : plainFor m_X2_keepState.1 = true := by decide +kernel
def T_X2_refusedWith : List (Nat × List MEn) := [(0, [(.aload_n 0, 1, 0, 0), (.getfield 16, 3, 2, 1), (.aload_n 0, 1, 0, 0), (.getfield 10, 3, 2, 0), (.invokevirtual 161, 3, 0, 0), (.aload_n 0, 1, 0, 0), (.getfield 16, 3, 2, 1), (.getfield 57, 3, 0, 6), (.iload_n 1, 1, 0, 0), (.invokestatic 64, 3, 0, 0), (.iconst 0, 1, 0, 0), (.istore 4, 2, 0, 0), (.iconst 0, 1, 0, 0), (.istore 5, 2, 0, 0)]),
  (28, [(.iload 5, 2, 0, 0), (.iload_n 2, 1, 0, 0), (.if_icmp .ge 45, 3, 76, 0), (.iload 4, 2, 0, 0), (.iload_n 3, 1, 0, 0), (.if_icmp .ge 39, 3, 76, 0), (.aload_n 0, 1, 0, 0), (.getfield 16, 3, 2, 1), (.iconst 1, 1, 0, 0), (.invokevirtual 97, 3, 0, 0), (.pop, 1, 0, 0), (.aload_n 0, 1, 0, 0), (.getfield 16, 3, 2, 1), (.getfield 106, 3, 0, 10), (.iconst 4, 1, 0, 0), (.iaload, 1, 0, 0), (.aload_n 0, 1, 0, 0), (.getfield 10, 3, 2, 0), (.getfield 106, 3, 0, 10), (.iconst 4, 1, 0, 0), (.iaload, 1, 0, 0), (.isub, 1, 0, 0), (.istore 4, 2, 0, 0), (.iinc 5 1, 3, 0, 0), (.goto (-45), 3, 28, 0)]),
  (76, [(.iload 4, 2, 0, 0), (.ireturn, 1, 0, 0)])]
def m_X2_refusedWith : MB := (yX2_refusedWith, cX2_refusedWith, 6, (some .int), T_X2_refusedWith)
theorem ok_X2_refusedWith : mOk m_X2_refusedWith := mOk.of (by decide +kernel)
theorem pl_X2_refusedWith : plainFor m_X2_refusedWith.1 = true := by decide +kernel
def T_X3_begins : List (Nat × List MEn) := [(0, [(.iconst 0, 1, 0, 0), (.istore_n 2, 1, 0, 0)]),
  (2, [(.iload_n 2, 1, 0, 0), (.sipush 637, 3, 0, 0), (.if_icmp .ge 16, 3, 22, 0), (.aload_n 0, 1, 0, 0), (.getfield 7, 3, 3, 0), (.iload_n 2, 1, 0, 0), (.iconst 0, 1, 0, 0), (.iastore, 1, 0, 0), (.iinc 2 1, 3, 0, 0), (.goto (-17), 3, 2, 0)]),
  (22, [(.aload_n 0, 1, 0, 0), (.getfield 7, 3, 3, 0), (.iconst 0, 1, 0, 0), (.iload_n 1, 1, 0, 0), (.iastore, 1, 0, 0), (.aload_n 0, 1, 0, 0), (.getfield 7, 3, 3, 0), (.iconst 2, 1, 0, 0), (.iconst 1, 1, 0, 0), (.iastore, 1, 0, 0), (.iconst 0, 1, 0, 0), (.istore_n 2, 1, 0, 0)]),
  (38, [(.iload_n 2, 1, 0, 0), (.bipush 6, 2, 0, 0), (.if_icmp .ge 74, 3, 115, 0), (.iconst 0, 1, 0, 0), (.istore_n 3, 1, 0, 0)]),
  (46, [(.iload_n 3, 1, 0, 0), (.bipush 6, 2, 0, 0), (.if_icmp .ge 60, 3, 109, 0), (.aload_n 0, 1, 0, 0), (.getfield 7, 3, 3, 0), (.iconst 5, 1, 0, 0), (.bipush 6, 2, 0, 0), (.iload_n 2, 1, 0, 0), (.imul, 1, 0, 0), (.iadd, 1, 0, 0), (.iload_n 3, 1, 0, 0), (.iadd, 1, 0, 0), (.iconst 5, 1, 0, 0), (.iastore, 1, 0, 0), (.iconst 0, 1, 0, 0), (.istore 4, 2, 0, 0)]),
  (69, [(.iload 4, 2, 0, 0), (.iload_n 2, 1, 0, 0), (.if_icmp .eq 9, 3, 81, 0), (.iload 4, 2, 0, 0), (.iload_n 3, 1, 0, 0), (.if_icmp .ne 9, 3, 87, 0)]),
  (81, [(.iinc 4 1, 3, 0, 0), (.goto (-15), 3, 69, 0)]),
  (87, [(.aload_n 0, 1, 0, 0), (.getfield 7, 3, 3, 0), (.bipush 77, 2, 0, 0), (.bipush 6, 2, 0, 0), (.iload_n 2, 1, 0, 0), (.imul, 1, 0, 0), (.iadd, 1, 0, 0), (.iload_n 3, 1, 0, 0), (.iadd, 1, 0, 0), (.iload 4, 2, 0, 0), (.iastore, 1, 0, 0), (.iinc 3 1, 3, 0, 0), (.goto (-60), 3, 46, 0)]),
  (109, [(.iinc 2 1, 3, 0, 0), (.goto (-74), 3, 38, 0)]),
  (115, [(.return_, 1, 0, 0)])]
def m_X3_begins : MB := (yX3_begins, cX3_begins, 5, none, T_X3_begins)
theorem ok_X3_begins : mOk m_X3_begins := mOk.of (by decide +kernel)
theorem pl_X3_begins : plainFor m_X3_begins.1 = true := by decide +kernel
def T_X3_in : List (Nat × List MEn) := [(0, [(.iload_n 0, 1, 0, 0), (.iload_n 1, 1, 0, 0), (.if_icmp .lt 12, 3, 14, 0), (.iload_n 0, 1, 0, 0), (.iload_n 2, 1, 0, 0), (.if_icmp .gt 7, 3, 14, 0), (.iconst 1, 1, 0, 0), (.goto 4, 3, 15, 0)]),
  (14, [(.iconst 0, 1, 0, 0)]),
  (15, [(.ireturn, 1, 0, 0)])]
def m_X3_in : MB := (yX3_in, cX3_in, 3, (some .boolean), T_X3_in)
theorem ok_X3_in : mOk m_X3_in := mOk.of (by decide +kernel)
theorem pl_X3_in : plainFor m_X3_in.1 = true := by decide +kernel
def T_X3_bads : List (Nat × List MEn) := [(0, [(.aload_n 0, 1, 0, 0), (.dup, 1, 0, 0), (.getfield 29, 3, 3, 10), (.iconst 1, 1, 0, 0), (.iadd, 1, 0, 0), (.putfield 29, 3, 3, 10), (.bipush (-2), 2, 0, 0), (.ireturn, 1, 0, 0)])]
def m_X3_bads : MB := (yX3_bads, cX3_bads, 1, (some .int), T_X3_bads)
theorem ok_X3_bads : mOk m_X3_bads := mOk.of (by decide +kernel)
theorem pl_X3_bads : plainFor m_X3_bads.1 = true := by decide +kernel
def T_X3_nos : List (Nat × List MEn) := [(0, [(.aload_n 0, 1, 0, 0), (.dup, 1, 0, 0), (.getfield 33, 3, 3, 11), (.iconst 1, 1, 0, 0), (.iadd, 1, 0, 0), (.putfield 33, 3, 3, 11), (.bipush (-3), 2, 0, 0), (.ireturn, 1, 0, 0)])]
def m_X3_nos : MB := (yX3_nos, cX3_nos, 1, (some .int), T_X3_nos)
theorem ok_X3_nos : mOk m_X3_nos := mOk.of (by decide +kernel)
theorem pl_X3_nos : plainFor m_X3_nos.1 = true := by decide +kernel
def T_X3_isTown : List (Nat × List MEn) := [(0, [(.iload_n 1, 1, 0, 0), (.iconst 0, 1, 0, 0), (.aload_n 0, 1, 0, 0), (.getfield 7, 3, 3, 0), (.iconst 0, 1, 0, 0), (.iaload, 1, 0, 0), (.iconst 1, 1, 0, 0), (.isub, 1, 0, 0), (.invokestatic 36, 3, 0, 0), (.ireturn, 1, 0, 0)])]
def m_X3_isTown : MB := (yX3_isTown, cX3_isTown, 2, (some .boolean), T_X3_isTown)
theorem ok_X3_isTown : mOk m_X3_isTown := mOk.of (by decide +kernel)
theorem pl_X3_isTown : plainFor m_X3_isTown.1 = true := by decide +kernel
def T_X3_areTowns : List (Nat × List MEn) := [(0, [(.aload_n 0, 1, 0, 0), (.iload_n 1, 1, 0, 0), (.invokevirtual 40, 3, 0, 0), (.ifCond .eq 20, 3, 25, 0), (.aload_n 0, 1, 0, 0), (.iload_n 2, 1, 0, 0), (.invokevirtual 40, 3, 0, 0), (.ifCond .eq 12, 3, 25, 0), (.iload_n 1, 1, 0, 0), (.iload_n 2, 1, 0, 0), (.if_icmp .eq 7, 3, 25, 0), (.iconst 1, 1, 0, 0), (.goto 4, 3, 26, 0)]),
  (25, [(.iconst 0, 1, 0, 0)]),
  (26, [(.ireturn, 1, 0, 0)])]
def m_X3_areTowns : MB := (yX3_areTowns, cX3_areTowns, 3, (some .boolean), T_X3_areTowns)
theorem ok_X3_areTowns : mOk m_X3_areTowns := mOk.of (by decide +kernel)
theorem pl_X3_areTowns : plainFor m_X3_areTowns.1 = true := by decide +kernel
def T_X3_keeps : List (Nat × List MEn) := [(0, [(.aload_n 0, 1, 0, 0), (.getfield 44, 3, 3, 3), (.iconst 5, 1, 0, 0), (.if_icmp .ne 44, 3, 49, 0), (.iconst 0, 1, 0, 0), (.istore_n 1, 1, 0, 0)]),
  (10, [(.iload_n 1, 1, 0, 0), (.sipush 2548, 3, 0, 0), (.if_icmp .ge 25, 3, 39, 0), (.aload_n 0, 1, 0, 0), (.getfield 16, 3, 3, 2), (.iload_n 1, 1, 0, 0), (.aload_n 0, 1, 0, 0), (.getfield 16, 3, 3, 2), (.iload_n 1, 1, 0, 0), (.sipush 637, 3, 0, 0), (.iadd, 1, 0, 0), (.iaload, 1, 0, 0), (.iastore, 1, 0, 0), (.iinc 1 1, 3, 0, 0), (.goto (-26), 3, 10, 0)]),
  (39, [(.aload_n 0, 1, 0, 0), (.dup, 1, 0, 0), (.getfield 44, 3, 3, 3), (.iconst 1, 1, 0, 0), (.isub, 1, 0, 0), (.putfield 44, 3, 3, 3)]),
  (49, [(.iconst 0, 1, 0, 0), (.istore_n 1, 1, 0, 0)]),
  (51, [(.iload_n 1, 1, 0, 0), (.sipush 637, 3, 0, 0), (.if_icmp .ge 30, 3, 85, 0), (.aload_n 0, 1, 0, 0), (.getfield 16, 3, 3, 2), (.sipush 637, 3, 0, 0), (.aload_n 0, 1, 0, 0), (.getfield 44, 3, 3, 3), (.imul, 1, 0, 0), (.iload_n 1, 1, 0, 0), (.iadd, 1, 0, 0), (.aload_n 0, 1, 0, 0), (.getfield 7, 3, 3, 0), (.iload_n 1, 1, 0, 0), (.iaload, 1, 0, 0), (.iastore, 1, 0, 0), (.iinc 1 1, 3, 0, 0), (.goto (-31), 3, 51, 0)]),
  (85, [(.aload_n 0, 1, 0, 0), (.dup, 1, 0, 0), (.getfield 44, 3, 3, 3), (.iconst 1, 1, 0, 0), (.iadd, 1, 0, 0), (.putfield 44, 3, 3, 3), (.return_, 1, 0, 0)])]
def m_X3_keeps : MB := (yX3_keeps, cX3_keeps, 2, none, T_X3_keeps)
theorem ok_X3_keeps : mOk m_X3_keeps := mOk.of (by decide +kernel)
theorem pl_X3_keeps : plainFor m_X3_keeps.1 = true := by decide +kernel
def T_X3_pairOf : List (Nat × List MEn) := [(0, [(.iload_n 0, 1, 0, 0), (.iload_n 1, 1, 0, 0), (.if_icmp .ge 12, 3, 14, 0), (.bipush 6, 2, 0, 0), (.iload_n 0, 1, 0, 0), (.imul, 1, 0, 0), (.iload_n 1, 1, 0, 0), (.iadd, 1, 0, 0), (.goto 9, 3, 20, 0)]),
  (14, [(.bipush 6, 2, 0, 0), (.iload_n 1, 1, 0, 0), (.imul, 1, 0, 0), (.iload_n 0, 1, 0, 0), (.iadd, 1, 0, 0)]),
  (20, [(.ireturn, 1, 0, 0)])]
def m_X3_pairOf : MB := (yX3_pairOf, cX3_pairOf, 2, (some .int), T_X3_pairOf)
theorem ok_X3_pairOf : mOk m_X3_pairOf := mOk.of (by decide +kernel)
theorem pl_X3_pairOf : plainFor m_X3_pairOf.1 = true := by decide +kernel
def T_X3_towns : List (Nat × List MEn) := [(0, [(.iload_n 1, 1, 0, 0), (.iconst 3, 1, 0, 0), (.bipush 6, 2, 0, 0), (.invokestatic 36, 3, 0, 0), (.ifCond .ne 8, 3, 15, 0), (.aload_n 0, 1, 0, 0), (.invokevirtual 47, 3, 0, 0), (.ireturn, 1, 0, 0)]),
  (15, [(.aload_n 0, 1, 0, 0), (.invokevirtual 51, 3, 0, 0), (.aload_n 0, 1, 0, 0), (.getfield 7, 3, 3, 0), (.iconst 0, 1, 0, 0), (.iaload, 1, 0, 0), (.istore_n 2, 1, 0, 0), (.aload_n 0, 1, 0, 0), (.iload_n 1, 1, 0, 0), (.invokevirtual 25, 3, 0, 0), (.iload_n 2, 1, 0, 0), (.ireturn, 1, 0, 0)])]
def m_X3_towns : MB := (yX3_towns, cX3_towns, 3, (some .int), T_X3_towns)
theorem ok_X3_towns : mOk m_X3_towns := mOk.of (by decide +kernel)
theorem pl_X3_towns : plainFor m_X3_towns.1 = true := by decide +kernel
def T_X3_link : List (Nat × List MEn) := [(0, [(.aload_n 0, 1, 0, 0), (.iload_n 1, 1, 0, 0), (.iload_n 2, 1, 0, 0), (.invokevirtual 54, 3, 0, 0), (.ifCond .eq 23, 3, 29, 0), (.iload_n 3, 1, 0, 0), (.iconst 0, 1, 0, 0), (.iconst 1, 1, 0, 0), (.invokestatic 36, 3, 0, 0), (.ifCond .eq 14, 3, 29, 0), (.iload 4, 2, 0, 0), (.iconst 0, 1, 0, 0), (.bipush 30, 2, 0, 0), (.invokestatic 36, 3, 0, 0), (.ifCond .ne 8, 3, 34, 0)]),
  (29, [(.aload_n 0, 1, 0, 0), (.invokevirtual 47, 3, 0, 0), (.ireturn, 1, 0, 0)]),
  (34, [(.aload_n 0, 1, 0, 0), (.invokevirtual 51, 3, 0, 0), (.iload_n 3, 1, 0, 0), (.ifCond .ne 7, 3, 46, 0), (.iconst 5, 1, 0, 0), (.goto 5, 3, 48, 0)]),
  (46, [(.bipush 41, 2, 0, 0)]),
  (48, [(.iload_n 1, 1, 0, 0), (.iload_n 2, 1, 0, 0), (.invokestatic 58, 3, 0, 0), (.iadd, 1, 0, 0), (.istore 5, 2, 0, 0), (.aload_n 0, 1, 0, 0), (.getfield 7, 3, 3, 0), (.iload 5, 2, 0, 0), (.iaload, 1, 0, 0), (.istore 6, 2, 0, 0), (.aload_n 0, 1, 0, 0), (.getfield 7, 3, 3, 0), (.iload 5, 2, 0, 0), (.iload 4, 2, 0, 0), (.iastore, 1, 0, 0), (.iload 6, 2, 0, 0), (.ireturn, 1, 0, 0)])]
def m_X3_link : MB := (yX3_link, cX3_link, 7, (some .int), T_X3_link)
theorem ok_X3_link : mOk m_X3_link := mOk.of (by decide +kernel)
theorem pl_X3_link : plainFor m_X3_link.1 = true := by decide +kernel
def T_X3_links : List (Nat × List MEn) := [(0, [(.iload_n 1, 1, 0, 0), (.iconst 0, 1, 0, 0), (.iconst 1, 1, 0, 0), (.invokestatic 36, 3, 0, 0), (.ifCond .eq 13, 3, 19, 0), (.iload_n 2, 1, 0, 0), (.iconst 0, 1, 0, 0), (.bipush 30, 2, 0, 0), (.invokestatic 36, 3, 0, 0), (.ifCond .ne 8, 3, 24, 0)]),
  (19, [(.aload_n 0, 1, 0, 0), (.invokevirtual 47, 3, 0, 0), (.ireturn, 1, 0, 0)]),
  (24, [(.aload_n 0, 1, 0, 0), (.invokevirtual 51, 3, 0, 0), (.iconst 0, 1, 0, 0), (.istore_n 3, 1, 0, 0)]),
  (30, [(.iload_n 3, 1, 0, 0), (.bipush 36, 2, 0, 0), (.if_icmp .ge 27, 3, 60, 0), (.aload_n 0, 1, 0, 0), (.getfield 7, 3, 3, 0), (.iload_n 1, 1, 0, 0), (.ifCond .ne 7, 3, 48, 0), (.iconst 5, 1, 0, 0), (.goto 5, 3, 50, 0)]),
  (48, [(.bipush 41, 2, 0, 0)]),
  (50, [(.iload_n 3, 1, 0, 0), (.iadd, 1, 0, 0), (.iload_n 2, 1, 0, 0), (.iastore, 1, 0, 0), (.iinc 3 1, 3, 0, 0), (.goto (-27), 3, 30, 0)]),
  (60, [(.aload_n 0, 1, 0, 0), (.getfield 7, 3, 3, 0), (.iconst 0, 1, 0, 0), (.iaload, 1, 0, 0), (.aload_n 0, 1, 0, 0), (.getfield 7, 3, 3, 0), (.iconst 0, 1, 0, 0), (.iaload, 1, 0, 0), (.iconst 1, 1, 0, 0), (.isub, 1, 0, 0), (.imul, 1, 0, 0), (.iconst 2, 1, 0, 0), (.idiv, 1, 0, 0), (.ireturn, 1, 0, 0)])]
def m_X3_links : MB := (yX3_links, cX3_links, 4, (some .int), T_X3_links)
theorem ok_X3_links : mOk m_X3_links := mOk.of (by decide +kernel)
theorem pl_X3_links : plainFor m_X3_links.1 = true := by decide +kernel
def T_X3_back : List (Nat × List MEn) := [(0, [(.iload_n 1, 1, 0, 0), (.iconst 0, 1, 0, 0), (.iconst 1, 1, 0, 0), (.invokestatic 36, 3, 0, 0), (.ifCond .ne 8, 3, 14, 0), (.aload_n 0, 1, 0, 0), (.invokevirtual 47, 3, 0, 0), (.ireturn, 1, 0, 0)]),
  (14, [(.aload_n 0, 1, 0, 0), (.invokevirtual 51, 3, 0, 0), (.aload_n 0, 1, 0, 0), (.getfield 7, 3, 3, 0), (.iconst 1, 1, 0, 0), (.iaload, 1, 0, 0), (.istore_n 2, 1, 0, 0), (.aload_n 0, 1, 0, 0), (.getfield 7, 3, 3, 0), (.iconst 1, 1, 0, 0), (.iload_n 1, 1, 0, 0), (.iastore, 1, 0, 0), (.iload_n 2, 1, 0, 0), (.ireturn, 1, 0, 0)])]
def m_X3_back : MB := (yX3_back, cX3_back, 3, (some .int), T_X3_back)
theorem ok_X3_back : mOk m_X3_back := mOk.of (by decide +kernel)
theorem pl_X3_back : plainFor m_X3_back.1 = true := by decide +kernel
def T_X3_load : List (Nat × List MEn) := [(0, [(.iload_n 1, 1, 0, 0), (.iconst 0, 1, 0, 0), (.bipush 23, 2, 0, 0), (.invokestatic 36, 3, 0, 0), (.ifCond .eq 13, 3, 20, 0), (.iload_n 2, 1, 0, 0), (.iconst 0, 1, 0, 0), (.bipush 9, 2, 0, 0), (.invokestatic 36, 3, 0, 0), (.ifCond .ne 8, 3, 25, 0)]),
  (20, [(.aload_n 0, 1, 0, 0), (.invokevirtual 47, 3, 0, 0), (.ireturn, 1, 0, 0)]),
  (25, [(.aload_n 0, 1, 0, 0), (.invokevirtual 51, 3, 0, 0), (.aload_n 0, 1, 0, 0), (.getfield 7, 3, 3, 0), (.sipush 293, 3, 0, 0), (.iload_n 1, 1, 0, 0), (.iadd, 1, 0, 0), (.iaload, 1, 0, 0), (.istore_n 3, 1, 0, 0), (.aload_n 0, 1, 0, 0), (.getfield 7, 3, 3, 0), (.sipush 293, 3, 0, 0), (.iload_n 1, 1, 0, 0), (.iadd, 1, 0, 0), (.iload_n 2, 1, 0, 0), (.iastore, 1, 0, 0), (.iload_n 3, 1, 0, 0), (.ireturn, 1, 0, 0)])]
def m_X3_load : MB := (yX3_load, cX3_load, 4, (some .int), T_X3_load)
theorem ok_X3_load : mOk m_X3_load := mOk.of (by decide +kernel)
theorem pl_X3_load : plainFor m_X3_load.1 = true := by decide +kernel
def T_X3_seed : List (Nat × List MEn) := [(0, [(.iload_n 1, 1, 0, 0), (.iconst 0, 1, 0, 0), (.ldc 62, 2, 999999, 0), (.invokestatic 36, 3, 0, 0), (.ifCond .ne 8, 3, 15, 0), (.aload_n 0, 1, 0, 0), (.invokevirtual 47, 3, 0, 0), (.ireturn, 1, 0, 0)]),
  (15, [(.aload_n 0, 1, 0, 0), (.invokevirtual 51, 3, 0, 0), (.aload_n 0, 1, 0, 0), (.getfield 7, 3, 3, 0), (.iconst 2, 1, 0, 0), (.iload_n 1, 1, 0, 0), (.iastore, 1, 0, 0), (.iconst 1, 1, 0, 0), (.ireturn, 1, 0, 0)])]
def m_X3_seed : MB := (yX3_seed, cX3_seed, 2, (some .int), T_X3_seed)
theorem ok_X3_seed : mOk m_X3_seed := mOk.of (by decide +kernel)
theorem pl_X3_seed : plainFor m_X3_seed.1 = true := by decide +kernel
def T_X3_holding : List (Nat × List MEn) := [(0, [(.iconst 0, 1, 0, 0), (.istore 4, 2, 0, 0), (.iconst 0, 1, 0, 0), (.istore 5, 2, 0, 0)]),
  (6, [(.iload 5, 2, 0, 0), (.aload_n 0, 1, 0, 0), (.getfield 7, 3, 3, 0), (.iconst 4, 1, 0, 0), (.iaload, 1, 0, 0), (.if_icmp .ge 150, 3, 164, 0), (.sipush 317, 3, 0, 0), (.iconst 4, 1, 0, 0), (.iload 5, 2, 0, 0), (.imul, 1, 0, 0), (.iadd, 1, 0, 0), (.istore 6, 2, 0, 0), (.aload_n 0, 1, 0, 0), (.getfield 7, 3, 3, 0), (.iload 6, 2, 0, 0), (.iaload, 1, 0, 0), (.istore 7, 2, 0, 0), (.aload_n 0, 1, 0, 0), (.getfield 7, 3, 3, 0), (.iload 6, 2, 0, 0), (.iconst 1, 1, 0, 0), (.iadd, 1, 0, 0), (.iaload, 1, 0, 0), (.istore 8, 2, 0, 0), (.aload_n 0, 1, 0, 0), (.getfield 7, 3, 3, 0), (.iload 6, 2, 0, 0), (.iconst 2, 1, 0, 0), (.iadd, 1, 0, 0), (.iaload, 1, 0, 0), (.istore 9, 2, 0, 0), (.iload 9, 2, 0, 0), (.iconst (-1), 1, 0, 0), (.if_icmp .ne 22, 3, 83, 0), (.iload 7, 2, 0, 0), (.iload 8, 2, 0, 0), (.invokestatic 58, 3, 0, 0), (.iload_n 1, 1, 0, 0), (.iload_n 2, 1, 0, 0), (.invokestatic 58, 3, 0, 0), (.if_icmp .ne 7, 3, 83, 0), (.iconst 1, 1, 0, 0), (.goto 4, 3, 84, 0)]),
  (83, [(.iconst 0, 1, 0, 0)]),
  (84, [(.istore 10, 2, 0, 0), (.iload 9, 2, 0, 0), (.iconst (-1), 1, 0, 0), (.if_icmp .eq 37, 3, 126, 0), (.iload 7, 2, 0, 0), (.iload 9, 2, 0, 0), (.invokestatic 58, 3, 0, 0), (.iload_n 1, 1, 0, 0), (.iload_n 2, 1, 0, 0), (.invokestatic 58, 3, 0, 0), (.if_icmp .eq 18, 3, 122, 0), (.iload 9, 2, 0, 0), (.iload 8, 2, 0, 0), (.invokestatic 58, 3, 0, 0), (.iload_n 1, 1, 0, 0), (.iload_n 2, 1, 0, 0), (.invokestatic 58, 3, 0, 0), (.if_icmp .ne 7, 3, 126, 0)]),
  (122, [(.iconst 1, 1, 0, 0), (.goto 4, 3, 127, 0)]),
  (126, [(.iconst 0, 1, 0, 0)]),
  (127, [(.istore 11, 2, 0, 0), (.iload 4, 2, 0, 0), (.iload_n 3, 1, 0, 0), (.ifCond .eq 8, 3, 140, 0), (.iload 10, 2, 0, 0), (.ifCond .ne 13, 3, 150, 0)]),
  (140, [(.iload_n 3, 1, 0, 0), (.iconst 1, 1, 0, 0), (.if_icmp .eq 12, 3, 154, 0), (.iload 11, 2, 0, 0), (.ifCond .eq 7, 3, 154, 0)]),
  (150, [(.iconst 1, 1, 0, 0), (.goto 4, 3, 155, 0)]),
  (154, [(.iconst 0, 1, 0, 0)]),
  (155, [(.iadd, 1, 0, 0), (.istore 4, 2, 0, 0), (.iinc 5 1, 3, 0, 0), (.goto (-155), 3, 6, 0)]),
  (164, [(.iload 4, 2, 0, 0), (.ireturn, 1, 0, 0)])]
def m_X3_holding : MB := (yX3_holding, cX3_holding, 12, (some .int), T_X3_holding)
theorem ok_X3_holding : mOk m_X3_holding := mOk.of (by decide +kernel)
theorem pl_X3_holding : plainFor m_X3_holding.1 = true := by decide +kernel
def T_X3_free : List (Nat × List MEn) := [(0, [(.aload_n 0, 1, 0, 0), (.getfield 7, 3, 3, 0), (.iconst 5, 1, 0, 0), (.iload_n 1, 1, 0, 0), (.iload_n 2, 1, 0, 0), (.invokestatic 58, 3, 0, 0), (.iadd, 1, 0, 0), (.iaload, 1, 0, 0), (.aload_n 0, 1, 0, 0), (.iload_n 1, 1, 0, 0), (.iload_n 2, 1, 0, 0), (.iconst 2, 1, 0, 0), (.invokevirtual 63, 3, 0, 0), (.isub, 1, 0, 0), (.istore_n 3, 1, 0, 0), (.iload_n 3, 1, 0, 0), (.ifCond .le 7, 3, 29, 0), (.iload_n 3, 1, 0, 0), (.goto 4, 3, 30, 0)]),
  (29, [(.iconst 0, 1, 0, 0)]),
  (30, [(.ireturn, 1, 0, 0)])]
def m_X3_free : MB := (yX3_free, cX3_free, 4, (some .int), T_X3_free)
theorem ok_X3_free : mOk m_X3_free := mOk.of (by decide +kernel)
theorem pl_X3_free : plainFor m_X3_free.1 = true := by decide +kernel
def T_X3_of : List (Nat × List MEn) := [(0, [(.aload_n 0, 1, 0, 0), (.iload_n 1, 1, 0, 0), (.iload_n 2, 1, 0, 0), (.invokevirtual 54, 3, 0, 0), (.ifCond .eq 12, 3, 18, 0), (.iload_n 3, 1, 0, 0), (.iconst 0, 1, 0, 0), (.iconst 3, 1, 0, 0), (.invokestatic 36, 3, 0, 0), (.ifCond .ne 8, 3, 23, 0)]),
  (18, [(.aload_n 0, 1, 0, 0), (.invokevirtual 47, 3, 0, 0), (.ireturn, 1, 0, 0)]),
  (23, [(.iload_n 3, 1, 0, 0), (.ifCond .ne 18, 3, 42, 0), (.aload_n 0, 1, 0, 0), (.getfield 7, 3, 3, 0), (.iconst 5, 1, 0, 0), (.iload_n 1, 1, 0, 0), (.iload_n 2, 1, 0, 0), (.invokestatic 58, 3, 0, 0), (.iadd, 1, 0, 0), (.iaload, 1, 0, 0), (.goto 45, 3, 84, 0)]),
  (42, [(.iload_n 3, 1, 0, 0), (.iconst 1, 1, 0, 0), (.if_icmp .ne 19, 3, 63, 0), (.aload_n 0, 1, 0, 0), (.getfield 7, 3, 3, 0), (.bipush 41, 2, 0, 0), (.iload_n 1, 1, 0, 0), (.iload_n 2, 1, 0, 0), (.invokestatic 58, 3, 0, 0), (.iadd, 1, 0, 0), (.iaload, 1, 0, 0), (.goto 24, 3, 84, 0)]),
  (63, [(.iload_n 3, 1, 0, 0), (.iconst 2, 1, 0, 0), (.if_icmp .ne 12, 3, 77, 0), (.aload_n 0, 1, 0, 0), (.iload_n 1, 1, 0, 0), (.iload_n 2, 1, 0, 0), (.invokevirtual 67, 3, 0, 0), (.goto 10, 3, 84, 0)]),
  (77, [(.aload_n 0, 1, 0, 0), (.iload_n 1, 1, 0, 0), (.iload_n 2, 1, 0, 0), (.iconst 0, 1, 0, 0), (.invokevirtual 63, 3, 0, 0)]),
  (84, [(.ireturn, 1, 0, 0)])]
def m_X3_of : MB := (yX3_of, cX3_of, 4, (some .int), T_X3_of)
theorem ok_X3_of : mOk m_X3_of := mOk.of (by decide +kernel)
theorem pl_X3_of : plainFor m_X3_of.1 = true := by decide +kernel
def T_X3_sticky : List (Nat × List MEn) := [(0, [(.aload_n 0, 1, 0, 0), (.iload_n 1, 1, 0, 0), (.iload_n 2, 1, 0, 0), (.invokevirtual 54, 3, 0, 0), (.ifCond .eq 20, 3, 26, 0), (.aload_n 0, 1, 0, 0), (.getfield 7, 3, 3, 0), (.bipush 77, 2, 0, 0), (.bipush 6, 2, 0, 0), (.iload_n 1, 1, 0, 0), (.imul, 1, 0, 0), (.iadd, 1, 0, 0), (.iload_n 2, 1, 0, 0), (.iadd, 1, 0, 0), (.iaload, 1, 0, 0), (.goto 7, 3, 30, 0)]),
  (26, [(.aload_n 0, 1, 0, 0), (.invokevirtual 47, 3, 0, 0)]),
  (30, [(.ireturn, 1, 0, 0)])]
def m_X3_sticky : MB := (yX3_sticky, cX3_sticky, 3, (some .int), T_X3_sticky)
theorem ok_X3_sticky : mOk m_X3_sticky := mOk.of (by decide +kernel)
theorem pl_X3_sticky : plainFor m_X3_sticky.1 = true := by decide +kernel
def T_X3_draws : List (Nat × List MEn) := [(0, [(.aload_n 0, 1, 0, 0), (.getfield 7, 3, 3, 0), (.iconst 2, 1, 0, 0), (.aload_n 0, 1, 0, 0), (.getfield 7, 3, 3, 0), (.iconst 2, 1, 0, 0), (.iaload, 1, 0, 0), (.i2l, 1, 0, 0), (.ldc2_w 70, 3, 1103515245, 0), (.lmul, 1, 0, 0), (.ldc2_w 72, 3, 12345, 0), (.ladd, 1, 0, 0), (.ldc2_w 74, 3, 2147483648, 0), (.lrem, 1, 0, 0), (.l2i, 1, 0, 0), (.iastore, 1, 0, 0), (.return_, 1, 0, 0)])]
def m_X3_draws : MB := (yX3_draws, cX3_draws, 1, none, T_X3_draws)
theorem ok_X3_draws : mOk m_X3_draws := mOk.of (by decide +kernel)
theorem pl_X3_draws : plainFor m_X3_draws.1 = true := by decide +kernel
def T_X3_drawsSticky : List (Nat × List MEn) := [(0, [(.aload_n 0, 1, 0, 0), (.invokevirtual 76, 3, 0, 0), (.aload_n 0, 1, 0, 0), (.getfield 7, 3, 3, 0), (.iconst 2, 1, 0, 0), (.iaload, 1, 0, 0), (.ldc 79, 2, 65536, 0), (.idiv, 1, 0, 0), (.aload_n 0, 1, 0, 0), (.getfield 7, 3, 3, 0), (.iconst 0, 1, 0, 0), (.iaload, 1, 0, 0), (.iconst 2, 1, 0, 0), (.isub, 1, 0, 0), (.irem, 1, 0, 0), (.istore_n 3, 1, 0, 0), (.iconst 0, 1, 0, 0), (.istore 4, 2, 0, 0)]),
  (26, [(.iload 4, 2, 0, 0), (.iload_n 1, 1, 0, 0), (.if_icmp .eq 13, 3, 42, 0), (.iload 4, 2, 0, 0), (.iload_n 2, 1, 0, 0), (.if_icmp .eq 7, 3, 42, 0), (.iload_n 3, 1, 0, 0), (.ifCond .le 29, 3, 68, 0)]),
  (42, [(.iload_n 3, 1, 0, 0), (.iload 4, 2, 0, 0), (.iload_n 1, 1, 0, 0), (.if_icmp .eq 9, 3, 55, 0), (.iload 4, 2, 0, 0), (.iload_n 2, 1, 0, 0), (.if_icmp .ne 7, 3, 59, 0)]),
  (55, [(.iconst 0, 1, 0, 0), (.goto 4, 3, 60, 0)]),
  (59, [(.iconst 1, 1, 0, 0)]),
  (60, [(.isub, 1, 0, 0), (.istore_n 3, 1, 0, 0), (.iinc 4 1, 3, 0, 0), (.goto (-39), 3, 26, 0)]),
  (68, [(.aload_n 0, 1, 0, 0), (.getfield 7, 3, 3, 0), (.bipush 77, 2, 0, 0), (.bipush 6, 2, 0, 0), (.iload_n 1, 1, 0, 0), (.imul, 1, 0, 0), (.iadd, 1, 0, 0), (.iload_n 2, 1, 0, 0), (.iadd, 1, 0, 0), (.iload 4, 2, 0, 0), (.iastore, 1, 0, 0), (.return_, 1, 0, 0)])]
def m_X3_drawsSticky : MB := (yX3_drawsSticky, cX3_drawsSticky, 5, none, T_X3_drawsSticky)
theorem ok_X3_drawsSticky : mOk m_X3_drawsSticky := mOk.of (by decide +kernel)
theorem pl_X3_drawsSticky : plainFor m_X3_drawsSticky.1 = true := by decide +kernel
def T_X3_hasMore : List (Nat × List MEn) := [(0, [(.aload_n 0, 1, 0, 0), (.iload_n 1, 1, 0, 0), (.iload_n 2, 1, 0, 0), (.invokevirtual 67, 3, 0, 0), (.aload_n 0, 1, 0, 0), (.getfield 7, 3, 3, 0), (.bipush 41, 2, 0, 0), (.iload_n 1, 1, 0, 0), (.iload_n 2, 1, 0, 0), (.invokestatic 58, 3, 0, 0), (.iadd, 1, 0, 0), (.iaload, 1, 0, 0), (.if_icmp .le 7, 3, 26, 0), (.iconst 1, 1, 0, 0), (.goto 4, 3, 27, 0)]),
  (26, [(.iconst 0, 1, 0, 0)]),
  (27, [(.ireturn, 1, 0, 0)])]
def m_X3_hasMore : MB := (yX3_hasMore, cX3_hasMore, 3, (some .boolean), T_X3_hasMore)
theorem ok_X3_hasMore : mOk m_X3_hasMore := mOk.of (by decide +kernel)
theorem pl_X3_hasMore : plainFor m_X3_hasMore.1 = true := by decide +kernel
def T_X3_counts : List (Nat × List MEn) := [(0, [(.aload_n 0, 1, 0, 0), (.getfield 7, 3, 3, 0), (.bipush 113, 2, 0, 0), (.iconst 5, 1, 0, 0), (.bipush 6, 2, 0, 0), (.iload_n 1, 1, 0, 0), (.imul, 1, 0, 0), (.iload_n 2, 1, 0, 0), (.iadd, 1, 0, 0), (.imul, 1, 0, 0), (.iadd, 1, 0, 0), (.iload_n 3, 1, 0, 0), (.iadd, 1, 0, 0), (.dup2, 1, 0, 0), (.iaload, 1, 0, 0), (.iconst 1, 1, 0, 0), (.iadd, 1, 0, 0), (.iastore, 1, 0, 0), (.return_, 1, 0, 0)])]
def m_X3_counts : MB := (yX3_counts, cX3_counts, 4, none, T_X3_counts)
theorem ok_X3_counts : mOk m_X3_counts := mOk.of (by decide +kernel)
theorem pl_X3_counts : plainFor m_X3_counts.1 = true := by decide +kernel
def T_X3_goes : List (Nat × List MEn) := [(0, [(.sipush 317, 3, 0, 0), (.iconst 4, 1, 0, 0), (.aload_n 0, 1, 0, 0), (.getfield 7, 3, 3, 0), (.iconst 4, 1, 0, 0), (.iaload, 1, 0, 0), (.imul, 1, 0, 0), (.iadd, 1, 0, 0), (.istore 5, 2, 0, 0), (.aload_n 0, 1, 0, 0), (.getfield 7, 3, 3, 0), (.iload 5, 2, 0, 0), (.iload_n 1, 1, 0, 0), (.iastore, 1, 0, 0), (.aload_n 0, 1, 0, 0), (.getfield 7, 3, 3, 0), (.iload 5, 2, 0, 0), (.iconst 1, 1, 0, 0), (.iadd, 1, 0, 0), (.iload_n 2, 1, 0, 0), (.iastore, 1, 0, 0), (.aload_n 0, 1, 0, 0), (.getfield 7, 3, 3, 0), (.iload 5, 2, 0, 0), (.iconst 2, 1, 0, 0), (.iadd, 1, 0, 0), (.iload_n 3, 1, 0, 0), (.iastore, 1, 0, 0), (.aload_n 0, 1, 0, 0), (.getfield 7, 3, 3, 0), (.iload 5, 2, 0, 0), (.iconst 3, 1, 0, 0), (.iadd, 1, 0, 0), (.iload 4, 2, 0, 0), (.iastore, 1, 0, 0), (.aload_n 0, 1, 0, 0), (.getfield 7, 3, 3, 0), (.iconst 4, 1, 0, 0), (.dup2, 1, 0, 0), (.iaload, 1, 0, 0), (.iconst 1, 1, 0, 0), (.iadd, 1, 0, 0), (.iastore, 1, 0, 0), (.aload_n 0, 1, 0, 0), (.iload_n 1, 1, 0, 0), (.iload_n 2, 1, 0, 0), (.iload_n 3, 1, 0, 0), (.iconst (-1), 1, 0, 0), (.if_icmp .ne 7, 3, 75, 0), (.iconst 1, 1, 0, 0), (.goto 4, 3, 76, 0)]),
  (75, [(.iconst 2, 1, 0, 0)]),
  (76, [(.invokevirtual 80, 3, 0, 0), (.return_, 1, 0, 0)])]
def m_X3_goes : MB := (yX3_goes, cX3_goes, 6, none, T_X3_goes)
theorem ok_X3_goes : mOk m_X3_goes := mOk.of (by decide +kernel)
theorem pl_X3_goes : plainFor m_X3_goes.1 = true := by decide +kernel
def T_X3_asks : List (Nat × List MEn) := [(0, [(.aload_n 0, 1, 0, 0), (.iload_n 1, 1, 0, 0), (.iload_n 2, 1, 0, 0), (.iconst 0, 1, 0, 0), (.invokevirtual 80, 3, 0, 0), (.aload_n 0, 1, 0, 0), (.getfield 7, 3, 3, 0), (.iconst 4, 1, 0, 0), (.iaload, 1, 0, 0), (.bipush 80, 2, 0, 0), (.if_icmp .ne 13, 3, 28, 0), (.aload_n 0, 1, 0, 0), (.iload_n 1, 1, 0, 0), (.iload_n 2, 1, 0, 0), (.iconst 4, 1, 0, 0), (.invokevirtual 80, 3, 0, 0), (.bipush (-5), 2, 0, 0), (.ireturn, 1, 0, 0)]),
  (28, [(.aload_n 0, 1, 0, 0), (.iload_n 1, 1, 0, 0), (.iload_n 2, 1, 0, 0), (.invokevirtual 67, 3, 0, 0), (.ifCond .le 13, 3, 47, 0), (.aload_n 0, 1, 0, 0), (.iload_n 1, 1, 0, 0), (.iload_n 2, 1, 0, 0), (.iconst (-1), 1, 0, 0), (.iload_n 3, 1, 0, 0), (.invokevirtual 84, 3, 0, 0), (.iconst (-1), 1, 0, 0), (.ireturn, 1, 0, 0)]),
  (47, [(.iconst 0, 1, 0, 0), (.istore 4, 2, 0, 0)]),
  (50, [(.iload 4, 2, 0, 0), (.iconst 2, 1, 0, 0), (.if_icmp .ge 104, 3, 157, 0), (.aload_n 0, 1, 0, 0), (.getfield 7, 3, 3, 0), (.bipush 77, 2, 0, 0), (.bipush 6, 2, 0, 0), (.iload_n 1, 1, 0, 0), (.imul, 1, 0, 0), (.iadd, 1, 0, 0), (.iload_n 2, 1, 0, 0), (.iadd, 1, 0, 0), (.iaload, 1, 0, 0), (.istore 5, 2, 0, 0), (.aload_n 0, 1, 0, 0), (.iload_n 1, 1, 0, 0), (.iload 5, 2, 0, 0), (.invokevirtual 88, 3, 0, 0), (.istore 6, 2, 0, 0), (.aload_n 0, 1, 0, 0), (.iload 5, 2, 0, 0), (.iload_n 2, 1, 0, 0), (.invokevirtual 88, 3, 0, 0), (.istore 7, 2, 0, 0), (.iload 6, 2, 0, 0), (.ifCond .eq 20, 3, 112, 0), (.iload 7, 2, 0, 0), (.ifCond .eq 15, 3, 112, 0), (.aload_n 0, 1, 0, 0), (.iload_n 1, 1, 0, 0), (.iload_n 2, 1, 0, 0), (.iload 5, 2, 0, 0), (.iload_n 3, 1, 0, 0), (.invokevirtual 84, 3, 0, 0), (.iload 5, 2, 0, 0), (.ireturn, 1, 0, 0)]),
  (112, [(.iload 4, 2, 0, 0), (.iconst 1, 1, 0, 0), (.if_icmp .eq 17, 3, 132, 0), (.iload 6, 2, 0, 0), (.ifCond .eq 12, 3, 132, 0), (.aload_n 0, 1, 0, 0), (.getfield 7, 3, 3, 0), (.iconst 1, 1, 0, 0), (.iaload, 1, 0, 0), (.ifCond .ne 9, 3, 138, 0)]),
  (132, [(.iconst 2, 1, 0, 0), (.istore 4, 2, 0, 0), (.goto 16, 3, 151, 0)]),
  (138, [(.aload_n 0, 1, 0, 0), (.iload_n 1, 1, 0, 0), (.iload_n 2, 1, 0, 0), (.iconst 3, 1, 0, 0), (.invokevirtual 80, 3, 0, 0), (.aload_n 0, 1, 0, 0), (.iload_n 1, 1, 0, 0), (.iload_n 2, 1, 0, 0), (.invokevirtual 91, 3, 0, 0)]),
  (151, [(.iinc 4 1, 3, 0, 0), (.goto (-104), 3, 50, 0)]),
  (157, [(.aload_n 0, 1, 0, 0), (.iload_n 1, 1, 0, 0), (.iload_n 2, 1, 0, 0), (.iconst 4, 1, 0, 0), (.invokevirtual 80, 3, 0, 0), (.aload_n 0, 1, 0, 0), (.iload_n 1, 1, 0, 0), (.iload_n 2, 1, 0, 0), (.invokevirtual 91, 3, 0, 0), (.bipush (-5), 2, 0, 0), (.ireturn, 1, 0, 0)])]
def m_X3_asks : MB := (yX3_asks, cX3_asks, 8, (some .int), T_X3_asks)
theorem ok_X3_asks : mOk m_X3_asks := mOk.of (by decide +kernel)
theorem pl_X3_asks : plainFor m_X3_asks.1 = true := by decide +kernel
def T_X3_call : List (Nat × List MEn) := [(0, [(.aload_n 0, 1, 0, 0), (.iload_n 1, 1, 0, 0), (.iload_n 2, 1, 0, 0), (.invokevirtual 54, 3, 0, 0), (.ifCond .eq 13, 3, 19, 0), (.iload_n 3, 1, 0, 0), (.iconst 1, 1, 0, 0), (.bipush 24, 2, 0, 0), (.invokestatic 36, 3, 0, 0), (.ifCond .ne 8, 3, 24, 0)]),
  (19, [(.aload_n 0, 1, 0, 0), (.invokevirtual 47, 3, 0, 0), (.ireturn, 1, 0, 0)]),
  (24, [(.aload_n 0, 1, 0, 0), (.getfield 7, 3, 3, 0), (.iconst 4, 1, 0, 0), (.iaload, 1, 0, 0), (.bipush 80, 2, 0, 0), (.if_icmp .ne 16, 3, 48, 0), (.aload_n 0, 1, 0, 0), (.dup, 1, 0, 0), (.getfield 95, 3, 3, 12), (.iconst 1, 1, 0, 0), (.iadd, 1, 0, 0), (.putfield 95, 3, 3, 12), (.bipush (-4), 2, 0, 0), (.ireturn, 1, 0, 0)]),
  (48, [(.aload_n 0, 1, 0, 0), (.invokevirtual 51, 3, 0, 0), (.aload_n 0, 1, 0, 0), (.iload_n 1, 1, 0, 0), (.iload_n 2, 1, 0, 0), (.iload_n 3, 1, 0, 0), (.invokevirtual 98, 3, 0, 0), (.ireturn, 1, 0, 0)])]
def m_X3_call : MB := (yX3_call, cX3_call, 4, (some .int), T_X3_call)
theorem ok_X3_call : mOk m_X3_call := mOk.of (by decide +kernel)
theorem pl_X3_call : plainFor m_X3_call.1 = true := by decide +kernel
def T_X3_letsGo : List (Nat × List MEn) := [(0, [(.sipush 317, 3, 0, 0), (.iconst 4, 1, 0, 0), (.iload_n 1, 1, 0, 0), (.imul, 1, 0, 0), (.iadd, 1, 0, 0), (.istore_n 2, 1, 0, 0)]),
  (8, [(.iload_n 2, 1, 0, 0), (.iconst 4, 1, 0, 0), (.iadd, 1, 0, 0), (.sipush 637, 3, 0, 0), (.if_icmp .ge 23, 3, 37, 0), (.aload_n 0, 1, 0, 0), (.getfield 7, 3, 3, 0), (.iload_n 2, 1, 0, 0), (.aload_n 0, 1, 0, 0), (.getfield 7, 3, 3, 0), (.iload_n 2, 1, 0, 0), (.iconst 4, 1, 0, 0), (.iadd, 1, 0, 0), (.iaload, 1, 0, 0), (.iastore, 1, 0, 0), (.iinc 2 1, 3, 0, 0), (.goto (-26), 3, 8, 0)]),
  (37, [(.aload_n 0, 1, 0, 0), (.getfield 7, 3, 3, 0), (.iconst 4, 1, 0, 0), (.dup2, 1, 0, 0), (.iaload, 1, 0, 0), (.iconst 1, 1, 0, 0), (.isub, 1, 0, 0), (.iastore, 1, 0, 0), (.return_, 1, 0, 0)])]
def m_X3_letsGo : MB := (yX3_letsGo, cX3_letsGo, 3, none, T_X3_letsGo)
theorem ok_X3_letsGo : mOk m_X3_letsGo := mOk.of (by decide +kernel)
theorem pl_X3_letsGo : plainFor m_X3_letsGo.1 = true := by decide +kernel
def T_X3_passes : List (Nat × List MEn) := [(0, [(.iconst 0, 1, 0, 0), (.istore_n 2, 1, 0, 0), (.iconst 0, 1, 0, 0), (.istore_n 3, 1, 0, 0)]),
  (4, [(.iload_n 3, 1, 0, 0), (.iload_n 1, 1, 0, 0), (.if_icmp .ge 210, 3, 216, 0), (.iconst 0, 1, 0, 0), (.istore 4, 2, 0, 0)]),
  (12, [(.iload 4, 2, 0, 0), (.aload_n 0, 1, 0, 0), (.getfield 7, 3, 3, 0), (.iconst 4, 1, 0, 0), (.iaload, 1, 0, 0), (.if_icmp .ge 58, 3, 78, 0), (.aload_n 0, 1, 0, 0), (.getfield 7, 3, 3, 0), (.sipush 317, 3, 0, 0), (.iconst 4, 1, 0, 0), (.iload 4, 2, 0, 0), (.imul, 1, 0, 0), (.iadd, 1, 0, 0), (.iconst 3, 1, 0, 0), (.iadd, 1, 0, 0), (.dup2, 1, 0, 0), (.iaload, 1, 0, 0), (.iconst 1, 1, 0, 0), (.isub, 1, 0, 0), (.iastore, 1, 0, 0), (.aload_n 0, 1, 0, 0), (.getfield 7, 3, 3, 0), (.sipush 317, 3, 0, 0), (.iconst 4, 1, 0, 0), (.iload 4, 2, 0, 0), (.imul, 1, 0, 0), (.iadd, 1, 0, 0), (.iconst 3, 1, 0, 0), (.iadd, 1, 0, 0), (.iaload, 1, 0, 0), (.ifCond .ne 15, 3, 72, 0), (.aload_n 0, 1, 0, 0), (.iload 4, 2, 0, 0), (.invokevirtual 101, 3, 0, 0), (.iinc 2 1, 3, 0, 0), (.goto (-57), 3, 12, 0)]),
  (72, [(.iinc 4 1, 3, 0, 0), (.goto (-63), 3, 12, 0)]),
  (78, [(.aload_n 0, 1, 0, 0), (.getfield 7, 3, 3, 0), (.iconst 3, 1, 0, 0), (.dup2, 1, 0, 0), (.iaload, 1, 0, 0), (.iconst 1, 1, 0, 0), (.iadd, 1, 0, 0), (.iastore, 1, 0, 0), (.aload_n 0, 1, 0, 0), (.getfield 7, 3, 3, 0), (.sipush 293, 3, 0, 0), (.aload_n 0, 1, 0, 0), (.getfield 7, 3, 3, 0), (.iconst 3, 1, 0, 0), (.iaload, 1, 0, 0), (.bipush 24, 2, 0, 0), (.irem, 1, 0, 0), (.iadd, 1, 0, 0), (.iaload, 1, 0, 0), (.istore 5, 2, 0, 0), (.iconst 0, 1, 0, 0), (.istore 6, 2, 0, 0)]),
  (111, [(.iload 6, 2, 0, 0), (.iload 5, 2, 0, 0), (.if_icmp .ge 95, 3, 210, 0), (.aload_n 0, 1, 0, 0), (.invokevirtual 76, 3, 0, 0), (.aload_n 0, 1, 0, 0), (.getfield 7, 3, 3, 0), (.iconst 2, 1, 0, 0), (.iaload, 1, 0, 0), (.ldc 79, 2, 65536, 0), (.idiv, 1, 0, 0), (.aload_n 0, 1, 0, 0), (.getfield 7, 3, 3, 0), (.iconst 0, 1, 0, 0), (.iaload, 1, 0, 0), (.irem, 1, 0, 0), (.istore 7, 2, 0, 0), (.aload_n 0, 1, 0, 0), (.getfield 7, 3, 3, 0), (.iconst 2, 1, 0, 0), (.iaload, 1, 0, 0), (.sipush 1024, 3, 0, 0), (.idiv, 1, 0, 0), (.aload_n 0, 1, 0, 0), (.getfield 7, 3, 3, 0), (.iconst 0, 1, 0, 0), (.iaload, 1, 0, 0), (.irem, 1, 0, 0), (.istore 8, 2, 0, 0), (.aload_n 0, 1, 0, 0), (.iload 7, 2, 0, 0), (.iload 7, 2, 0, 0), (.iload 8, 2, 0, 0), (.if_icmp .ne 17, 3, 183, 0), (.iload 8, 2, 0, 0), (.iconst 1, 1, 0, 0), (.iadd, 1, 0, 0), (.aload_n 0, 1, 0, 0), (.getfield 7, 3, 3, 0), (.iconst 0, 1, 0, 0), (.iaload, 1, 0, 0), (.irem, 1, 0, 0), (.goto 5, 3, 185, 0)]),
  (183, [(.iload 8, 2, 0, 0)]),
  (185, [(.iconst 1, 1, 0, 0), (.aload_n 0, 1, 0, 0), (.getfield 7, 3, 3, 0), (.iconst 2, 1, 0, 0), (.iaload, 1, 0, 0), (.sipush 4096, 3, 0, 0), (.idiv, 1, 0, 0), (.bipush 6, 2, 0, 0), (.irem, 1, 0, 0), (.iadd, 1, 0, 0), (.invokevirtual 98, 3, 0, 0), (.pop, 1, 0, 0), (.iinc 6 1, 3, 0, 0), (.goto (-96), 3, 111, 0)]),
  (210, [(.iinc 3 1, 3, 0, 0), (.goto (-209), 3, 4, 0)]),
  (216, [(.iload_n 2, 1, 0, 0), (.ireturn, 1, 0, 0)])]
def m_X3_passes : MB := (yX3_passes, cX3_passes, 9, (some .int), T_X3_passes)
theorem ok_X3_passes : mOk m_X3_passes := mOk.of (by decide +kernel)
theorem pl_X3_passes : plainFor m_X3_passes.1 = true := by decide +kernel
def T_X3_hours : List (Nat × List MEn) := [(0, [(.iload_n 1, 1, 0, 0), (.iconst 1, 1, 0, 0), (.bipush 48, 2, 0, 0), (.invokestatic 36, 3, 0, 0), (.ifCond .ne 8, 3, 15, 0), (.aload_n 0, 1, 0, 0), (.invokevirtual 47, 3, 0, 0), (.ireturn, 1, 0, 0)]),
  (15, [(.aload_n 0, 1, 0, 0), (.invokevirtual 51, 3, 0, 0), (.aload_n 0, 1, 0, 0), (.iload_n 1, 1, 0, 0), (.invokevirtual 104, 3, 0, 0), (.ireturn, 1, 0, 0)])]
def m_X3_hours : MB := (yX3_hours, cX3_hours, 2, (some .int), T_X3_hours)
theorem ok_X3_hours : mOk m_X3_hours := mOk.of (by decide +kernel)
theorem pl_X3_hours : plainFor m_X3_hours.1 = true := by decide +kernel
def T_X3_going : List (Nat × List MEn) := [(0, [(.iload_n 1, 1, 0, 0), (.ifCond .lt 12, 3, 13, 0), (.iload_n 2, 1, 0, 0), (.iconst 0, 1, 0, 0), (.iconst 3, 1, 0, 0), (.invokestatic 36, 3, 0, 0), (.ifCond .ne 8, 3, 18, 0)]),
  (13, [(.aload_n 0, 1, 0, 0), (.invokevirtual 47, 3, 0, 0), (.ireturn, 1, 0, 0)]),
  (18, [(.iload_n 1, 1, 0, 0), (.aload_n 0, 1, 0, 0), (.getfield 7, 3, 3, 0), (.iconst 4, 1, 0, 0), (.iaload, 1, 0, 0), (.if_icmp .ge 20, 3, 45, 0), (.aload_n 0, 1, 0, 0), (.getfield 7, 3, 3, 0), (.sipush 317, 3, 0, 0), (.iconst 4, 1, 0, 0), (.iload_n 1, 1, 0, 0), (.imul, 1, 0, 0), (.iadd, 1, 0, 0), (.iload_n 2, 1, 0, 0), (.iadd, 1, 0, 0), (.iaload, 1, 0, 0), (.goto 4, 3, 46, 0)]),
  (45, [(.iconst (-1), 1, 0, 0)]),
  (46, [(.ireturn, 1, 0, 0)])]
def m_X3_going : MB := (yX3_going, cX3_going, 3, (some .int), T_X3_going)
theorem ok_X3_going : mOk m_X3_going := mOk.of (by decide +kernel)
theorem pl_X3_going : plainFor m_X3_going.1 = true := by decide +kernel
def T_X3_ends : List (Nat × List MEn) := [(0, [(.iload_n 1, 1, 0, 0), (.ifCond .ge 8, 3, 9, 0), (.aload_n 0, 1, 0, 0), (.invokevirtual 47, 3, 0, 0), (.ireturn, 1, 0, 0)]),
  (9, [(.iload_n 1, 1, 0, 0), (.aload_n 0, 1, 0, 0), (.getfield 7, 3, 3, 0), (.iconst 4, 1, 0, 0), (.iaload, 1, 0, 0), (.if_icmp .lt 8, 3, 24, 0), (.aload_n 0, 1, 0, 0), (.invokevirtual 108, 3, 0, 0), (.ireturn, 1, 0, 0)]),
  (24, [(.aload_n 0, 1, 0, 0), (.invokevirtual 51, 3, 0, 0), (.aload_n 0, 1, 0, 0), (.iload_n 1, 1, 0, 0), (.invokevirtual 101, 3, 0, 0), (.aload_n 0, 1, 0, 0), (.getfield 7, 3, 3, 0), (.iconst 4, 1, 0, 0), (.iaload, 1, 0, 0), (.ireturn, 1, 0, 0)])]
def m_X3_ends : MB := (yX3_ends, cX3_ends, 2, (some .int), T_X3_ends)
theorem ok_X3_ends : mOk m_X3_ends := mOk.of (by decide +kernel)
theorem pl_X3_ends : plainFor m_X3_ends.1 = true := by decide +kernel
def T_X3_sumOf : List (Nat × List MEn) := [(0, [(.iconst 0, 1, 0, 0), (.istore_n 2, 1, 0, 0), (.iconst 0, 1, 0, 0), (.istore_n 3, 1, 0, 0)]),
  (4, [(.iload_n 3, 1, 0, 0), (.bipush 36, 2, 0, 0), (.if_icmp .ge 25, 3, 32, 0), (.iload_n 2, 1, 0, 0), (.aload_n 0, 1, 0, 0), (.getfield 7, 3, 3, 0), (.bipush 113, 2, 0, 0), (.iconst 5, 1, 0, 0), (.iload_n 3, 1, 0, 0), (.imul, 1, 0, 0), (.iadd, 1, 0, 0), (.iload_n 1, 1, 0, 0), (.iadd, 1, 0, 0), (.iaload, 1, 0, 0), (.iadd, 1, 0, 0), (.istore_n 2, 1, 0, 0), (.iinc 3 1, 3, 0, 0), (.goto (-25), 3, 4, 0)]),
  (32, [(.iload_n 2, 1, 0, 0), (.ireturn, 1, 0, 0)])]
def m_X3_sumOf : MB := (yX3_sumOf, cX3_sumOf, 4, (some .int), T_X3_sumOf)
theorem ok_X3_sumOf : mOk m_X3_sumOf := mOk.of (by decide +kernel)
theorem pl_X3_sumOf : plainFor m_X3_sumOf.1 = true := by decide +kernel
def T_X3_all : List (Nat × List MEn) := [(0, [(.iload_n 1, 1, 0, 0), (.iconst 0, 1, 0, 0), (.iconst 4, 1, 0, 0), (.invokestatic 36, 3, 0, 0), (.ifCond .eq 11, 3, 17, 0), (.aload_n 0, 1, 0, 0), (.iload_n 1, 1, 0, 0), (.invokevirtual 111, 3, 0, 0), (.goto 7, 3, 21, 0)]),
  (17, [(.aload_n 0, 1, 0, 0), (.invokevirtual 47, 3, 0, 0)]),
  (21, [(.ireturn, 1, 0, 0)])]
def m_X3_all : MB := (yX3_all, cX3_all, 2, (some .int), T_X3_all)
theorem ok_X3_all : mOk m_X3_all := mOk.of (by decide +kernel)
theorem pl_X3_all : plainFor m_X3_all.1 = true := by decide +kernel
def T_X3_pair : List (Nat × List MEn) := [(0, [(.aload_n 0, 1, 0, 0), (.iload_n 1, 1, 0, 0), (.iload_n 2, 1, 0, 0), (.invokevirtual 54, 3, 0, 0), (.ifCond .eq 33, 3, 39, 0), (.iload_n 3, 1, 0, 0), (.iconst 0, 1, 0, 0), (.iconst 4, 1, 0, 0), (.invokestatic 36, 3, 0, 0), (.ifCond .eq 24, 3, 39, 0), (.aload_n 0, 1, 0, 0), (.getfield 7, 3, 3, 0), (.bipush 113, 2, 0, 0), (.iconst 5, 1, 0, 0), (.bipush 6, 2, 0, 0), (.iload_n 1, 1, 0, 0), (.imul, 1, 0, 0), (.iload_n 2, 1, 0, 0), (.iadd, 1, 0, 0), (.imul, 1, 0, 0), (.iadd, 1, 0, 0), (.iload_n 3, 1, 0, 0), (.iadd, 1, 0, 0), (.iaload, 1, 0, 0), (.goto 7, 3, 43, 0)]),
  (39, [(.aload_n 0, 1, 0, 0), (.invokevirtual 47, 3, 0, 0)]),
  (43, [(.ireturn, 1, 0, 0)])]
def m_X3_pair : MB := (yX3_pair, cX3_pair, 4, (some .int), T_X3_pair)
theorem ok_X3_pair : mOk m_X3_pair := mOk.of (by decide +kernel)
theorem pl_X3_pair : plainFor m_X3_pair.1 = true := by decide +kernel
def T_X3_worst : List (Nat × List MEn) := [(0, [(.iload_n 1, 1, 0, 0), (.iconst 0, 1, 0, 0), (.iconst 3, 1, 0, 0), (.invokestatic 36, 3, 0, 0), (.ifCond .ne 8, 3, 14, 0), (.aload_n 0, 1, 0, 0), (.invokevirtual 47, 3, 0, 0), (.ireturn, 1, 0, 0)]),
  (14, [(.iconst (-1), 1, 0, 0), (.istore_n 2, 1, 0, 0), (.iconst 0, 1, 0, 0), (.istore_n 3, 1, 0, 0), (.iconst 0, 1, 0, 0), (.istore 4, 2, 0, 0)]),
  (21, [(.iload 4, 2, 0, 0), (.aload_n 0, 1, 0, 0), (.getfield 7, 3, 3, 0), (.iconst 0, 1, 0, 0), (.iaload, 1, 0, 0), (.if_icmp .ge 121, 3, 150, 0), (.iload_n 1, 1, 0, 0), (.iconst 2, 1, 0, 0), (.if_icmp .ge 7, 3, 41, 0), (.iconst 0, 1, 0, 0), (.goto 7, 3, 45, 0)]),
  (41, [(.iload 4, 2, 0, 0), (.iconst 1, 1, 0, 0), (.iadd, 1, 0, 0)]),
  (45, [(.istore 5, 2, 0, 0)]),
  (47, [(.iload 5, 2, 0, 0), (.aload_n 0, 1, 0, 0), (.getfield 7, 3, 3, 0), (.iconst 0, 1, 0, 0), (.iaload, 1, 0, 0), (.if_icmp .ge 89, 3, 144, 0), (.iload 4, 2, 0, 0), (.iload 5, 2, 0, 0), (.if_icmp .ne 7, 3, 69, 0), (.iconst 0, 1, 0, 0), (.goto 40, 3, 106, 0)]),
  (69, [(.iload_n 1, 1, 0, 0), (.iconst 2, 1, 0, 0), (.if_icmp .ge 26, 3, 97, 0), (.aload_n 0, 1, 0, 0), (.getfield 7, 3, 3, 0), (.bipush 113, 2, 0, 0), (.iconst 5, 1, 0, 0), (.bipush 6, 2, 0, 0), (.iload 4, 2, 0, 0), (.imul, 1, 0, 0), (.iload 5, 2, 0, 0), (.iadd, 1, 0, 0), (.imul, 1, 0, 0), (.iadd, 1, 0, 0), (.iconst 4, 1, 0, 0), (.iadd, 1, 0, 0), (.iaload, 1, 0, 0), (.goto 12, 3, 106, 0)]),
  (97, [(.aload_n 0, 1, 0, 0), (.iload 4, 2, 0, 0), (.iload 5, 2, 0, 0), (.invokevirtual 67, 3, 0, 0), (.ineg, 1, 0, 0)]),
  (106, [(.istore 6, 2, 0, 0), (.iload 4, 2, 0, 0), (.iload 5, 2, 0, 0), (.if_icmp .eq 26, 3, 138, 0), (.iload_n 2, 1, 0, 0), (.iconst (-1), 1, 0, 0), (.if_icmp .eq 9, 3, 126, 0), (.iload 6, 2, 0, 0), (.iload_n 3, 1, 0, 0), (.if_icmp .le 15, 3, 138, 0)]),
  (126, [(.bipush 10, 2, 0, 0), (.iload 4, 2, 0, 0), (.imul, 1, 0, 0), (.iload 5, 2, 0, 0), (.iadd, 1, 0, 0), (.istore_n 2, 1, 0, 0), (.iload 6, 2, 0, 0), (.istore_n 3, 1, 0, 0)]),
  (138, [(.iinc 5 1, 3, 0, 0), (.goto (-94), 3, 47, 0)]),
  (144, [(.iinc 4 1, 3, 0, 0), (.goto (-126), 3, 21, 0)]),
  (150, [(.iload_n 1, 1, 0, 0), (.iconst 2, 1, 0, 0), (.irem, 1, 0, 0), (.ifCond .ne 7, 3, 160, 0), (.iload_n 2, 1, 0, 0), (.goto 14, 3, 171, 0)]),
  (160, [(.iload_n 1, 1, 0, 0), (.iconst 1, 1, 0, 0), (.if_icmp .ne 7, 3, 169, 0), (.iload_n 3, 1, 0, 0), (.goto 5, 3, 171, 0)]),
  (169, [(.iload_n 3, 1, 0, 0), (.ineg, 1, 0, 0)]),
  (171, [(.ireturn, 1, 0, 0)])]
def m_X3_worst : MB := (yX3_worst, cX3_worst, 7, (some .int), T_X3_worst)
theorem ok_X3_worst : mOk m_X3_worst := mOk.of (by decide +kernel)
theorem pl_X3_worst : plainFor m_X3_worst.1 = true := by decide +kernel
def T_X3_burden : List (Nat × List MEn) := [(0, [(.iconst 0, 1, 0, 0), (.istore_n 1, 1, 0, 0), (.iconst 0, 1, 0, 0), (.istore_n 2, 1, 0, 0)]),
  (4, [(.iload_n 2, 1, 0, 0), (.aload_n 0, 1, 0, 0), (.getfield 7, 3, 3, 0), (.iconst 4, 1, 0, 0), (.iaload, 1, 0, 0), (.if_icmp .ge 35, 3, 46, 0), (.iload_n 1, 1, 0, 0), (.aload_n 0, 1, 0, 0), (.getfield 7, 3, 3, 0), (.sipush 317, 3, 0, 0), (.iconst 4, 1, 0, 0), (.iload_n 2, 1, 0, 0), (.imul, 1, 0, 0), (.iadd, 1, 0, 0), (.iconst 2, 1, 0, 0), (.iadd, 1, 0, 0), (.iaload, 1, 0, 0), (.iconst (-1), 1, 0, 0), (.if_icmp .ne 7, 3, 37, 0), (.iconst 1, 1, 0, 0), (.goto 4, 3, 38, 0)]),
  (37, [(.iconst 2, 1, 0, 0)]),
  (38, [(.iadd, 1, 0, 0), (.istore_n 1, 1, 0, 0), (.iinc 2 1, 3, 0, 0), (.goto (-39), 3, 4, 0)]),
  (46, [(.aload_n 0, 1, 0, 0), (.getfield 7, 3, 3, 0), (.iconst 4, 1, 0, 0), (.iaload, 1, 0, 0), (.ifCond .ne 7, 3, 59, 0), (.iconst 0, 1, 0, 0), (.goto 15, 3, 71, 0)]),
  (59, [(.sipush 1000, 3, 0, 0), (.iload_n 1, 1, 0, 0), (.imul, 1, 0, 0), (.aload_n 0, 1, 0, 0), (.getfield 7, 3, 3, 0), (.iconst 4, 1, 0, 0), (.iaload, 1, 0, 0), (.idiv, 1, 0, 0)]),
  (71, [(.ireturn, 1, 0, 0)])]
def m_X3_burden : MB := (yX3_burden, cX3_burden, 3, (some .int), T_X3_burden)
theorem ok_X3_burden : mOk m_X3_burden := mOk.of (by decide +kernel)
theorem pl_X3_burden : plainFor m_X3_burden.1 = true := by decide +kernel
def T_X3_lostIn : List (Nat × List MEn) := [(0, [(.iconst 0, 1, 0, 0), (.istore_n 3, 1, 0, 0)]),
  (2, [(.iload_n 3, 1, 0, 0), (.sipush 637, 3, 0, 0), (.if_icmp .ge 21, 3, 27, 0), (.aload_n 0, 1, 0, 0), (.getfield 13, 3, 3, 1), (.iload_n 3, 1, 0, 0), (.aload_n 0, 1, 0, 0), (.getfield 7, 3, 3, 0), (.iload_n 3, 1, 0, 0), (.iaload, 1, 0, 0), (.iastore, 1, 0, 0), (.iinc 3 1, 3, 0, 0), (.goto (-22), 3, 2, 0)]),
  (27, [(.iconst 0, 1, 0, 0), (.istore_n 3, 1, 0, 0)]),
  (29, [(.iload_n 3, 1, 0, 0), (.bipush 36, 2, 0, 0), (.if_icmp .ge 19, 3, 51, 0), (.aload_n 0, 1, 0, 0), (.getfield 7, 3, 3, 0), (.bipush 41, 2, 0, 0), (.iload_n 3, 1, 0, 0), (.iadd, 1, 0, 0), (.iload_n 2, 1, 0, 0), (.iastore, 1, 0, 0), (.iinc 3 1, 3, 0, 0), (.goto (-19), 3, 29, 0)]),
  (51, [(.aload_n 0, 1, 0, 0), (.iconst 4, 1, 0, 0), (.invokevirtual 111, 3, 0, 0), (.istore_n 3, 1, 0, 0), (.aload_n 0, 1, 0, 0), (.iload_n 1, 1, 0, 0), (.invokevirtual 104, 3, 0, 0), (.pop, 1, 0, 0), (.aload_n 0, 1, 0, 0), (.iconst 4, 1, 0, 0), (.invokevirtual 111, 3, 0, 0), (.iload_n 3, 1, 0, 0), (.isub, 1, 0, 0), (.istore 4, 2, 0, 0), (.iconst 0, 1, 0, 0), (.istore 5, 2, 0, 0)]),
  (75, [(.iload 5, 2, 0, 0), (.sipush 637, 3, 0, 0), (.if_icmp .ge 23, 3, 103, 0), (.aload_n 0, 1, 0, 0), (.getfield 7, 3, 3, 0), (.iload 5, 2, 0, 0), (.aload_n 0, 1, 0, 0), (.getfield 13, 3, 3, 1), (.iload 5, 2, 0, 0), (.iaload, 1, 0, 0), (.iastore, 1, 0, 0), (.iinc 5 1, 3, 0, 0), (.goto (-25), 3, 75, 0)]),
  (103, [(.iload 4, 2, 0, 0), (.ireturn, 1, 0, 0)])]
def m_X3_lostIn : MB := (yX3_lostIn, cX3_lostIn, 6, (some .int), T_X3_lostIn)
theorem ok_X3_lostIn : mOk m_X3_lostIn := mOk.of (by decide +kernel)
theorem pl_X3_lostIn : plainFor m_X3_lostIn.1 = true := by decide +kernel
def T_X3_would : List (Nat × List MEn) := [(0, [(.iload_n 1, 1, 0, 0), (.iconst 1, 1, 0, 0), (.bipush 48, 2, 0, 0), (.invokestatic 36, 3, 0, 0), (.ifCond .eq 22, 3, 29, 0), (.iload_n 2, 1, 0, 0), (.iconst 0, 1, 0, 0), (.bipush 30, 2, 0, 0), (.invokestatic 36, 3, 0, 0), (.ifCond .eq 12, 3, 29, 0), (.aload_n 0, 1, 0, 0), (.iload_n 1, 1, 0, 0), (.iload_n 2, 1, 0, 0), (.invokevirtual 114, 3, 0, 0), (.goto 7, 3, 33, 0)]),
  (29, [(.aload_n 0, 1, 0, 0), (.invokevirtual 47, 3, 0, 0)]),
  (33, [(.ireturn, 1, 0, 0)])]
def m_X3_would : MB := (yX3_would, cX3_would, 3, (some .int), T_X3_would)
theorem ok_X3_would : mOk m_X3_would := mOk.of (by decide +kernel)
theorem pl_X3_would : plainFor m_X3_would.1 = true := by decide +kernel
def T_X3_best : List (Nat × List MEn) := [(0, [(.iload_n 1, 1, 0, 0), (.iconst 1, 1, 0, 0), (.bipush 48, 2, 0, 0), (.invokestatic 36, 3, 0, 0), (.ifCond .eq 12, 3, 19, 0), (.iload_n 2, 1, 0, 0), (.iconst 0, 1, 0, 0), (.iconst 1, 1, 0, 0), (.invokestatic 36, 3, 0, 0), (.ifCond .ne 8, 3, 24, 0)]),
  (19, [(.aload_n 0, 1, 0, 0), (.invokevirtual 47, 3, 0, 0), (.ireturn, 1, 0, 0)]),
  (24, [(.iconst 0, 1, 0, 0), (.istore_n 3, 1, 0, 0), (.aload_n 0, 1, 0, 0), (.iload_n 1, 1, 0, 0), (.iconst 0, 1, 0, 0), (.invokevirtual 114, 3, 0, 0), (.istore 4, 2, 0, 0), (.iconst 1, 1, 0, 0), (.istore 5, 2, 0, 0)]),
  (37, [(.iload 5, 2, 0, 0), (.bipush 31, 2, 0, 0), (.if_icmp .ge 48, 3, 89, 0), (.aload_n 0, 1, 0, 0), (.iload_n 1, 1, 0, 0), (.iload 5, 2, 0, 0), (.invokevirtual 114, 3, 0, 0), (.istore 6, 2, 0, 0), (.iload 6, 2, 0, 0), (.iload 4, 2, 0, 0), (.if_icmp .ge 8, 3, 65, 0), (.iload 5, 2, 0, 0), (.goto 4, 3, 66, 0)]),
  (65, [(.iload_n 3, 1, 0, 0)]),
  (66, [(.istore_n 3, 1, 0, 0), (.iload 6, 2, 0, 0), (.iload 4, 2, 0, 0), (.if_icmp .ge 8, 3, 79, 0), (.iload 6, 2, 0, 0), (.goto 5, 3, 81, 0)]),
  (79, [(.iload 4, 2, 0, 0)]),
  (81, [(.istore 4, 2, 0, 0), (.iinc 5 1, 3, 0, 0), (.goto (-49), 3, 37, 0)]),
  (89, [(.iload_n 2, 1, 0, 0), (.ifCond .ne 7, 3, 97, 0), (.iload_n 3, 1, 0, 0), (.goto 5, 3, 99, 0)]),
  (97, [(.iload 4, 2, 0, 0)]),
  (99, [(.ireturn, 1, 0, 0)])]
def m_X3_best : MB := (yX3_best, cX3_best, 7, (some .int), T_X3_best)
theorem ok_X3_best : mOk m_X3_best := mOk.of (by decide +kernel)
theorem pl_X3_best : plainFor m_X3_best.1 = true := by decide +kernel
def T_X3_mayGo : List (Nat × List MEn) := [(0, [(.aload_n 0, 1, 0, 0), (.iload_n 1, 1, 0, 0), (.iload_n 2, 1, 0, 0), (.invokevirtual 67, 3, 0, 0), (.ifCond .gt 21, 3, 27, 0), (.aload_n 0, 1, 0, 0), (.iload_n 1, 1, 0, 0), (.iload_n 3, 1, 0, 0), (.invokevirtual 88, 3, 0, 0), (.ifCond .eq 16, 3, 31, 0), (.aload_n 0, 1, 0, 0), (.iload_n 3, 1, 0, 0), (.iload_n 2, 1, 0, 0), (.invokevirtual 88, 3, 0, 0), (.ifCond .eq 7, 3, 31, 0)]),
  (27, [(.iconst 1, 1, 0, 0), (.goto 4, 3, 32, 0)]),
  (31, [(.iconst 0, 1, 0, 0)]),
  (32, [(.ireturn, 1, 0, 0)])]
def m_X3_mayGo : MB := (yX3_mayGo, cX3_mayGo, 4, (some .boolean), T_X3_mayGo)
theorem ok_X3_mayGo : mOk m_X3_mayGo := mOk.of (by decide +kernel)
theorem pl_X3_mayGo : plainFor m_X3_mayGo.1 = true := by decide +kernel
def T_X3_choked : List (Nat × List MEn) := [(0, [(.iload_n 1, 1, 0, 0), (.iconst 0, 1, 0, 0), (.iconst 1, 1, 0, 0), (.invokestatic 36, 3, 0, 0), (.ifCond .ne 8, 3, 14, 0), (.aload_n 0, 1, 0, 0), (.invokevirtual 47, 3, 0, 0), (.ireturn, 1, 0, 0)]),
  (14, [(.iconst 0, 1, 0, 0), (.istore_n 2, 1, 0, 0), (.iconst 0, 1, 0, 0), (.istore_n 3, 1, 0, 0)]),
  (18, [(.iload_n 3, 1, 0, 0), (.aload_n 0, 1, 0, 0), (.getfield 7, 3, 3, 0), (.iconst 0, 1, 0, 0), (.iaload, 1, 0, 0), (.if_icmp .ge 149, 3, 174, 0), (.iconst 0, 1, 0, 0), (.istore 4, 2, 0, 0)]),
  (31, [(.iload 4, 2, 0, 0), (.aload_n 0, 1, 0, 0), (.getfield 7, 3, 3, 0), (.iconst 0, 1, 0, 0), (.iaload, 1, 0, 0), (.if_icmp .ge 129, 3, 168, 0), (.iload_n 3, 1, 0, 0), (.iload 4, 2, 0, 0), (.if_icmp .ne 7, 3, 52, 0), (.iconst 1, 1, 0, 0), (.goto 4, 3, 53, 0)]),
  (52, [(.iconst 0, 1, 0, 0)]),
  (53, [(.istore 5, 2, 0, 0), (.iconst 0, 1, 0, 0), (.istore 6, 2, 0, 0)]),
  (58, [(.iload 6, 2, 0, 0), (.aload_n 0, 1, 0, 0), (.getfield 7, 3, 3, 0), (.iconst 0, 1, 0, 0), (.iaload, 1, 0, 0), (.if_icmp .ge 83, 3, 149, 0), (.iload 5, 2, 0, 0), (.ifCond .ne 78, 3, 149, 0), (.iload 6, 2, 0, 0), (.iload_n 3, 1, 0, 0), (.if_icmp .eq 39, 3, 116, 0), (.iload 6, 2, 0, 0), (.iload 4, 2, 0, 0), (.if_icmp .eq 32, 3, 116, 0), (.iload_n 1, 1, 0, 0), (.iconst 1, 1, 0, 0), (.if_icmp .eq 23, 3, 112, 0), (.aload_n 0, 1, 0, 0), (.getfield 7, 3, 3, 0), (.bipush 77, 2, 0, 0), (.bipush 6, 2, 0, 0), (.iload_n 3, 1, 0, 0), (.imul, 1, 0, 0), (.iadd, 1, 0, 0), (.iload 4, 2, 0, 0), (.iadd, 1, 0, 0), (.iaload, 1, 0, 0), (.iload 6, 2, 0, 0), (.if_icmp .ne 7, 3, 116, 0)]),
  (112, [(.iconst 1, 1, 0, 0), (.goto 4, 3, 117, 0)]),
  (116, [(.iconst 0, 1, 0, 0)]),
  (117, [(.istore 7, 2, 0, 0), (.iload 7, 2, 0, 0), (.ifCond .eq 19, 3, 140, 0), (.aload_n 0, 1, 0, 0), (.iload_n 3, 1, 0, 0), (.iload 4, 2, 0, 0), (.iload 6, 2, 0, 0), (.invokevirtual 117, 3, 0, 0), (.ifCond .eq 7, 3, 140, 0), (.iconst 1, 1, 0, 0), (.goto 4, 3, 141, 0)]),
  (140, [(.iconst 0, 1, 0, 0)]),
  (141, [(.istore 5, 2, 0, 0), (.iinc 6 1, 3, 0, 0), (.goto (-88), 3, 58, 0)]),
  (149, [(.iload_n 2, 1, 0, 0), (.iload 5, 2, 0, 0), (.ifCond .eq 7, 3, 159, 0), (.iconst 0, 1, 0, 0), (.goto 4, 3, 160, 0)]),
  (159, [(.iconst 1, 1, 0, 0)]),
  (160, [(.iadd, 1, 0, 0), (.istore_n 2, 1, 0, 0), (.iinc 4 1, 3, 0, 0), (.goto (-134), 3, 31, 0)]),
  (168, [(.iinc 3 1, 3, 0, 0), (.goto (-153), 3, 18, 0)]),
  (174, [(.iload_n 2, 1, 0, 0), (.ireturn, 1, 0, 0)])]
def m_X3_choked : MB := (yX3_choked, cX3_choked, 8, (some .int), T_X3_choked)
theorem ok_X3_choked : mOk m_X3_choked := mOk.of (by decide +kernel)
theorem pl_X3_choked : plainFor m_X3_choked.1 = true := by decide +kernel
def T_X3_type : List (Nat × List MEn) := [(0, [(.iload_n 1, 1, 0, 0), (.iconst 0, 1, 0, 0), (.bipush 127, 2, 0, 0), (.invokestatic 36, 3, 0, 0), (.ifCond .ne 8, 3, 15, 0), (.aload_n 0, 1, 0, 0), (.invokevirtual 47, 3, 0, 0), (.ireturn, 1, 0, 0)]),
  (15, [(.aload_n 0, 1, 0, 0), (.getfield 120, 3, 3, 5), (.bipush 120, 2, 0, 0), (.if_icmp .ne 16, 3, 37, 0), (.aload_n 0, 1, 0, 0), (.dup, 1, 0, 0), (.getfield 95, 3, 3, 12), (.iconst 1, 1, 0, 0), (.iadd, 1, 0, 0), (.putfield 95, 3, 3, 12), (.bipush (-4), 2, 0, 0), (.ireturn, 1, 0, 0)]),
  (37, [(.aload_n 0, 1, 0, 0), (.getfield 19, 3, 3, 4), (.aload_n 0, 1, 0, 0), (.getfield 120, 3, 3, 5), (.iload_n 1, 1, 0, 0), (.iastore, 1, 0, 0), (.aload_n 0, 1, 0, 0), (.dup, 1, 0, 0), (.getfield 120, 3, 3, 5), (.iconst 1, 1, 0, 0), (.iadd, 1, 0, 0), (.putfield 120, 3, 3, 5), (.aload_n 0, 1, 0, 0), (.getfield 120, 3, 3, 5), (.ireturn, 1, 0, 0)])]
def m_X3_type : MB := (yX3_type, cX3_type, 2, (some .int), T_X3_type)
theorem ok_X3_type : mOk m_X3_type := mOk.of (by decide +kernel)
theorem pl_X3_type : plainFor m_X3_type.1 = true := by decide +kernel
def T_X3_clear : List (Nat × List MEn) := [(0, [(.aload_n 0, 1, 0, 0), (.getfield 120, 3, 3, 5), (.istore_n 1, 1, 0, 0), (.aload_n 0, 1, 0, 0), (.iconst 0, 1, 0, 0), (.putfield 120, 3, 3, 5), (.iload_n 1, 1, 0, 0), (.ireturn, 1, 0, 0)])]
def m_X3_clear : MB := (yX3_clear, cX3_clear, 2, (some .int), T_X3_clear)
theorem ok_X3_clear : mOk m_X3_clear := mOk.of (by decide +kernel)
theorem pl_X3_clear : plainFor m_X3_clear.1 = true := by decide +kernel
def T_X3_sign : List (Nat × List MEn) := [(0, [(.aload_n 0, 1, 0, 0), (.getfield 123, 3, 3, 6), (.aload_n 0, 1, 0, 0), (.getfield 120, 3, 3, 5), (.if_icmp .ge 30, 3, 38, 0), (.aload_n 0, 1, 0, 0), (.getfield 19, 3, 3, 4), (.aload_n 0, 1, 0, 0), (.getfield 123, 3, 3, 6), (.iaload, 1, 0, 0), (.bipush 32, 2, 0, 0), (.if_icmp .ne 16, 3, 38, 0), (.aload_n 0, 1, 0, 0), (.dup, 1, 0, 0), (.getfield 123, 3, 3, 6), (.iconst 1, 1, 0, 0), (.iadd, 1, 0, 0), (.putfield 123, 3, 3, 6), (.goto (-35), 3, 0, 0)]),
  (38, [(.aload_n 0, 1, 0, 0), (.getfield 123, 3, 3, 6), (.aload_n 0, 1, 0, 0), (.getfield 120, 3, 3, 5), (.if_icmp .ge 15, 3, 61, 0), (.aload_n 0, 1, 0, 0), (.getfield 19, 3, 3, 4), (.aload_n 0, 1, 0, 0), (.getfield 123, 3, 3, 6), (.iaload, 1, 0, 0), (.goto 4, 3, 62, 0)]),
  (61, [(.iconst (-1), 1, 0, 0)]),
  (62, [(.ireturn, 1, 0, 0)])]
def m_X3_sign : MB := (yX3_sign, cX3_sign, 1, (some .int), T_X3_sign)
theorem ok_X3_sign : mOk m_X3_sign := mOk.of (by decide +kernel)
theorem pl_X3_sign : plainFor m_X3_sign.1 = true := by decide +kernel
def T_X3_fails : List (Nat × List MEn) := [(0, [(.aload_n 0, 1, 0, 0), (.aload_n 0, 1, 0, 0), (.getfield 126, 3, 3, 7), (.iconst (-1), 1, 0, 0), (.if_icmp .ne 7, 3, 13, 0), (.iload_n 1, 1, 0, 0), (.goto 7, 3, 17, 0)]),
  (13, [(.aload_n 0, 1, 0, 0), (.getfield 126, 3, 3, 7)]),
  (17, [(.putfield 126, 3, 3, 7), (.return_, 1, 0, 0)])]
def m_X3_fails : MB := (yX3_fails, cX3_fails, 2, none, T_X3_fails)
theorem ok_X3_fails : mOk m_X3_fails := mOk.of (by decide +kernel)
theorem pl_X3_fails : plainFor m_X3_fails.1 = true := by decide +kernel
def T_X3_isFigure : List (Nat × List MEn) := [(0, [(.iload_n 0, 1, 0, 0), (.bipush 48, 2, 0, 0), (.bipush 57, 2, 0, 0), (.invokestatic 36, 3, 0, 0), (.ireturn, 1, 0, 0)])]
def m_X3_isFigure : MB := (yX3_isFigure, cX3_isFigure, 1, (some .boolean), T_X3_isFigure)
theorem ok_X3_isFigure : mOk m_X3_isFigure := mOk.of (by decide +kernel)
theorem pl_X3_isFigure : plainFor m_X3_isFigure.1 = true := by decide +kernel
def T_X3_figure : List (Nat × List MEn) := [(0, [(.aload_n 0, 1, 0, 0), (.invokevirtual 129, 3, 0, 0), (.istore_n 3, 1, 0, 0), (.aload_n 0, 1, 0, 0), (.getfield 126, 3, 3, 7), (.iconst (-1), 1, 0, 0), (.if_icmp .ne 26, 3, 36, 0), (.iload_n 3, 1, 0, 0), (.invokestatic 132, 3, 0, 0), (.ifCond .eq 19, 3, 36, 0), (.iload_n 3, 1, 0, 0), (.bipush 48, 2, 0, 0), (.isub, 1, 0, 0), (.iload_n 1, 1, 0, 0), (.if_icmp .gt 11, 3, 36, 0), (.iload_n 3, 1, 0, 0), (.bipush 48, 2, 0, 0), (.isub, 1, 0, 0), (.iload_n 2, 1, 0, 0), (.if_icmp .ne 13, 3, 46, 0)]),
  (36, [(.aload_n 0, 1, 0, 0), (.aload_n 0, 1, 0, 0), (.getfield 123, 3, 3, 6), (.invokevirtual 135, 3, 0, 0), (.iconst 0, 1, 0, 0), (.ireturn, 1, 0, 0)]),
  (46, [(.aload_n 0, 1, 0, 0), (.dup, 1, 0, 0), (.getfield 123, 3, 3, 6), (.iconst 1, 1, 0, 0), (.iadd, 1, 0, 0), (.putfield 123, 3, 3, 6), (.iload_n 3, 1, 0, 0), (.bipush 48, 2, 0, 0), (.isub, 1, 0, 0), (.ireturn, 1, 0, 0)])]
def m_X3_figure : MB := (yX3_figure, cX3_figure, 4, (some .int), T_X3_figure)
theorem ok_X3_figure : mOk m_X3_figure := mOk.of (by decide +kernel)
theorem pl_X3_figure : plainFor m_X3_figure.1 = true := by decide +kernel
def T_X3_number : List (Nat × List MEn) := [(0, [(.aload_n 0, 1, 0, 0), (.invokevirtual 129, 3, 0, 0), (.pop, 1, 0, 0), (.aload_n 0, 1, 0, 0), (.getfield 123, 3, 3, 6), (.istore_n 3, 1, 0, 0), (.iconst 0, 1, 0, 0), (.istore 4, 2, 0, 0)]),
  (13, [(.aload_n 0, 1, 0, 0), (.getfield 123, 3, 3, 6), (.aload_n 0, 1, 0, 0), (.getfield 120, 3, 3, 5), (.if_icmp .ge 67, 3, 88, 0), (.aload_n 0, 1, 0, 0), (.getfield 19, 3, 3, 4), (.aload_n 0, 1, 0, 0), (.getfield 123, 3, 3, 6), (.iaload, 1, 0, 0), (.invokestatic 132, 3, 0, 0), (.ifCond .eq 52, 3, 88, 0), (.aload_n 0, 1, 0, 0), (.getfield 123, 3, 3, 6), (.iload_n 3, 1, 0, 0), (.isub, 1, 0, 0), (.iconst 2, 1, 0, 0), (.if_icmp .ge 24, 3, 70, 0), (.bipush 10, 2, 0, 0), (.iload 4, 2, 0, 0), (.imul, 1, 0, 0), (.aload_n 0, 1, 0, 0), (.getfield 19, 3, 3, 4), (.aload_n 0, 1, 0, 0), (.getfield 123, 3, 3, 6), (.iaload, 1, 0, 0), (.iadd, 1, 0, 0), (.bipush 48, 2, 0, 0), (.isub, 1, 0, 0), (.goto 6, 3, 73, 0)]),
  (70, [(.sipush 1000, 3, 0, 0)]),
  (73, [(.istore 4, 2, 0, 0), (.aload_n 0, 1, 0, 0), (.dup, 1, 0, 0), (.getfield 123, 3, 3, 6), (.iconst 1, 1, 0, 0), (.iadd, 1, 0, 0), (.putfield 123, 3, 3, 6), (.goto (-72), 3, 13, 0)]),
  (88, [(.aload_n 0, 1, 0, 0), (.getfield 123, 3, 3, 6), (.iload_n 3, 1, 0, 0), (.if_icmp .eq 13, 3, 106, 0), (.iload 4, 2, 0, 0), (.iload_n 1, 1, 0, 0), (.iload_n 2, 1, 0, 0), (.invokestatic 36, 3, 0, 0), (.ifCond .ne 8, 3, 111, 0)]),
  (106, [(.aload_n 0, 1, 0, 0), (.iload_n 3, 1, 0, 0), (.invokevirtual 135, 3, 0, 0)]),
  (111, [(.iload 4, 2, 0, 0), (.ireturn, 1, 0, 0)])]
def m_X3_number : MB := (yX3_number, cX3_number, 5, (some .int), T_X3_number)
theorem ok_X3_number : mOk m_X3_number := mOk.of (by decide +kernel)
theorem pl_X3_number : plainFor m_X3_number.1 = true := by decide +kernel
def T_X3_order : List (Nat × List MEn) := [(0, [(.iconst 4, 1, 0, 0), (.aload_n 0, 1, 0, 0), (.getfield 138, 3, 3, 9), (.imul, 1, 0, 0), (.istore_n 1, 1, 0, 0), (.aload_n 0, 1, 0, 0), (.invokevirtual 129, 3, 0, 0), (.istore_n 2, 1, 0, 0), (.aload_n 0, 1, 0, 0), (.getfield 7, 3, 3, 0), (.iconst 0, 1, 0, 0), (.iaload, 1, 0, 0), (.iconst 1, 1, 0, 0), (.isub, 1, 0, 0), (.istore_n 3, 1, 0, 0), (.aload_n 0, 1, 0, 0), (.getfield 22, 3, 3, 8), (.iload_n 1, 1, 0, 0), (.iload_n 2, 1, 0, 0), (.invokestatic 132, 3, 0, 0), (.ifCond .eq 8, 3, 38, 0), (.bipush 99, 2, 0, 0), (.goto 4, 3, 39, 0)]),
  (38, [(.iload_n 2, 1, 0, 0)]),
  (39, [(.iastore, 1, 0, 0), (.iload_n 2, 1, 0, 0), (.invokestatic 132, 3, 0, 0), (.ifCond .eq 68, 3, 112, 0), (.aload_n 0, 1, 0, 0), (.getfield 22, 3, 3, 8), (.iload_n 1, 1, 0, 0), (.iconst 1, 1, 0, 0), (.iadd, 1, 0, 0), (.aload_n 0, 1, 0, 0), (.iload_n 3, 1, 0, 0), (.iconst (-1), 1, 0, 0), (.invokevirtual 141, 3, 0, 0), (.iastore, 1, 0, 0), (.aload_n 0, 1, 0, 0), (.getfield 22, 3, 3, 8), (.iload_n 1, 1, 0, 0), (.iconst 2, 1, 0, 0), (.iadd, 1, 0, 0), (.aload_n 0, 1, 0, 0), (.iload_n 3, 1, 0, 0), (.aload_n 0, 1, 0, 0), (.getfield 22, 3, 3, 8), (.iload_n 1, 1, 0, 0), (.iconst 1, 1, 0, 0), (.iadd, 1, 0, 0), (.iaload, 1, 0, 0), (.invokevirtual 141, 3, 0, 0), (.iastore, 1, 0, 0), (.aload_n 0, 1, 0, 0), (.getfield 22, 3, 3, 8), (.iload_n 1, 1, 0, 0), (.iconst 3, 1, 0, 0), (.iadd, 1, 0, 0), (.aload_n 0, 1, 0, 0), (.getfield 126, 3, 3, 7), (.iconst (-1), 1, 0, 0), (.if_icmp .ne 13, 3, 107, 0), (.aload_n 0, 1, 0, 0), (.iconst 1, 1, 0, 0), (.bipush 24, 2, 0, 0), (.invokevirtual 144, 3, 0, 0), (.goto 4, 3, 108, 0)]),
  (107, [(.iconst 0, 1, 0, 0)]),
  (108, [(.iastore, 1, 0, 0), (.goto 226, 3, 335, 0)]),
  (112, [(.iload_n 2, 1, 0, 0), (.bipush 43, 2, 0, 0), (.if_icmp .ne 31, 3, 146, 0), (.aload_n 0, 1, 0, 0), (.dup, 1, 0, 0), (.getfield 123, 3, 3, 6), (.iconst 1, 1, 0, 0), (.iadd, 1, 0, 0), (.putfield 123, 3, 3, 6), (.aload_n 0, 1, 0, 0), (.getfield 22, 3, 3, 8), (.iload_n 1, 1, 0, 0), (.iconst 1, 1, 0, 0), (.iadd, 1, 0, 0), (.aload_n 0, 1, 0, 0), (.iconst 0, 1, 0, 0), (.bipush 99, 2, 0, 0), (.invokevirtual 144, 3, 0, 0), (.iastore, 1, 0, 0), (.goto 192, 3, 335, 0)]),
  (146, [(.iload_n 2, 1, 0, 0), (.bipush 119, 2, 0, 0), (.if_icmp .eq 9, 3, 158, 0), (.iload_n 2, 1, 0, 0), (.bipush 114, 2, 0, 0), (.if_icmp .ne 78, 3, 233, 0)]),
  (158, [(.aload_n 0, 1, 0, 0), (.dup, 1, 0, 0), (.getfield 123, 3, 3, 6), (.iconst 1, 1, 0, 0), (.iadd, 1, 0, 0), (.putfield 123, 3, 3, 6), (.aload_n 0, 1, 0, 0), (.getfield 22, 3, 3, 8), (.iload_n 1, 1, 0, 0), (.iconst 1, 1, 0, 0), (.iadd, 1, 0, 0), (.aload_n 0, 1, 0, 0), (.iload_n 3, 1, 0, 0), (.iconst (-1), 1, 0, 0), (.invokevirtual 141, 3, 0, 0), (.iastore, 1, 0, 0), (.aload_n 0, 1, 0, 0), (.getfield 22, 3, 3, 8), (.iload_n 1, 1, 0, 0), (.iconst 2, 1, 0, 0), (.iadd, 1, 0, 0), (.aload_n 0, 1, 0, 0), (.iload_n 3, 1, 0, 0), (.aload_n 0, 1, 0, 0), (.getfield 22, 3, 3, 8), (.iload_n 1, 1, 0, 0), (.iconst 1, 1, 0, 0), (.iadd, 1, 0, 0), (.iaload, 1, 0, 0), (.invokevirtual 141, 3, 0, 0), (.iastore, 1, 0, 0), (.aload_n 0, 1, 0, 0), (.getfield 22, 3, 3, 8), (.iload_n 1, 1, 0, 0), (.iconst 3, 1, 0, 0), (.iadd, 1, 0, 0), (.aload_n 0, 1, 0, 0), (.getfield 126, 3, 3, 7), (.iconst (-1), 1, 0, 0), (.if_icmp .ne 13, 3, 228, 0), (.aload_n 0, 1, 0, 0), (.iconst 0, 1, 0, 0), (.bipush 30, 2, 0, 0), (.invokevirtual 144, 3, 0, 0), (.goto 4, 3, 229, 0)]),
  (228, [(.iconst 0, 1, 0, 0)]),
  (229, [(.iastore, 1, 0, 0), (.goto 105, 3, 335, 0)]),
  (233, [(.iload_n 2, 1, 0, 0), (.bipush 112, 2, 0, 0), (.if_icmp .ne 58, 3, 294, 0), (.aload_n 0, 1, 0, 0), (.dup, 1, 0, 0), (.getfield 123, 3, 3, 6), (.iconst 1, 1, 0, 0), (.iadd, 1, 0, 0), (.putfield 123, 3, 3, 6), (.aload_n 0, 1, 0, 0), (.getfield 22, 3, 3, 8), (.iload_n 1, 1, 0, 0), (.iconst 1, 1, 0, 0), (.iadd, 1, 0, 0), (.aload_n 0, 1, 0, 0), (.iconst 0, 1, 0, 0), (.bipush 23, 2, 0, 0), (.invokevirtual 144, 3, 0, 0), (.iastore, 1, 0, 0), (.aload_n 0, 1, 0, 0), (.getfield 22, 3, 3, 8), (.iload_n 1, 1, 0, 0), (.iconst 2, 1, 0, 0), (.iadd, 1, 0, 0), (.aload_n 0, 1, 0, 0), (.getfield 126, 3, 3, 7), (.iconst (-1), 1, 0, 0), (.if_icmp .ne 13, 3, 289, 0), (.aload_n 0, 1, 0, 0), (.iconst 0, 1, 0, 0), (.bipush 9, 2, 0, 0), (.invokevirtual 144, 3, 0, 0), (.goto 4, 3, 290, 0)]),
  (289, [(.iconst 0, 1, 0, 0)]),
  (290, [(.iastore, 1, 0, 0), (.goto 44, 3, 335, 0)]),
  (294, [(.iload_n 2, 1, 0, 0), (.bipush 120, 2, 0, 0), (.if_icmp .ne 30, 3, 327, 0), (.aload_n 0, 1, 0, 0), (.dup, 1, 0, 0), (.getfield 123, 3, 3, 6), (.iconst 1, 1, 0, 0), (.iadd, 1, 0, 0), (.putfield 123, 3, 3, 6), (.aload_n 0, 1, 0, 0), (.getfield 22, 3, 3, 8), (.iload_n 1, 1, 0, 0), (.iconst 1, 1, 0, 0), (.iadd, 1, 0, 0), (.aload_n 0, 1, 0, 0), (.iconst 1, 1, 0, 0), (.iconst (-1), 1, 0, 0), (.invokevirtual 141, 3, 0, 0), (.iastore, 1, 0, 0), (.goto 11, 3, 335, 0)]),
  (327, [(.aload_n 0, 1, 0, 0), (.aload_n 0, 1, 0, 0), (.getfield 123, 3, 3, 6), (.invokevirtual 135, 3, 0, 0)]),
  (335, [(.aload_n 0, 1, 0, 0), (.getfield 126, 3, 3, 7), (.iconst (-1), 1, 0, 0), (.if_icmp .ne 20, 3, 360, 0), (.aload_n 0, 1, 0, 0), (.invokevirtual 129, 3, 0, 0), (.bipush 59, 2, 0, 0), (.if_icmp .eq 11, 3, 360, 0), (.aload_n 0, 1, 0, 0), (.aload_n 0, 1, 0, 0), (.getfield 123, 3, 3, 6), (.invokevirtual 135, 3, 0, 0)]),
  (360, [(.aload_n 0, 1, 0, 0), (.dup, 1, 0, 0), (.getfield 123, 3, 3, 6), (.iconst 1, 1, 0, 0), (.iadd, 1, 0, 0), (.putfield 123, 3, 3, 6), (.aload_n 0, 1, 0, 0), (.dup, 1, 0, 0), (.getfield 138, 3, 3, 9), (.iconst 1, 1, 0, 0), (.iadd, 1, 0, 0), (.putfield 138, 3, 3, 9), (.return_, 1, 0, 0)])]
def m_X3_order : MB := (yX3_order, cX3_order, 4, none, T_X3_order)
theorem ok_X3_order : mOk m_X3_order := mOk.of (by decide +kernel)
theorem pl_X3_order : plainFor m_X3_order.1 = true := by decide +kernel
def T_X3_does : List (Nat × List MEn) := [(0, [(.aload_n 0, 1, 0, 0), (.iconst 0, 1, 0, 0), (.putfield 123, 3, 3, 6), (.aload_n 0, 1, 0, 0), (.iconst (-1), 1, 0, 0), (.putfield 126, 3, 3, 7), (.aload_n 0, 1, 0, 0), (.iconst 0, 1, 0, 0), (.putfield 138, 3, 3, 9)]),
  (15, [(.aload_n 0, 1, 0, 0), (.invokevirtual 147, 3, 0, 0), (.aload_n 0, 1, 0, 0), (.getfield 126, 3, 3, 7), (.iconst (-1), 1, 0, 0), (.if_icmp .ne 11, 3, 35, 0), (.aload_n 0, 1, 0, 0), (.invokevirtual 129, 3, 0, 0), (.iconst (-1), 1, 0, 0), (.if_icmp .ne (-17), 3, 15, 0)]),
  (35, [(.aload_n 0, 1, 0, 0), (.getfield 126, 3, 3, 7), (.iconst (-1), 1, 0, 0), (.if_icmp .eq 11, 3, 51, 0), (.bipush (-10), 2, 0, 0), (.aload_n 0, 1, 0, 0), (.getfield 126, 3, 3, 7), (.isub, 1, 0, 0), (.ireturn, 1, 0, 0)]),
  (51, [(.aload_n 0, 1, 0, 0), (.invokevirtual 51, 3, 0, 0), (.iconst 0, 1, 0, 0), (.istore_n 1, 1, 0, 0), (.iconst 0, 1, 0, 0), (.istore_n 2, 1, 0, 0)]),
  (59, [(.iload_n 2, 1, 0, 0), (.iconst 4, 1, 0, 0), (.aload_n 0, 1, 0, 0), (.getfield 138, 3, 3, 9), (.imul, 1, 0, 0), (.if_icmp .ge 168, 3, 234, 0), (.aload_n 0, 1, 0, 0), (.getfield 22, 3, 3, 8), (.iload_n 2, 1, 0, 0), (.iaload, 1, 0, 0), (.istore_n 3, 1, 0, 0), (.aload_n 0, 1, 0, 0), (.getfield 22, 3, 3, 8), (.iload_n 2, 1, 0, 0), (.iconst 1, 1, 0, 0), (.iadd, 1, 0, 0), (.iaload, 1, 0, 0), (.istore 4, 2, 0, 0), (.aload_n 0, 1, 0, 0), (.getfield 22, 3, 3, 8), (.iload_n 2, 1, 0, 0), (.iconst 2, 1, 0, 0), (.iadd, 1, 0, 0), (.iaload, 1, 0, 0), (.istore 5, 2, 0, 0), (.iload_n 3, 1, 0, 0), (.bipush 99, 2, 0, 0), (.if_icmp .ne 35, 3, 134, 0), (.iload_n 1, 1, 0, 0), (.aload_n 0, 1, 0, 0), (.iload 4, 2, 0, 0), (.iload 5, 2, 0, 0), (.aload_n 0, 1, 0, 0), (.getfield 22, 3, 3, 8), (.iload_n 2, 1, 0, 0), (.iconst 3, 1, 0, 0), (.iadd, 1, 0, 0), (.iaload, 1, 0, 0), (.invokevirtual 98, 3, 0, 0), (.bipush (-5), 2, 0, 0), (.if_icmp .ne 7, 3, 128, 0), (.iconst 0, 1, 0, 0), (.goto 4, 3, 129, 0)]),
  (128, [(.iconst 1, 1, 0, 0)]),
  (129, [(.iadd, 1, 0, 0), (.istore_n 1, 1, 0, 0), (.goto 97, 3, 228, 0)]),
  (134, [(.iload_n 3, 1, 0, 0), (.bipush 43, 2, 0, 0), (.if_icmp .ne 13, 3, 150, 0), (.aload_n 0, 1, 0, 0), (.iload 4, 2, 0, 0), (.invokevirtual 104, 3, 0, 0), (.pop, 1, 0, 0), (.goto 81, 3, 228, 0)]),
  (150, [(.iload_n 3, 1, 0, 0), (.bipush 119, 2, 0, 0), (.if_icmp .eq 9, 3, 162, 0), (.iload_n 3, 1, 0, 0), (.bipush 114, 2, 0, 0), (.if_icmp .ne 39, 3, 198, 0)]),
  (162, [(.aload_n 0, 1, 0, 0), (.getfield 7, 3, 3, 0), (.iload_n 3, 1, 0, 0), (.bipush 119, 2, 0, 0), (.if_icmp .ne 7, 3, 176, 0), (.iconst 5, 1, 0, 0), (.goto 5, 3, 178, 0)]),
  (176, [(.bipush 41, 2, 0, 0)]),
  (178, [(.iload 4, 2, 0, 0), (.iload 5, 2, 0, 0), (.invokestatic 58, 3, 0, 0), (.iadd, 1, 0, 0), (.aload_n 0, 1, 0, 0), (.getfield 22, 3, 3, 8), (.iload_n 2, 1, 0, 0), (.iconst 3, 1, 0, 0), (.iadd, 1, 0, 0), (.iaload, 1, 0, 0), (.iastore, 1, 0, 0), (.goto 33, 3, 228, 0)]),
  (198, [(.iload_n 3, 1, 0, 0), (.bipush 112, 2, 0, 0), (.if_icmp .ne 19, 3, 220, 0), (.aload_n 0, 1, 0, 0), (.getfield 7, 3, 3, 0), (.sipush 293, 3, 0, 0), (.iload 4, 2, 0, 0), (.iadd, 1, 0, 0), (.iload 5, 2, 0, 0), (.iastore, 1, 0, 0), (.goto 11, 3, 228, 0)]),
  (220, [(.aload_n 0, 1, 0, 0), (.getfield 7, 3, 3, 0), (.iconst 1, 1, 0, 0), (.iload 4, 2, 0, 0), (.iastore, 1, 0, 0)]),
  (228, [(.iinc 2 4, 3, 0, 0), (.goto (-172), 3, 59, 0)]),
  (234, [(.iload_n 1, 1, 0, 0), (.ireturn, 1, 0, 0)])]
def m_X3_does : MB := (yX3_does, cX3_does, 6, (some .int), T_X3_does)
theorem ok_X3_does : mOk m_X3_does := mOk.of (by decide +kernel)
theorem pl_X3_does : plainFor m_X3_does.1 = true := by decide +kernel
def T_X3_undo : List (Nat × List MEn) := [(0, [(.aload_n 0, 1, 0, 0), (.getfield 44, 3, 3, 3), (.ifCond .ne 8, 3, 12, 0), (.aload_n 0, 1, 0, 0), (.invokevirtual 108, 3, 0, 0), (.ireturn, 1, 0, 0)]),
  (12, [(.aload_n 0, 1, 0, 0), (.dup, 1, 0, 0), (.getfield 44, 3, 3, 3), (.iconst 1, 1, 0, 0), (.isub, 1, 0, 0), (.putfield 44, 3, 3, 3), (.iconst 0, 1, 0, 0), (.istore_n 1, 1, 0, 0)]),
  (24, [(.iload_n 1, 1, 0, 0), (.sipush 637, 3, 0, 0), (.if_icmp .ge 30, 3, 58, 0), (.aload_n 0, 1, 0, 0), (.getfield 7, 3, 3, 0), (.iload_n 1, 1, 0, 0), (.aload_n 0, 1, 0, 0), (.getfield 16, 3, 3, 2), (.sipush 637, 3, 0, 0), (.aload_n 0, 1, 0, 0), (.getfield 44, 3, 3, 3), (.imul, 1, 0, 0), (.iload_n 1, 1, 0, 0), (.iadd, 1, 0, 0), (.iaload, 1, 0, 0), (.iastore, 1, 0, 0), (.iinc 1 1, 3, 0, 0), (.goto (-31), 3, 24, 0)]),
  (58, [(.aload_n 0, 1, 0, 0), (.getfield 44, 3, 3, 3), (.ireturn, 1, 0, 0)])]
def m_X3_undo : MB := (yX3_undo, cX3_undo, 2, (some .int), T_X3_undo)
theorem ok_X3_undo : mOk m_X3_undo := mOk.of (by decide +kernel)
theorem pl_X3_undo : plainFor m_X3_undo.1 = true := by decide +kernel
def T_X3_told : List (Nat × List MEn) := [(0, [(.iload_n 1, 1, 0, 0), (.tableswitch 115 0 9 #[55, 60, 65, 70, 75, 82, 89, 96, 103, 110], 55, 0, 0)]),
  (56, [(.aload_n 0, 1, 0, 0), (.getfield 29, 3, 3, 10), (.ireturn, 1, 0, 0)]),
  (61, [(.aload_n 0, 1, 0, 0), (.getfield 33, 3, 3, 11), (.ireturn, 1, 0, 0)]),
  (66, [(.aload_n 0, 1, 0, 0), (.getfield 95, 3, 3, 12), (.ireturn, 1, 0, 0)]),
  (71, [(.aload_n 0, 1, 0, 0), (.getfield 120, 3, 3, 5), (.ireturn, 1, 0, 0)]),
  (76, [(.aload_n 0, 1, 0, 0), (.getfield 7, 3, 3, 0), (.iconst 0, 1, 0, 0), (.iaload, 1, 0, 0), (.ireturn, 1, 0, 0)]),
  (83, [(.aload_n 0, 1, 0, 0), (.getfield 7, 3, 3, 0), (.iconst 1, 1, 0, 0), (.iaload, 1, 0, 0), (.ireturn, 1, 0, 0)]),
  (90, [(.aload_n 0, 1, 0, 0), (.getfield 7, 3, 3, 0), (.iconst 4, 1, 0, 0), (.iaload, 1, 0, 0), (.ireturn, 1, 0, 0)]),
  (97, [(.aload_n 0, 1, 0, 0), (.getfield 7, 3, 3, 0), (.iconst 3, 1, 0, 0), (.iaload, 1, 0, 0), (.ireturn, 1, 0, 0)]),
  (104, [(.aload_n 0, 1, 0, 0), (.getfield 7, 3, 3, 0), (.iconst 2, 1, 0, 0), (.iaload, 1, 0, 0), (.ireturn, 1, 0, 0)]),
  (111, [(.aload_n 0, 1, 0, 0), (.getfield 44, 3, 3, 3), (.ireturn, 1, 0, 0)]),
  (116, [(.aload_n 0, 1, 0, 0), (.invokevirtual 47, 3, 0, 0), (.ireturn, 1, 0, 0)])]
def m_X3_told : MB := (yX3_told, cX3_told, 2, (some .int), T_X3_told)
theorem ok_X3_told : mOk m_X3_told := mOk.of (by decide +kernel)
theorem pl_X3_told : plainFor m_X3_told.1 = true := by decide +kernel
def T_X3_digest : List (Nat × List MEn) := [(0, [(.ldc2_w 150, 3, 2129, 0), (.lstore_n 1, 1, 0, 0), (.iconst 0, 1, 0, 0), (.istore_n 3, 1, 0, 0)]),
  (6, [(.iload_n 3, 1, 0, 0), (.bipush 10, 2, 0, 0), (.if_icmp .ge 22, 3, 31, 0), (.ldc2_w 152, 3, 31, 0), (.lload_n 1, 1, 0, 0), (.lmul, 1, 0, 0), (.aload_n 0, 1, 0, 0), (.iload_n 3, 1, 0, 0), (.invokevirtual 154, 3, 0, 0), (.i2l, 1, 0, 0), (.ladd, 1, 0, 0), (.lstore_n 1, 1, 0, 0), (.iinc 3 1, 3, 0, 0), (.goto (-22), 3, 6, 0)]),
  (31, [(.iconst 0, 1, 0, 0), (.istore_n 3, 1, 0, 0)]),
  (33, [(.iload_n 3, 1, 0, 0), (.aload_n 0, 1, 0, 0), (.getfield 7, 3, 3, 0), (.iconst 0, 1, 0, 0), (.iaload, 1, 0, 0), (.if_icmp .ge 91, 3, 131, 0), (.iload_n 3, 1, 0, 0), (.iconst 1, 1, 0, 0), (.iadd, 1, 0, 0), (.istore 4, 2, 0, 0)]),
  (48, [(.iload 4, 2, 0, 0), (.aload_n 0, 1, 0, 0), (.getfield 7, 3, 3, 0), (.iconst 0, 1, 0, 0), (.iaload, 1, 0, 0), (.if_icmp .ge 69, 3, 125, 0), (.ldc2_w 152, 3, 31, 0), (.lload_n 1, 1, 0, 0), (.lmul, 1, 0, 0), (.aload_n 0, 1, 0, 0), (.getfield 7, 3, 3, 0), (.iconst 5, 1, 0, 0), (.bipush 6, 2, 0, 0), (.iload_n 3, 1, 0, 0), (.imul, 1, 0, 0), (.iadd, 1, 0, 0), (.iload 4, 2, 0, 0), (.iadd, 1, 0, 0), (.iaload, 1, 0, 0), (.i2l, 1, 0, 0), (.ladd, 1, 0, 0), (.lstore_n 1, 1, 0, 0), (.ldc2_w 152, 3, 31, 0), (.lload_n 1, 1, 0, 0), (.lmul, 1, 0, 0), (.aload_n 0, 1, 0, 0), (.getfield 7, 3, 3, 0), (.bipush 41, 2, 0, 0), (.bipush 6, 2, 0, 0), (.iload_n 3, 1, 0, 0), (.imul, 1, 0, 0), (.iadd, 1, 0, 0), (.iload 4, 2, 0, 0), (.iadd, 1, 0, 0), (.iaload, 1, 0, 0), (.i2l, 1, 0, 0), (.ladd, 1, 0, 0), (.lstore_n 1, 1, 0, 0), (.ldc2_w 152, 3, 31, 0), (.lload_n 1, 1, 0, 0), (.lmul, 1, 0, 0), (.aload_n 0, 1, 0, 0), (.iload_n 3, 1, 0, 0), (.iload 4, 2, 0, 0), (.invokevirtual 67, 3, 0, 0), (.i2l, 1, 0, 0), (.ladd, 1, 0, 0), (.lstore_n 1, 1, 0, 0), (.iinc 4 1, 3, 0, 0), (.goto (-74), 3, 48, 0)]),
  (125, [(.iinc 3 1, 3, 0, 0), (.goto (-95), 3, 33, 0)]),
  (131, [(.iconst 0, 1, 0, 0), (.istore_n 3, 1, 0, 0)]),
  (133, [(.iload_n 3, 1, 0, 0), (.aload_n 0, 1, 0, 0), (.getfield 7, 3, 3, 0), (.iconst 0, 1, 0, 0), (.iaload, 1, 0, 0), (.if_icmp .ge 85, 3, 225, 0), (.iconst 0, 1, 0, 0), (.istore 4, 2, 0, 0)]),
  (146, [(.iload 4, 2, 0, 0), (.aload_n 0, 1, 0, 0), (.getfield 7, 3, 3, 0), (.iconst 0, 1, 0, 0), (.iaload, 1, 0, 0), (.if_icmp .ge 65, 3, 219, 0), (.iload_n 3, 1, 0, 0), (.iload 4, 2, 0, 0), (.if_icmp .eq 53, 3, 213, 0), (.ldc2_w 152, 3, 31, 0), (.lload_n 1, 1, 0, 0), (.lmul, 1, 0, 0), (.aload_n 0, 1, 0, 0), (.getfield 7, 3, 3, 0), (.bipush 77, 2, 0, 0), (.bipush 6, 2, 0, 0), (.iload_n 3, 1, 0, 0), (.imul, 1, 0, 0), (.iadd, 1, 0, 0), (.iload 4, 2, 0, 0), (.iadd, 1, 0, 0), (.iaload, 1, 0, 0), (.i2l, 1, 0, 0), (.ladd, 1, 0, 0), (.lstore_n 1, 1, 0, 0), (.ldc2_w 152, 3, 31, 0), (.lload_n 1, 1, 0, 0), (.lmul, 1, 0, 0), (.aload_n 0, 1, 0, 0), (.getfield 7, 3, 3, 0), (.bipush 113, 2, 0, 0), (.iconst 5, 1, 0, 0), (.bipush 6, 2, 0, 0), (.iload_n 3, 1, 0, 0), (.imul, 1, 0, 0), (.iload 4, 2, 0, 0), (.iadd, 1, 0, 0), (.imul, 1, 0, 0), (.iadd, 1, 0, 0), (.iconst 4, 1, 0, 0), (.iadd, 1, 0, 0), (.iaload, 1, 0, 0), (.i2l, 1, 0, 0), (.ladd, 1, 0, 0), (.lstore_n 1, 1, 0, 0)]),
  (213, [(.iinc 4 1, 3, 0, 0), (.goto (-70), 3, 146, 0)]),
  (219, [(.iinc 3 1, 3, 0, 0), (.goto (-89), 3, 133, 0)]),
  (225, [(.iconst 0, 1, 0, 0), (.istore_n 3, 1, 0, 0)]),
  (227, [(.iload_n 3, 1, 0, 0), (.bipush 24, 2, 0, 0), (.if_icmp .ge 27, 3, 257, 0), (.ldc2_w 152, 3, 31, 0), (.lload_n 1, 1, 0, 0), (.lmul, 1, 0, 0), (.aload_n 0, 1, 0, 0), (.getfield 7, 3, 3, 0), (.sipush 293, 3, 0, 0), (.iload_n 3, 1, 0, 0), (.iadd, 1, 0, 0), (.iaload, 1, 0, 0), (.i2l, 1, 0, 0), (.ladd, 1, 0, 0), (.lstore_n 1, 1, 0, 0), (.iinc 3 1, 3, 0, 0), (.goto (-27), 3, 227, 0)]),
  (257, [(.iconst 0, 1, 0, 0), (.istore_n 3, 1, 0, 0)]),
  (259, [(.iload_n 3, 1, 0, 0), (.iconst 4, 1, 0, 0), (.aload_n 0, 1, 0, 0), (.getfield 7, 3, 3, 0), (.iconst 4, 1, 0, 0), (.iaload, 1, 0, 0), (.imul, 1, 0, 0), (.if_icmp .ge 27, 3, 295, 0), (.ldc2_w 152, 3, 31, 0), (.lload_n 1, 1, 0, 0), (.lmul, 1, 0, 0), (.aload_n 0, 1, 0, 0), (.getfield 7, 3, 3, 0), (.sipush 317, 3, 0, 0), (.iload_n 3, 1, 0, 0), (.iadd, 1, 0, 0), (.iaload, 1, 0, 0), (.i2l, 1, 0, 0), (.ladd, 1, 0, 0), (.lstore_n 1, 1, 0, 0), (.iinc 3 1, 3, 0, 0), (.goto (-33), 3, 259, 0)]),
  (295, [(.lload_n 1, 1, 0, 0), (.lreturn, 1, 0, 0)])]
def m_X3_digest : MB := (yX3_digest, cX3_digest, 5, (some .long), T_X3_digest)
theorem ok_X3_digest : mOk m_X3_digest := mOk.of (by decide +kernel)
theorem pl_X3_digest : plainFor m_X3_digest.1 = true := by decide +kernel
def T_J9_floorMod_7cf53 : List (Nat × List MEn) := [(0, [(.iload_n 0, 1, 0, 0), (.iload_n 1, 1, 0, 0), (.irem, 1, 0, 0), (.istore_n 2, 1, 0, 0), (.iload_n 0, 1, 0, 0), (.iload_n 1, 1, 0, 0), (.ixor, 1, 0, 0), (.ifCond .ge 11, 3, 18, 0), (.iload_n 2, 1, 0, 0), (.ifCond .eq 7, 3, 18, 0), (.iload_n 2, 1, 0, 0), (.iload_n 1, 1, 0, 0), (.iadd, 1, 0, 0), (.ireturn, 1, 0, 0)]),
  (18, [(.iload_n 2, 1, 0, 0), (.ireturn, 1, 0, 0)])]
def m_J9_floorMod_7cf53 : MB := (yJ9_floorMod_7cf53, cJ9_floorMod_7cf53, 3, (some .int), T_J9_floorMod_7cf53)
theorem ok_J9_floorMod_7cf53 : mOk m_J9_floorMod_7cf53 := mOk.of (by decide +kernel)
theorem pl_J9_floorMod_7cf53 : plainFor m_J9_floorMod_7cf53.1 = true := by decide +kernel
def T_J9_max_7cf53 : List (Nat × List MEn) := [(0, [(.iload_n 0, 1, 0, 0), (.iload_n 1, 1, 0, 0), (.if_icmp .lt 7, 3, 9, 0), (.iload_n 0, 1, 0, 0), (.goto 4, 3, 10, 0)]),
  (9, [(.iload_n 1, 1, 0, 0)]),
  (10, [(.ireturn, 1, 0, 0)])]
def m_J9_max_7cf53 : MB := (yJ9_max_7cf53, cJ9_max_7cf53, 2, (some .int), T_J9_max_7cf53)
theorem ok_J9_max_7cf53 : mOk m_J9_max_7cf53 := mOk.of (by decide +kernel)
theorem pl_J9_max_7cf53 : plainFor m_J9_max_7cf53.1 = true := by decide +kernel
def T_J9_min_7cf53 : List (Nat × List MEn) := [(0, [(.iload_n 0, 1, 0, 0), (.iload_n 1, 1, 0, 0), (.if_icmp .gt 7, 3, 9, 0), (.iload_n 0, 1, 0, 0), (.goto 4, 3, 10, 0)]),
  (9, [(.iload_n 1, 1, 0, 0)]),
  (10, [(.ireturn, 1, 0, 0)])]
def m_J9_min_7cf53 : MB := (yJ9_min_7cf53, cJ9_min_7cf53, 2, (some .int), T_J9_min_7cf53)
theorem ok_J9_min_7cf53 : mOk m_J9_min_7cf53 := mOk.of (by decide +kernel)
theorem pl_J9_min_7cf53 : plainFor m_J9_min_7cf53.1 = true := by decide +kernel
def T_L_law : List (Nat × List MEn) := [(16, [(.iconst 0, 1, 0, 0), (.istore_n 3, 1, 0, 0)]),
  (18, [(.iload_n 3, 1, 0, 0), (.aload_n 0, 1, 0, 0), (.arraylength, 1, 0, 0), (.iconst 5, 1, 0, 0), (.isub, 1, 0, 0), (.if_icmp .gt 807, 3, 830, 0), (.aload_n 0, 1, 0, 0), (.iload_n 3, 1, 0, 0), (.iaload, 1, 0, 0), (.bipush 31, 2, 0, 0), (.iand, 1, 0, 0), (.tableswitch 792 0 24 #[116, 139, 192, 225, 248, 281, 304, 347, 380, 423, 446, 479, 502, 525, 568, 591, 604, 637, 670, 693, 716, 729, 742, 755, 778], 116, 0, 0)]),
  (148, [(.aload_n 1, 1, 0, 0), (.aload_n 0, 1, 0, 0), (.iload_n 3, 1, 0, 0), (.iconst 1, 1, 0, 0), (.iadd, 1, 0, 0), (.iaload, 1, 0, 0), (.invokevirtual 13, 3, 0, 0), (.aload_n 2, 1, 0, 0), (.aload_n 0, 1, 0, 0), (.iload_n 3, 1, 0, 0), (.iconst 1, 1, 0, 0), (.iadd, 1, 0, 0), (.iaload, 1, 0, 0), (.invokevirtual 17, 3, 0, 0), (.if_icmp .eq 658, 3, 824, 0), (.iconst 0, 1, 0, 0), (.ireturn, 1, 0, 0)]),
  (171, [(.aload_n 1, 1, 0, 0), (.aload_n 0, 1, 0, 0), (.iload_n 3, 1, 0, 0), (.iconst 1, 1, 0, 0), (.iadd, 1, 0, 0), (.iaload, 1, 0, 0), (.aload_n 0, 1, 0, 0), (.iload_n 3, 1, 0, 0), (.iconst 2, 1, 0, 0), (.iadd, 1, 0, 0), (.iaload, 1, 0, 0), (.aload_n 0, 1, 0, 0), (.iload_n 3, 1, 0, 0), (.iconst 3, 1, 0, 0), (.iadd, 1, 0, 0), (.iaload, 1, 0, 0), (.aload_n 0, 1, 0, 0), (.iload_n 3, 1, 0, 0), (.iconst 4, 1, 0, 0), (.iadd, 1, 0, 0), (.iaload, 1, 0, 0), (.invokevirtual 18, 3, 0, 0), (.aload_n 2, 1, 0, 0), (.aload_n 0, 1, 0, 0), (.iload_n 3, 1, 0, 0), (.iconst 1, 1, 0, 0), (.iadd, 1, 0, 0), (.iaload, 1, 0, 0), (.aload_n 0, 1, 0, 0), (.iload_n 3, 1, 0, 0), (.iconst 2, 1, 0, 0), (.iadd, 1, 0, 0), (.iaload, 1, 0, 0), (.aload_n 0, 1, 0, 0), (.iload_n 3, 1, 0, 0), (.iconst 3, 1, 0, 0), (.iadd, 1, 0, 0), (.iaload, 1, 0, 0), (.aload_n 0, 1, 0, 0), (.iload_n 3, 1, 0, 0), (.iconst 4, 1, 0, 0), (.iadd, 1, 0, 0), (.iaload, 1, 0, 0), (.invokevirtual 22, 3, 0, 0), (.if_icmp .eq 605, 3, 824, 0), (.iconst 0, 1, 0, 0), (.ireturn, 1, 0, 0)]),
  (224, [(.aload_n 1, 1, 0, 0), (.aload_n 0, 1, 0, 0), (.iload_n 3, 1, 0, 0), (.iconst 1, 1, 0, 0), (.iadd, 1, 0, 0), (.iaload, 1, 0, 0), (.aload_n 0, 1, 0, 0), (.iload_n 3, 1, 0, 0), (.iconst 2, 1, 0, 0), (.iadd, 1, 0, 0), (.iaload, 1, 0, 0), (.invokevirtual 23, 3, 0, 0), (.aload_n 2, 1, 0, 0), (.aload_n 0, 1, 0, 0), (.iload_n 3, 1, 0, 0), (.iconst 1, 1, 0, 0), (.iadd, 1, 0, 0), (.iaload, 1, 0, 0), (.aload_n 0, 1, 0, 0), (.iload_n 3, 1, 0, 0), (.iconst 2, 1, 0, 0), (.iadd, 1, 0, 0), (.iaload, 1, 0, 0), (.invokevirtual 27, 3, 0, 0), (.if_icmp .eq 572, 3, 824, 0), (.iconst 0, 1, 0, 0), (.ireturn, 1, 0, 0)]),
  (257, [(.aload_n 1, 1, 0, 0), (.aload_n 0, 1, 0, 0), (.iload_n 3, 1, 0, 0), (.iconst 1, 1, 0, 0), (.iadd, 1, 0, 0), (.iaload, 1, 0, 0), (.invokevirtual 28, 3, 0, 0), (.aload_n 2, 1, 0, 0), (.aload_n 0, 1, 0, 0), (.iload_n 3, 1, 0, 0), (.iconst 1, 1, 0, 0), (.iadd, 1, 0, 0), (.iaload, 1, 0, 0), (.invokevirtual 31, 3, 0, 0), (.if_icmp .eq 549, 3, 824, 0), (.iconst 0, 1, 0, 0), (.ireturn, 1, 0, 0)]),
  (280, [(.aload_n 1, 1, 0, 0), (.aload_n 0, 1, 0, 0), (.iload_n 3, 1, 0, 0), (.iconst 1, 1, 0, 0), (.iadd, 1, 0, 0), (.iaload, 1, 0, 0), (.aload_n 0, 1, 0, 0), (.iload_n 3, 1, 0, 0), (.iconst 2, 1, 0, 0), (.iadd, 1, 0, 0), (.iaload, 1, 0, 0), (.invokevirtual 32, 3, 0, 0), (.aload_n 2, 1, 0, 0), (.aload_n 0, 1, 0, 0), (.iload_n 3, 1, 0, 0), (.iconst 1, 1, 0, 0), (.iadd, 1, 0, 0), (.iaload, 1, 0, 0), (.aload_n 0, 1, 0, 0), (.iload_n 3, 1, 0, 0), (.iconst 2, 1, 0, 0), (.iadd, 1, 0, 0), (.iaload, 1, 0, 0), (.invokevirtual 35, 3, 0, 0), (.if_icmp .eq 516, 3, 824, 0), (.iconst 0, 1, 0, 0), (.ireturn, 1, 0, 0)]),
  (313, [(.aload_n 1, 1, 0, 0), (.aload_n 0, 1, 0, 0), (.iload_n 3, 1, 0, 0), (.iconst 1, 1, 0, 0), (.iadd, 1, 0, 0), (.iaload, 1, 0, 0), (.invokevirtual 36, 3, 0, 0), (.aload_n 2, 1, 0, 0), (.aload_n 0, 1, 0, 0), (.iload_n 3, 1, 0, 0), (.iconst 1, 1, 0, 0), (.iadd, 1, 0, 0), (.iaload, 1, 0, 0), (.invokevirtual 39, 3, 0, 0), (.if_icmp .eq 493, 3, 824, 0), (.iconst 0, 1, 0, 0), (.ireturn, 1, 0, 0)]),
  (336, [(.aload_n 1, 1, 0, 0), (.aload_n 0, 1, 0, 0), (.iload_n 3, 1, 0, 0), (.iconst 1, 1, 0, 0), (.iadd, 1, 0, 0), (.iaload, 1, 0, 0), (.aload_n 0, 1, 0, 0), (.iload_n 3, 1, 0, 0), (.iconst 2, 1, 0, 0), (.iadd, 1, 0, 0), (.iaload, 1, 0, 0), (.aload_n 0, 1, 0, 0), (.iload_n 3, 1, 0, 0), (.iconst 3, 1, 0, 0), (.iadd, 1, 0, 0), (.iaload, 1, 0, 0), (.invokevirtual 40, 3, 0, 0), (.aload_n 2, 1, 0, 0), (.aload_n 0, 1, 0, 0), (.iload_n 3, 1, 0, 0), (.iconst 1, 1, 0, 0), (.iadd, 1, 0, 0), (.iaload, 1, 0, 0), (.aload_n 0, 1, 0, 0), (.iload_n 3, 1, 0, 0), (.iconst 2, 1, 0, 0), (.iadd, 1, 0, 0), (.iaload, 1, 0, 0), (.aload_n 0, 1, 0, 0), (.iload_n 3, 1, 0, 0), (.iconst 3, 1, 0, 0), (.iadd, 1, 0, 0), (.iaload, 1, 0, 0), (.invokevirtual 44, 3, 0, 0), (.if_icmp .eq 450, 3, 824, 0), (.iconst 0, 1, 0, 0), (.ireturn, 1, 0, 0)]),
  (379, [(.aload_n 1, 1, 0, 0), (.aload_n 0, 1, 0, 0), (.iload_n 3, 1, 0, 0), (.iconst 1, 1, 0, 0), (.iadd, 1, 0, 0), (.iaload, 1, 0, 0), (.aload_n 0, 1, 0, 0), (.iload_n 3, 1, 0, 0), (.iconst 2, 1, 0, 0), (.iadd, 1, 0, 0), (.iaload, 1, 0, 0), (.invokevirtual 45, 3, 0, 0), (.aload_n 2, 1, 0, 0), (.aload_n 0, 1, 0, 0), (.iload_n 3, 1, 0, 0), (.iconst 1, 1, 0, 0), (.iadd, 1, 0, 0), (.iaload, 1, 0, 0), (.aload_n 0, 1, 0, 0), (.iload_n 3, 1, 0, 0), (.iconst 2, 1, 0, 0), (.iadd, 1, 0, 0), (.iaload, 1, 0, 0), (.invokevirtual 48, 3, 0, 0), (.if_icmp .eq 417, 3, 824, 0), (.iconst 0, 1, 0, 0), (.ireturn, 1, 0, 0)]),
  (412, [(.aload_n 1, 1, 0, 0), (.aload_n 0, 1, 0, 0), (.iload_n 3, 1, 0, 0), (.iconst 1, 1, 0, 0), (.iadd, 1, 0, 0), (.iaload, 1, 0, 0), (.aload_n 0, 1, 0, 0), (.iload_n 3, 1, 0, 0), (.iconst 2, 1, 0, 0), (.iadd, 1, 0, 0), (.iaload, 1, 0, 0), (.aload_n 0, 1, 0, 0), (.iload_n 3, 1, 0, 0), (.iconst 3, 1, 0, 0), (.iadd, 1, 0, 0), (.iaload, 1, 0, 0), (.invokevirtual 49, 3, 0, 0), (.aload_n 2, 1, 0, 0), (.aload_n 0, 1, 0, 0), (.iload_n 3, 1, 0, 0), (.iconst 1, 1, 0, 0), (.iadd, 1, 0, 0), (.iaload, 1, 0, 0), (.aload_n 0, 1, 0, 0), (.iload_n 3, 1, 0, 0), (.iconst 2, 1, 0, 0), (.iadd, 1, 0, 0), (.iaload, 1, 0, 0), (.aload_n 0, 1, 0, 0), (.iload_n 3, 1, 0, 0), (.iconst 3, 1, 0, 0), (.iadd, 1, 0, 0), (.iaload, 1, 0, 0), (.invokevirtual 52, 3, 0, 0), (.if_icmp .eq 374, 3, 824, 0), (.iconst 0, 1, 0, 0), (.ireturn, 1, 0, 0)]),
  (455, [(.aload_n 1, 1, 0, 0), (.aload_n 0, 1, 0, 0), (.iload_n 3, 1, 0, 0), (.iconst 1, 1, 0, 0), (.iadd, 1, 0, 0), (.iaload, 1, 0, 0), (.invokevirtual 53, 3, 0, 0), (.aload_n 2, 1, 0, 0), (.aload_n 0, 1, 0, 0), (.iload_n 3, 1, 0, 0), (.iconst 1, 1, 0, 0), (.iadd, 1, 0, 0), (.iaload, 1, 0, 0), (.invokevirtual 56, 3, 0, 0), (.if_icmp .eq 351, 3, 824, 0), (.iconst 0, 1, 0, 0), (.ireturn, 1, 0, 0)]),
  (478, [(.aload_n 1, 1, 0, 0), (.aload_n 0, 1, 0, 0), (.iload_n 3, 1, 0, 0), (.iconst 1, 1, 0, 0), (.iadd, 1, 0, 0), (.iaload, 1, 0, 0), (.aload_n 0, 1, 0, 0), (.iload_n 3, 1, 0, 0), (.iconst 2, 1, 0, 0), (.iadd, 1, 0, 0), (.iaload, 1, 0, 0), (.invokevirtual 57, 3, 0, 0), (.aload_n 2, 1, 0, 0), (.aload_n 0, 1, 0, 0), (.iload_n 3, 1, 0, 0), (.iconst 1, 1, 0, 0), (.iadd, 1, 0, 0), (.iaload, 1, 0, 0), (.aload_n 0, 1, 0, 0), (.iload_n 3, 1, 0, 0), (.iconst 2, 1, 0, 0), (.iadd, 1, 0, 0), (.iaload, 1, 0, 0), (.invokevirtual 60, 3, 0, 0), (.if_icmp .eq 318, 3, 824, 0), (.iconst 0, 1, 0, 0), (.ireturn, 1, 0, 0)]),
  (511, [(.aload_n 1, 1, 0, 0), (.aload_n 0, 1, 0, 0), (.iload_n 3, 1, 0, 0), (.iconst 1, 1, 0, 0), (.iadd, 1, 0, 0), (.iaload, 1, 0, 0), (.invokevirtual 61, 3, 0, 0), (.aload_n 2, 1, 0, 0), (.aload_n 0, 1, 0, 0), (.iload_n 3, 1, 0, 0), (.iconst 1, 1, 0, 0), (.iadd, 1, 0, 0), (.iaload, 1, 0, 0), (.invokevirtual 64, 3, 0, 0), (.if_icmp .eq 295, 3, 824, 0), (.iconst 0, 1, 0, 0), (.ireturn, 1, 0, 0)]),
  (534, [(.aload_n 1, 1, 0, 0), (.aload_n 0, 1, 0, 0), (.iload_n 3, 1, 0, 0), (.iconst 1, 1, 0, 0), (.iadd, 1, 0, 0), (.iaload, 1, 0, 0), (.invokevirtual 65, 3, 0, 0), (.aload_n 2, 1, 0, 0), (.aload_n 0, 1, 0, 0), (.iload_n 3, 1, 0, 0), (.iconst 1, 1, 0, 0), (.iadd, 1, 0, 0), (.iaload, 1, 0, 0), (.invokevirtual 68, 3, 0, 0), (.if_icmp .eq 272, 3, 824, 0), (.iconst 0, 1, 0, 0), (.ireturn, 1, 0, 0)]),
  (557, [(.aload_n 1, 1, 0, 0), (.aload_n 0, 1, 0, 0), (.iload_n 3, 1, 0, 0), (.iconst 1, 1, 0, 0), (.iadd, 1, 0, 0), (.iaload, 1, 0, 0), (.aload_n 0, 1, 0, 0), (.iload_n 3, 1, 0, 0), (.iconst 2, 1, 0, 0), (.iadd, 1, 0, 0), (.iaload, 1, 0, 0), (.aload_n 0, 1, 0, 0), (.iload_n 3, 1, 0, 0), (.iconst 3, 1, 0, 0), (.iadd, 1, 0, 0), (.iaload, 1, 0, 0), (.invokevirtual 69, 3, 0, 0), (.aload_n 2, 1, 0, 0), (.aload_n 0, 1, 0, 0), (.iload_n 3, 1, 0, 0), (.iconst 1, 1, 0, 0), (.iadd, 1, 0, 0), (.iaload, 1, 0, 0), (.aload_n 0, 1, 0, 0), (.iload_n 3, 1, 0, 0), (.iconst 2, 1, 0, 0), (.iadd, 1, 0, 0), (.iaload, 1, 0, 0), (.aload_n 0, 1, 0, 0), (.iload_n 3, 1, 0, 0), (.iconst 3, 1, 0, 0), (.iadd, 1, 0, 0), (.iaload, 1, 0, 0), (.invokevirtual 72, 3, 0, 0), (.if_icmp .eq 229, 3, 824, 0), (.iconst 0, 1, 0, 0), (.ireturn, 1, 0, 0)]),
  (600, [(.aload_n 1, 1, 0, 0), (.aload_n 0, 1, 0, 0), (.iload_n 3, 1, 0, 0), (.iconst 1, 1, 0, 0), (.iadd, 1, 0, 0), (.iaload, 1, 0, 0), (.invokevirtual 73, 3, 0, 0), (.aload_n 2, 1, 0, 0), (.aload_n 0, 1, 0, 0), (.iload_n 3, 1, 0, 0), (.iconst 1, 1, 0, 0), (.iadd, 1, 0, 0), (.iaload, 1, 0, 0), (.invokevirtual 76, 3, 0, 0), (.if_icmp .eq 206, 3, 824, 0), (.iconst 0, 1, 0, 0), (.ireturn, 1, 0, 0)]),
  (623, [(.aload_n 1, 1, 0, 0), (.invokevirtual 77, 3, 0, 0), (.aload_n 2, 1, 0, 0), (.invokevirtual 81, 3, 0, 0), (.if_icmp .eq 193, 3, 824, 0), (.iconst 0, 1, 0, 0), (.ireturn, 1, 0, 0)]),
  (636, [(.aload_n 1, 1, 0, 0), (.aload_n 0, 1, 0, 0), (.iload_n 3, 1, 0, 0), (.iconst 1, 1, 0, 0), (.iadd, 1, 0, 0), (.iaload, 1, 0, 0), (.aload_n 0, 1, 0, 0), (.iload_n 3, 1, 0, 0), (.iconst 2, 1, 0, 0), (.iadd, 1, 0, 0), (.iaload, 1, 0, 0), (.invokevirtual 82, 3, 0, 0), (.aload_n 2, 1, 0, 0), (.aload_n 0, 1, 0, 0), (.iload_n 3, 1, 0, 0), (.iconst 1, 1, 0, 0), (.iadd, 1, 0, 0), (.iaload, 1, 0, 0), (.aload_n 0, 1, 0, 0), (.iload_n 3, 1, 0, 0), (.iconst 2, 1, 0, 0), (.iadd, 1, 0, 0), (.iaload, 1, 0, 0), (.invokevirtual 85, 3, 0, 0), (.if_icmp .eq 160, 3, 824, 0), (.iconst 0, 1, 0, 0), (.ireturn, 1, 0, 0)]),
  (669, [(.aload_n 1, 1, 0, 0), (.aload_n 0, 1, 0, 0), (.iload_n 3, 1, 0, 0), (.iconst 1, 1, 0, 0), (.iadd, 1, 0, 0), (.iaload, 1, 0, 0), (.aload_n 0, 1, 0, 0), (.iload_n 3, 1, 0, 0), (.iconst 2, 1, 0, 0), (.iadd, 1, 0, 0), (.iaload, 1, 0, 0), (.invokevirtual 86, 3, 0, 0), (.aload_n 2, 1, 0, 0), (.aload_n 0, 1, 0, 0), (.iload_n 3, 1, 0, 0), (.iconst 1, 1, 0, 0), (.iadd, 1, 0, 0), (.iaload, 1, 0, 0), (.aload_n 0, 1, 0, 0), (.iload_n 3, 1, 0, 0), (.iconst 2, 1, 0, 0), (.iadd, 1, 0, 0), (.iaload, 1, 0, 0), (.invokevirtual 89, 3, 0, 0), (.if_icmp .eq 127, 3, 824, 0), (.iconst 0, 1, 0, 0), (.ireturn, 1, 0, 0)]),
  (702, [(.aload_n 1, 1, 0, 0), (.aload_n 0, 1, 0, 0), (.iload_n 3, 1, 0, 0), (.iconst 1, 1, 0, 0), (.iadd, 1, 0, 0), (.iaload, 1, 0, 0), (.invokevirtual 90, 3, 0, 0), (.aload_n 2, 1, 0, 0), (.aload_n 0, 1, 0, 0), (.iload_n 3, 1, 0, 0), (.iconst 1, 1, 0, 0), (.iadd, 1, 0, 0), (.iaload, 1, 0, 0), (.invokevirtual 93, 3, 0, 0), (.if_icmp .eq 104, 3, 824, 0), (.iconst 0, 1, 0, 0), (.ireturn, 1, 0, 0)]),
  (725, [(.aload_n 1, 1, 0, 0), (.aload_n 0, 1, 0, 0), (.iload_n 3, 1, 0, 0), (.iconst 1, 1, 0, 0), (.iadd, 1, 0, 0), (.iaload, 1, 0, 0), (.invokevirtual 94, 3, 0, 0), (.aload_n 2, 1, 0, 0), (.aload_n 0, 1, 0, 0), (.iload_n 3, 1, 0, 0), (.iconst 1, 1, 0, 0), (.iadd, 1, 0, 0), (.iaload, 1, 0, 0), (.invokevirtual 97, 3, 0, 0), (.if_icmp .eq 81, 3, 824, 0), (.iconst 0, 1, 0, 0), (.ireturn, 1, 0, 0)]),
  (748, [(.aload_n 1, 1, 0, 0), (.invokevirtual 98, 3, 0, 0), (.aload_n 2, 1, 0, 0), (.invokevirtual 101, 3, 0, 0), (.if_icmp .eq 68, 3, 824, 0), (.iconst 0, 1, 0, 0), (.ireturn, 1, 0, 0)]),
  (761, [(.aload_n 1, 1, 0, 0), (.invokevirtual 102, 3, 0, 0), (.aload_n 2, 1, 0, 0), (.invokevirtual 105, 3, 0, 0), (.if_icmp .eq 55, 3, 824, 0), (.iconst 0, 1, 0, 0), (.ireturn, 1, 0, 0)]),
  (774, [(.aload_n 1, 1, 0, 0), (.invokevirtual 106, 3, 0, 0), (.aload_n 2, 1, 0, 0), (.invokevirtual 109, 3, 0, 0), (.if_icmp .eq 42, 3, 824, 0), (.iconst 0, 1, 0, 0), (.ireturn, 1, 0, 0)]),
  (787, [(.aload_n 1, 1, 0, 0), (.aload_n 0, 1, 0, 0), (.iload_n 3, 1, 0, 0), (.iconst 1, 1, 0, 0), (.iadd, 1, 0, 0), (.iaload, 1, 0, 0), (.invokevirtual 110, 3, 0, 0), (.aload_n 2, 1, 0, 0), (.aload_n 0, 1, 0, 0), (.iload_n 3, 1, 0, 0), (.iconst 1, 1, 0, 0), (.iadd, 1, 0, 0), (.iaload, 1, 0, 0), (.invokevirtual 113, 3, 0, 0), (.if_icmp .eq 19, 3, 824, 0), (.iconst 0, 1, 0, 0), (.ireturn, 1, 0, 0)]),
  (810, [(.aload_n 1, 1, 0, 0), (.invokevirtual 114, 3, 0, 0), (.aload_n 2, 1, 0, 0), (.invokevirtual 118, 3, 0, 0), (.lcmp, 1, 0, 0), (.ifCond .eq 5, 3, 824, 0), (.iconst 0, 1, 0, 0), (.ireturn, 1, 0, 0)]),
  (824, [(.iinc 3 5, 3, 0, 0), (.goto (-809), 3, 18, 0)]),
  (830, [(.iconst 1, 1, 0, 0), (.ireturn, 1, 0, 0)])]
def m_L_law : MB := (x, code, 4, (some .boolean), T_L_law)
theorem ok_L_law : mOk m_L_law := mOk.of (by decide +kernel)
theorem pl_L_law : plainFor m_L_law.1 = true := by decide +kernel
theorem lk_X2_30 : mLkS RX2 30 3 m_X2_within := mLkS.of 195 196 45 197 (by decide +kernel) (by decide +kernel) (by decide +kernel) (by decide +kernel) (by decide +kernel) rfl
theorem lk_X2_34 : mLkV RX2 34 1 m_X2_refuse := mLkV.of 198 200 0 45 201 (by decide +kernel) (by decide +kernel) (by decide +kernel) (by decide +kernel) (by decide +kernel) (by decide +kernel) rfl
theorem lk_X2_38 : mLkV RX2 38 0 m_X2_keepState := mLkV.of 202 204 1 45 205 (by decide +kernel) (by decide +kernel) (by decide +kernel) (by decide +kernel) (by decide +kernel) (by decide +kernel) rfl
theorem lk_X2_45 : mLkV RX2 45 1 m_X0_begin := mLkV.of 213 66 67 46 68 (by decide +kernel) (by decide +kernel) (by decide +kernel) (by decide +kernel) (by decide +kernel) (by decide +kernel) rfl
theorem lk_X2_49 : mLkV RX2 49 2 m_X2_isPair := mLkV.of 218 220 2 45 221 (by decide +kernel) (by decide +kernel) (by decide +kernel) (by decide +kernel) (by decide +kernel) (by decide +kernel) rfl
theorem lk_X2_60 : mLkS RX2 60 2 m_X0_linkCell := mLkS.of 222 223 46 224 (by decide +kernel) (by decide +kernel) (by decide +kernel) (by decide +kernel) (by decide +kernel) rfl
theorem lk_X2_64 : mLkS RX2 64 2 m_X0_fill := mLkS.of 229 70 46 71 (by decide +kernel) (by decide +kernel) (by decide +kernel) (by decide +kernel) (by decide +kernel) rfl
theorem lk_X2_78 : mLkV RX2 78 1 m_X0_freeWires := mLkV.of 247 248 249 46 250 (by decide +kernel) (by decide +kernel) (by decide +kernel) (by decide +kernel) (by decide +kernel) (by decide +kernel) rfl
theorem lk_X2_81 : mLkV RX2 81 1 m_X0_callsOverLink := mLkV.of 251 252 253 46 254 (by decide +kernel) (by decide +kernel) (by decide +kernel) (by decide +kernel) (by decide +kernel) (by decide +kernel) rfl
theorem lk_X2_87 : mLkS RX2 87 2 m_X0_pairCell := mLkS.of 260 73 46 74 (by decide +kernel) (by decide +kernel) (by decide +kernel) (by decide +kernel) (by decide +kernel) rfl
theorem lk_X2_93 : mLkV RX2 93 3 m_X0_ask := mLkV.of 265 266 267 46 268 (by decide +kernel) (by decide +kernel) (by decide +kernel) (by decide +kernel) (by decide +kernel) (by decide +kernel) rfl
theorem lk_X2_97 : mLkV RX2 97 1 m_X0_passHours := mLkV.of 312 313 314 46 315 (by decide +kernel) (by decide +kernel) (by decide +kernel) (by decide +kernel) (by decide +kernel) (by decide +kernel) rfl
theorem lk_X2_103 : mLkV RX2 103 1 m_X0_endCall := mLkV.of 340 341 342 46 343 (by decide +kernel) (by decide +kernel) (by decide +kernel) (by decide +kernel) (by decide +kernel) (by decide +kernel) rfl
theorem lk_X2_112 : mLkV RX2 112 0 m_X0_mostRefusedPair := mLkV.of 356 357 358 46 359 (by decide +kernel) (by decide +kernel) (by decide +kernel) (by decide +kernel) (by decide +kernel) (by decide +kernel) rfl
theorem lk_X2_116 : mLkV RX2 116 0 m_X0_scarcestLink := mLkV.of 364 365 366 46 367 (by decide +kernel) (by decide +kernel) (by decide +kernel) (by decide +kernel) (by decide +kernel) (by decide +kernel) rfl
theorem lk_X2_119 : mLkV RX2 119 1 m_X0_refusedAt := mLkV.of 368 361 362 46 363 (by decide +kernel) (by decide +kernel) (by decide +kernel) (by decide +kernel) (by decide +kernel) (by decide +kernel) rfl
theorem lk_X2_122 : mLkV RX2 122 0 m_X0_wiresHeld := mLkV.of 373 374 375 46 376 (by decide +kernel) (by decide +kernel) (by decide +kernel) (by decide +kernel) (by decide +kernel) (by decide +kernel) rfl
theorem lk_X2_126 : mLkV RX2 126 3 m_X2_refusedWith := mLkV.of 382 384 12 45 385 (by decide +kernel) (by decide +kernel) (by decide +kernel) (by decide +kernel) (by decide +kernel) (by decide +kernel) rfl
theorem lk_X2_129 : mLkV RX2 129 2 m_X0_wayNow := mLkV.of 394 274 275 46 276 (by decide +kernel) (by decide +kernel) (by decide +kernel) (by decide +kernel) (by decide +kernel) (by decide +kernel) rfl
theorem lk_X2_132 : mLkV RX2 132 2 m_X0_hasAnyWay := mLkV.of 395 396 397 46 398 (by decide +kernel) (by decide +kernel) (by decide +kernel) (by decide +kernel) (by decide +kernel) (by decide +kernel) rfl
theorem lk_X2_135 : mLkV RX2 135 1 m_X1_append := mLkV.of 403 404 405 47 406 (by decide +kernel) (by decide +kernel) (by decide +kernel) (by decide +kernel) (by decide +kernel) (by decide +kernel) rfl
theorem lk_X2_142 : mLkV RX2 142 1 m_X1_read := mLkV.of 415 416 417 47 418 (by decide +kernel) (by decide +kernel) (by decide +kernel) (by decide +kernel) (by decide +kernel) (by decide +kernel) rfl
theorem lk_X2_151 : mLkV RX2 151 2 m_X0_doOrder := mLkV.of 450 451 452 46 453 (by decide +kernel) (by decide +kernel) (by decide +kernel) (by decide +kernel) (by decide +kernel) (by decide +kernel) rfl
theorem lk_X2_161 : mLkV RX2 161 1 m_X0_copyFrom := mLkV.of 206 207 208 46 209 (by decide +kernel) (by decide +kernel) (by decide +kernel) (by decide +kernel) (by decide +kernel) (by decide +kernel) rfl
theorem lk_X2_181 : mLkV RX2 181 1 m_X2_told := mLkV.of 469 460 461 45 462 (by decide +kernel) (by decide +kernel) (by decide +kernel) (by decide +kernel) (by decide +kernel) (by decide +kernel) rfl
theorem lk_X2_184 : mLkV RX2 184 1 m_X0_mixLinks := mLkV.of 470 471 472 46 473 (by decide +kernel) (by decide +kernel) (by decide +kernel) (by decide +kernel) (by decide +kernel) (by decide +kernel) rfl
theorem lk_X2_188 : mLkV RX2 188 1 m_X0_mixPairs := mLkV.of 475 476 477 46 478 (by decide +kernel) (by decide +kernel) (by decide +kernel) (by decide +kernel) (by decide +kernel) (by decide +kernel) rfl
theorem lk_X2_191 : mLkV RX2 191 1 m_X0_mixLoadsAndCalls := mLkV.of 479 480 481 46 482 (by decide +kernel) (by decide +kernel) (by decide +kernel) (by decide +kernel) (by decide +kernel) (by decide +kernel) rfl
theorem lk_X0_56 : mLkS RX0 56 2 m_X0_fill := mLkS.of 69 70 46 71 (by decide +kernel) (by decide +kernel) (by decide +kernel) (by decide +kernel) (by decide +kernel) rfl
theorem lk_X0_60 : mLkS RX0 60 2 m_X0_pairCell := mLkS.of 72 73 46 74 (by decide +kernel) (by decide +kernel) (by decide +kernel) (by decide +kernel) (by decide +kernel) rfl
theorem lk_X0_64 : mLkS RX0 64 2 m_X0_leastOther := mLkS.of 75 76 46 77 (by decide +kernel) (by decide +kernel) (by decide +kernel) (by decide +kernel) (by decide +kernel) rfl
theorem lk_X0_67 : mLkC RX0 67 := ⟨m_at (i := 210) (by decide +kernel) rfl, m_at (i := 212) (by decide +kernel) rfl, m_at (i := 211) (by decide +kernel) rfl, m_at (i := 49) (by decide +kernel) rfl⟩
theorem lk_X0_73 : mLkS RX0 73 2 m_X0_linkCell := mLkS.of 255 223 46 224 (by decide +kernel) (by decide +kernel) (by decide +kernel) (by decide +kernel) (by decide +kernel) rfl
theorem lk_X0_76 : mLkV RX0 76 1 m_X0_freeWires := mLkV.of 277 248 249 46 250 (by decide +kernel) (by decide +kernel) (by decide +kernel) (by decide +kernel) (by decide +kernel) (by decide +kernel) rfl
theorem lk_X0_80 : mLkV RX0 80 1 m_X0_servesOver := mLkV.of 278 280 4 46 281 (by decide +kernel) (by decide +kernel) (by decide +kernel) (by decide +kernel) (by decide +kernel) (by decide +kernel) rfl
theorem lk_X0_84 : mLkV RX0 84 2 m_X0_count := mLkV.of 269 271 3 46 272 (by decide +kernel) (by decide +kernel) (by decide +kernel) (by decide +kernel) (by decide +kernel) (by decide +kernel) rfl
theorem lk_X0_88 : mLkV RX0 88 2 m_X0_wayNow := mLkV.of 273 274 275 46 276 (by decide +kernel) (by decide +kernel) (by decide +kernel) (by decide +kernel) (by decide +kernel) (by decide +kernel) rfl
theorem lk_X0_91 : mLkV RX0 91 2 m_X0_redraw := mLkV.of 282 284 5 46 285 (by decide +kernel) (by decide +kernel) (by decide +kernel) (by decide +kernel) (by decide +kernel) (by decide +kernel) rfl
theorem lk_X0_94 : mLkV RX0 94 4 m_X0_addCall := mLkV.of 300 302 7 46 303 (by decide +kernel) (by decide +kernel) (by decide +kernel) (by decide +kernel) (by decide +kernel) (by decide +kernel) rfl
theorem lk_X0_98 : mLkV RX0 98 2 m_X0_hold := mLkV.of 304 306 8 46 307 (by decide +kernel) (by decide +kernel) (by decide +kernel) (by decide +kernel) (by decide +kernel) (by decide +kernel) rfl
theorem lk_X0_107 : mLkV RX0 107 0 m_X0_advanceX := mLkV.of 286 288 6 46 289 (by decide +kernel) (by decide +kernel) (by decide +kernel) (by decide +kernel) (by decide +kernel) (by decide +kernel) rfl
theorem lk_X0_111 : mLkS RX0 111 2 m_J9_min_7cf53 := mLkS.of 294 295 50 296 (by decide +kernel) (by decide +kernel) (by decide +kernel) (by decide +kernel) (by decide +kernel) rfl
theorem lk_X0_116 : mLkS RX0 116 2 m_J9_max_7cf53 := mLkS.of 297 298 50 299 (by decide +kernel) (by decide +kernel) (by decide +kernel) (by decide +kernel) (by decide +kernel) rfl
theorem lk_X0_119 : mLkV RX0 119 0 m_X0_endHour := mLkV.of 316 318 9 46 319 (by decide +kernel) (by decide +kernel) (by decide +kernel) (by decide +kernel) (by decide +kernel) (by decide +kernel) rfl
theorem lk_X0_123 : mLkS RX0 123 2 m_J9_floorMod_7cf53 := mLkS.of 324 325 50 326 (by decide +kernel) (by decide +kernel) (by decide +kernel) (by decide +kernel) (by decide +kernel) rfl
theorem lk_X0_126 : mLkV RX0 126 0 m_X0_askByPlan := mLkV.of 327 329 11 46 330 (by decide +kernel) (by decide +kernel) (by decide +kernel) (by decide +kernel) (by decide +kernel) (by decide +kernel) rfl
theorem lk_X0_129 : mLkV RX0 129 2 m_X0_moveCall := mLkV.of 320 322 10 46 323 (by decide +kernel) (by decide +kernel) (by decide +kernel) (by decide +kernel) (by decide +kernel) (by decide +kernel) rfl
theorem lk_X0_132 : mLkV RX0 132 3 m_X0_ask := mLkV.of 331 266 267 46 268 (by decide +kernel) (by decide +kernel) (by decide +kernel) (by decide +kernel) (by decide +kernel) (by decide +kernel) rfl
theorem lk_X0_138 : mLkV RX0 138 1 m_X0_passHours := mLkV.of 454 313 314 46 315 (by decide +kernel) (by decide +kernel) (by decide +kernel) (by decide +kernel) (by decide +kernel) (by decide +kernel) rfl
theorem lk_X0_141 : mLkV RX0 141 1 m_X0_refusedAt := mLkV.of 360 361 362 46 363 (by decide +kernel) (by decide +kernel) (by decide +kernel) (by decide +kernel) (by decide +kernel) (by decide +kernel) rfl
theorem lk_X1_34 : mLkV RX1 34 0 m_X1_skipBlanks := mLkV.of 419 421 13 47 422 (by decide +kernel) (by decide +kernel) (by decide +kernel) (by decide +kernel) (by decide +kernel) (by decide +kernel) rfl
theorem lk_X1_37 : mLkV RX1 37 1 m_X1_readOrder := mLkV.of 423 425 14 47 426 (by decide +kernel) (by decide +kernel) (by decide +kernel) (by decide +kernel) (by decide +kernel) (by decide +kernel) rfl
theorem lk_X1_41 : mLkV RX1 41 0 m_X1_readKind := mLkV.of 427 429 15 47 430 (by decide +kernel) (by decide +kernel) (by decide +kernel) (by decide +kernel) (by decide +kernel) (by decide +kernel) rfl
theorem lk_X1_45 : mLkV RX1 45 1 m_X1_readTown := mLkV.of 434 436 16 47 437 (by decide +kernel) (by decide +kernel) (by decide +kernel) (by decide +kernel) (by decide +kernel) (by decide +kernel) rfl
theorem lk_X1_51 : mLkV RX1 51 2 m_X1_readNumber := mLkV.of 442 444 18 47 445 (by decide +kernel) (by decide +kernel) (by decide +kernel) (by decide +kernel) (by decide +kernel) (by decide +kernel) rfl
theorem lk_X1_55 : mLkV RX1 55 1 m_X1_readFigure := mLkV.of 438 440 17 47 441 (by decide +kernel) (by decide +kernel) (by decide +kernel) (by decide +kernel) (by decide +kernel) (by decide +kernel) rfl
theorem lk_X1_58 : mLkV RX1 58 0 m_X1_readEnd := mLkV.of 446 448 19 47 449 (by decide +kernel) (by decide +kernel) (by decide +kernel) (by decide +kernel) (by decide +kernel) (by decide +kernel) rfl
theorem lk_X1_61 : mLkS RX1 61 1 m_X1_isFigure := mLkS.of 431 432 47 433 (by decide +kernel) (by decide +kernel) (by decide +kernel) (by decide +kernel) (by decide +kernel) rfl
theorem lk_L_13 : mLkV RL 13 1 m_X2_towns := mLkV.of 191 192 193 45 194 (by decide +kernel) (by decide +kernel) (by decide +kernel) (by decide +kernel) (by decide +kernel) (by decide +kernel) rfl
theorem lk_L_17 : mLkV RL 17 1 m_X3_towns := mLkV.of 533 534 535 48 536 (by decide +kernel) (by decide +kernel) (by decide +kernel) (by decide +kernel) (by decide +kernel) (by decide +kernel) rfl
theorem lk_L_18 : mLkV RL 18 4 m_X2_link := mLkV.of 214 215 216 45 217 (by decide +kernel) (by decide +kernel) (by decide +kernel) (by decide +kernel) (by decide +kernel) (by decide +kernel) rfl
theorem lk_L_22 : mLkV RL 22 4 m_X3_link := mLkV.of 548 549 550 48 551 (by decide +kernel) (by decide +kernel) (by decide +kernel) (by decide +kernel) (by decide +kernel) (by decide +kernel) rfl
theorem lk_L_23 : mLkV RL 23 2 m_X2_links := mLkV.of 225 226 227 45 228 (by decide +kernel) (by decide +kernel) (by decide +kernel) (by decide +kernel) (by decide +kernel) (by decide +kernel) rfl
theorem lk_L_27 : mLkV RL 27 2 m_X3_links := mLkV.of 563 564 565 48 566 (by decide +kernel) (by decide +kernel) (by decide +kernel) (by decide +kernel) (by decide +kernel) (by decide +kernel) rfl
theorem lk_L_28 : mLkV RL 28 1 m_X2_back := mLkV.of 230 231 232 45 233 (by decide +kernel) (by decide +kernel) (by decide +kernel) (by decide +kernel) (by decide +kernel) (by decide +kernel) rfl
theorem lk_L_31 : mLkV RL 31 1 m_X3_back := mLkV.of 567 568 569 48 570 (by decide +kernel) (by decide +kernel) (by decide +kernel) (by decide +kernel) (by decide +kernel) (by decide +kernel) rfl
theorem lk_L_32 : mLkV RL 32 2 m_X2_load := mLkV.of 234 235 236 45 237 (by decide +kernel) (by decide +kernel) (by decide +kernel) (by decide +kernel) (by decide +kernel) (by decide +kernel) rfl
theorem lk_L_35 : mLkV RL 35 2 m_X3_load := mLkV.of 571 572 573 48 574 (by decide +kernel) (by decide +kernel) (by decide +kernel) (by decide +kernel) (by decide +kernel) (by decide +kernel) rfl
theorem lk_L_36 : mLkV RL 36 1 m_X2_seed := mLkV.of 238 239 240 45 241 (by decide +kernel) (by decide +kernel) (by decide +kernel) (by decide +kernel) (by decide +kernel) (by decide +kernel) rfl
theorem lk_L_39 : mLkV RL 39 1 m_X3_seed := mLkV.of 575 576 577 48 578 (by decide +kernel) (by decide +kernel) (by decide +kernel) (by decide +kernel) (by decide +kernel) (by decide +kernel) rfl
theorem lk_L_40 : mLkV RL 40 3 m_X2_of := mLkV.of 243 244 245 45 246 (by decide +kernel) (by decide +kernel) (by decide +kernel) (by decide +kernel) (by decide +kernel) (by decide +kernel) rfl
theorem lk_L_44 : mLkV RL 44 3 m_X3_of := mLkV.of 580 581 582 48 583 (by decide +kernel) (by decide +kernel) (by decide +kernel) (by decide +kernel) (by decide +kernel) (by decide +kernel) rfl
theorem lk_L_45 : mLkV RL 45 2 m_X2_sticky := mLkV.of 256 257 258 45 259 (by decide +kernel) (by decide +kernel) (by decide +kernel) (by decide +kernel) (by decide +kernel) (by decide +kernel) rfl
theorem lk_L_48 : mLkV RL 48 2 m_X3_sticky := mLkV.of 592 593 594 48 595 (by decide +kernel) (by decide +kernel) (by decide +kernel) (by decide +kernel) (by decide +kernel) (by decide +kernel) rfl
theorem lk_L_49 : mLkV RL 49 3 m_X2_call := mLkV.of 261 262 263 45 264 (by decide +kernel) (by decide +kernel) (by decide +kernel) (by decide +kernel) (by decide +kernel) (by decide +kernel) rfl
theorem lk_L_52 : mLkV RL 52 3 m_X3_call := mLkV.of 596 597 598 48 599 (by decide +kernel) (by decide +kernel) (by decide +kernel) (by decide +kernel) (by decide +kernel) (by decide +kernel) rfl
theorem lk_L_53 : mLkV RL 53 1 m_X2_hours := mLkV.of 308 309 310 45 311 (by decide +kernel) (by decide +kernel) (by decide +kernel) (by decide +kernel) (by decide +kernel) (by decide +kernel) rfl
theorem lk_L_56 : mLkV RL 56 1 m_X3_hours := mLkV.of 628 629 630 48 631 (by decide +kernel) (by decide +kernel) (by decide +kernel) (by decide +kernel) (by decide +kernel) (by decide +kernel) rfl
theorem lk_L_57 : mLkV RL 57 2 m_X2_going := mLkV.of 332 333 334 45 335 (by decide +kernel) (by decide +kernel) (by decide +kernel) (by decide +kernel) (by decide +kernel) (by decide +kernel) rfl
theorem lk_L_60 : mLkV RL 60 2 m_X3_going := mLkV.of 640 641 642 48 643 (by decide +kernel) (by decide +kernel) (by decide +kernel) (by decide +kernel) (by decide +kernel) (by decide +kernel) rfl
theorem lk_L_61 : mLkV RL 61 1 m_X2_ends := mLkV.of 336 337 338 45 339 (by decide +kernel) (by decide +kernel) (by decide +kernel) (by decide +kernel) (by decide +kernel) (by decide +kernel) rfl
theorem lk_L_64 : mLkV RL 64 1 m_X3_ends := mLkV.of 644 645 646 48 647 (by decide +kernel) (by decide +kernel) (by decide +kernel) (by decide +kernel) (by decide +kernel) (by decide +kernel) rfl
theorem lk_L_65 : mLkV RL 65 1 m_X2_all := mLkV.of 344 345 346 45 347 (by decide +kernel) (by decide +kernel) (by decide +kernel) (by decide +kernel) (by decide +kernel) (by decide +kernel) rfl
theorem lk_L_68 : mLkV RL 68 1 m_X3_all := mLkV.of 652 653 654 48 655 (by decide +kernel) (by decide +kernel) (by decide +kernel) (by decide +kernel) (by decide +kernel) (by decide +kernel) rfl
theorem lk_L_69 : mLkV RL 69 3 m_X2_pair := mLkV.of 348 349 350 45 351 (by decide +kernel) (by decide +kernel) (by decide +kernel) (by decide +kernel) (by decide +kernel) (by decide +kernel) rfl
theorem lk_L_72 : mLkV RL 72 3 m_X3_pair := mLkV.of 660 661 662 48 663 (by decide +kernel) (by decide +kernel) (by decide +kernel) (by decide +kernel) (by decide +kernel) (by decide +kernel) rfl
theorem lk_L_73 : mLkV RL 73 1 m_X2_worst := mLkV.of 352 353 354 45 355 (by decide +kernel) (by decide +kernel) (by decide +kernel) (by decide +kernel) (by decide +kernel) (by decide +kernel) rfl
theorem lk_L_76 : mLkV RL 76 1 m_X3_worst := mLkV.of 664 665 666 48 667 (by decide +kernel) (by decide +kernel) (by decide +kernel) (by decide +kernel) (by decide +kernel) (by decide +kernel) rfl
theorem lk_L_77 : mLkV RL 77 0 m_X2_burden := mLkV.of 369 370 371 45 372 (by decide +kernel) (by decide +kernel) (by decide +kernel) (by decide +kernel) (by decide +kernel) (by decide +kernel) rfl
theorem lk_L_81 : mLkV RL 81 0 m_X3_burden := mLkV.of 668 669 670 48 671 (by decide +kernel) (by decide +kernel) (by decide +kernel) (by decide +kernel) (by decide +kernel) (by decide +kernel) rfl
theorem lk_L_82 : mLkV RL 82 2 m_X2_would := mLkV.of 377 378 379 45 380 (by decide +kernel) (by decide +kernel) (by decide +kernel) (by decide +kernel) (by decide +kernel) (by decide +kernel) rfl
theorem lk_L_85 : mLkV RL 85 2 m_X3_would := mLkV.of 672 673 674 48 675 (by decide +kernel) (by decide +kernel) (by decide +kernel) (by decide +kernel) (by decide +kernel) (by decide +kernel) rfl
theorem lk_L_86 : mLkV RL 86 2 m_X2_best := mLkV.of 386 387 388 45 389 (by decide +kernel) (by decide +kernel) (by decide +kernel) (by decide +kernel) (by decide +kernel) (by decide +kernel) rfl
theorem lk_L_89 : mLkV RL 89 2 m_X3_best := mLkV.of 680 681 682 48 683 (by decide +kernel) (by decide +kernel) (by decide +kernel) (by decide +kernel) (by decide +kernel) (by decide +kernel) rfl
theorem lk_L_90 : mLkV RL 90 1 m_X2_choked := mLkV.of 390 391 392 45 393 (by decide +kernel) (by decide +kernel) (by decide +kernel) (by decide +kernel) (by decide +kernel) (by decide +kernel) rfl
theorem lk_L_93 : mLkV RL 93 1 m_X3_choked := mLkV.of 684 685 686 48 687 (by decide +kernel) (by decide +kernel) (by decide +kernel) (by decide +kernel) (by decide +kernel) (by decide +kernel) rfl
theorem lk_L_94 : mLkV RL 94 1 m_X2_type := mLkV.of 399 400 401 45 402 (by decide +kernel) (by decide +kernel) (by decide +kernel) (by decide +kernel) (by decide +kernel) (by decide +kernel) rfl
theorem lk_L_97 : mLkV RL 97 1 m_X3_type := mLkV.of 692 693 694 48 695 (by decide +kernel) (by decide +kernel) (by decide +kernel) (by decide +kernel) (by decide +kernel) (by decide +kernel) rfl
theorem lk_L_98 : mLkV RL 98 0 m_X2_clear := mLkV.of 407 408 409 45 410 (by decide +kernel) (by decide +kernel) (by decide +kernel) (by decide +kernel) (by decide +kernel) (by decide +kernel) rfl
theorem lk_L_101 : mLkV RL 101 0 m_X3_clear := mLkV.of 696 697 698 48 699 (by decide +kernel) (by decide +kernel) (by decide +kernel) (by decide +kernel) (by decide +kernel) (by decide +kernel) rfl
theorem lk_L_102 : mLkV RL 102 0 m_X2_does := mLkV.of 411 412 413 45 414 (by decide +kernel) (by decide +kernel) (by decide +kernel) (by decide +kernel) (by decide +kernel) (by decide +kernel) rfl
theorem lk_L_105 : mLkV RL 105 0 m_X3_does := mLkV.of 700 701 702 48 703 (by decide +kernel) (by decide +kernel) (by decide +kernel) (by decide +kernel) (by decide +kernel) (by decide +kernel) rfl
theorem lk_L_106 : mLkV RL 106 0 m_X2_undo := mLkV.of 455 456 457 45 458 (by decide +kernel) (by decide +kernel) (by decide +kernel) (by decide +kernel) (by decide +kernel) (by decide +kernel) rfl
theorem lk_L_109 : mLkV RL 109 0 m_X3_undo := mLkV.of 727 728 729 48 730 (by decide +kernel) (by decide +kernel) (by decide +kernel) (by decide +kernel) (by decide +kernel) (by decide +kernel) rfl
theorem lk_L_110 : mLkV RL 110 1 m_X2_told := mLkV.of 459 460 461 45 462 (by decide +kernel) (by decide +kernel) (by decide +kernel) (by decide +kernel) (by decide +kernel) (by decide +kernel) rfl
theorem lk_L_113 : mLkV RL 113 1 m_X3_told := mLkV.of 731 732 733 48 734 (by decide +kernel) (by decide +kernel) (by decide +kernel) (by decide +kernel) (by decide +kernel) (by decide +kernel) rfl
theorem lk_L_114 : mLkV RL 114 0 m_X2_digest := mLkV.of 463 464 465 45 466 (by decide +kernel) (by decide +kernel) (by decide +kernel) (by decide +kernel) (by decide +kernel) (by decide +kernel) rfl
theorem lk_L_118 : mLkV RL 118 0 m_X3_digest := mLkV.of 735 736 737 48 738 (by decide +kernel) (by decide +kernel) (by decide +kernel) (by decide +kernel) (by decide +kernel) (by decide +kernel) rfl
theorem lk_X3_25 : mLkV RX3 25 1 m_X3_begins := mLkV.of 489 491 20 48 492 (by decide +kernel) (by decide +kernel) (by decide +kernel) (by decide +kernel) (by decide +kernel) (by decide +kernel) rfl
theorem lk_X3_36 : mLkS RX3 36 3 m_X3_in := mLkS.of 537 538 48 539 (by decide +kernel) (by decide +kernel) (by decide +kernel) (by decide +kernel) (by decide +kernel) rfl
theorem lk_X3_40 : mLkV RX3 40 1 m_X3_isTown := mLkV.of 556 558 24 48 559 (by decide +kernel) (by decide +kernel) (by decide +kernel) (by decide +kernel) (by decide +kernel) (by decide +kernel) rfl
theorem lk_X3_47 : mLkV RX3 47 0 m_X3_bads := mLkV.of 540 542 21 48 543 (by decide +kernel) (by decide +kernel) (by decide +kernel) (by decide +kernel) (by decide +kernel) (by decide +kernel) rfl
theorem lk_X3_51 : mLkV RX3 51 0 m_X3_keeps := mLkV.of 544 546 22 48 547 (by decide +kernel) (by decide +kernel) (by decide +kernel) (by decide +kernel) (by decide +kernel) (by decide +kernel) rfl
theorem lk_X3_54 : mLkV RX3 54 2 m_X3_areTowns := mLkV.of 552 554 23 48 555 (by decide +kernel) (by decide +kernel) (by decide +kernel) (by decide +kernel) (by decide +kernel) (by decide +kernel) rfl
theorem lk_X3_58 : mLkS RX3 58 2 m_X3_pairOf := mLkS.of 560 561 48 562 (by decide +kernel) (by decide +kernel) (by decide +kernel) (by decide +kernel) (by decide +kernel) rfl
theorem lk_X3_63 : mLkV RX3 63 3 m_X3_holding := mLkV.of 588 590 26 48 591 (by decide +kernel) (by decide +kernel) (by decide +kernel) (by decide +kernel) (by decide +kernel) (by decide +kernel) rfl
theorem lk_X3_67 : mLkV RX3 67 2 m_X3_free := mLkV.of 584 586 25 48 587 (by decide +kernel) (by decide +kernel) (by decide +kernel) (by decide +kernel) (by decide +kernel) (by decide +kernel) rfl
theorem lk_X3_76 : mLkV RX3 76 0 m_X3_draws := mLkV.of 620 622 32 48 623 (by decide +kernel) (by decide +kernel) (by decide +kernel) (by decide +kernel) (by decide +kernel) (by decide +kernel) rfl
theorem lk_X3_80 : mLkV RX3 80 3 m_X3_counts := mLkV.of 604 606 28 48 607 (by decide +kernel) (by decide +kernel) (by decide +kernel) (by decide +kernel) (by decide +kernel) (by decide +kernel) rfl
theorem lk_X3_84 : mLkV RX3 84 4 m_X3_goes := mLkV.of 608 610 29 48 611 (by decide +kernel) (by decide +kernel) (by decide +kernel) (by decide +kernel) (by decide +kernel) (by decide +kernel) rfl
theorem lk_X3_88 : mLkV RX3 88 2 m_X3_hasMore := mLkV.of 612 614 30 48 615 (by decide +kernel) (by decide +kernel) (by decide +kernel) (by decide +kernel) (by decide +kernel) (by decide +kernel) rfl
theorem lk_X3_91 : mLkV RX3 91 2 m_X3_drawsSticky := mLkV.of 616 618 31 48 619 (by decide +kernel) (by decide +kernel) (by decide +kernel) (by decide +kernel) (by decide +kernel) (by decide +kernel) rfl
theorem lk_X3_98 : mLkV RX3 98 3 m_X3_asks := mLkV.of 600 602 27 48 603 (by decide +kernel) (by decide +kernel) (by decide +kernel) (by decide +kernel) (by decide +kernel) (by decide +kernel) rfl
theorem lk_X3_101 : mLkV RX3 101 1 m_X3_letsGo := mLkV.of 636 638 34 48 639 (by decide +kernel) (by decide +kernel) (by decide +kernel) (by decide +kernel) (by decide +kernel) (by decide +kernel) rfl
theorem lk_X3_104 : mLkV RX3 104 1 m_X3_passes := mLkV.of 632 634 33 48 635 (by decide +kernel) (by decide +kernel) (by decide +kernel) (by decide +kernel) (by decide +kernel) (by decide +kernel) rfl
theorem lk_X3_108 : mLkV RX3 108 0 m_X3_nos := mLkV.of 648 650 35 48 651 (by decide +kernel) (by decide +kernel) (by decide +kernel) (by decide +kernel) (by decide +kernel) (by decide +kernel) rfl
theorem lk_X3_111 : mLkV RX3 111 1 m_X3_sumOf := mLkV.of 656 658 36 48 659 (by decide +kernel) (by decide +kernel) (by decide +kernel) (by decide +kernel) (by decide +kernel) (by decide +kernel) rfl
theorem lk_X3_114 : mLkV RX3 114 2 m_X3_lostIn := mLkV.of 676 678 37 48 679 (by decide +kernel) (by decide +kernel) (by decide +kernel) (by decide +kernel) (by decide +kernel) (by decide +kernel) rfl
theorem lk_X3_117 : mLkV RX3 117 3 m_X3_mayGo := mLkV.of 688 690 38 48 691 (by decide +kernel) (by decide +kernel) (by decide +kernel) (by decide +kernel) (by decide +kernel) (by decide +kernel) rfl
theorem lk_X3_129 : mLkV RX3 129 0 m_X3_sign := mLkV.of 708 710 40 48 711 (by decide +kernel) (by decide +kernel) (by decide +kernel) (by decide +kernel) (by decide +kernel) (by decide +kernel) rfl
theorem lk_X3_132 : mLkS RX3 132 1 m_X3_isFigure := mLkS.of 712 713 48 714 (by decide +kernel) (by decide +kernel) (by decide +kernel) (by decide +kernel) (by decide +kernel) rfl
theorem lk_X3_135 : mLkV RX3 135 1 m_X3_fails := mLkV.of 719 721 42 48 722 (by decide +kernel) (by decide +kernel) (by decide +kernel) (by decide +kernel) (by decide +kernel) (by decide +kernel) rfl
theorem lk_X3_141 : mLkV RX3 141 2 m_X3_figure := mLkV.of 715 717 41 48 718 (by decide +kernel) (by decide +kernel) (by decide +kernel) (by decide +kernel) (by decide +kernel) (by decide +kernel) rfl
theorem lk_X3_144 : mLkV RX3 144 2 m_X3_number := mLkV.of 723 725 43 48 726 (by decide +kernel) (by decide +kernel) (by decide +kernel) (by decide +kernel) (by decide +kernel) (by decide +kernel) rfl
theorem lk_X3_147 : mLkV RX3 147 0 m_X3_order := mLkV.of 704 706 39 48 707 (by decide +kernel) (by decide +kernel) (by decide +kernel) (by decide +kernel) (by decide +kernel) (by decide +kernel) rfl
theorem lk_X3_154 : mLkV RX3 154 1 m_X3_told := mLkV.of 741 732 733 48 734 (by decide +kernel) (by decide +kernel) (by decide +kernel) (by decide +kernel) (by decide +kernel) (by decide +kernel) rfl
