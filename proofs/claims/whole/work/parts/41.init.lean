theorem di_X0_0 : decode cX0_init 0 = .ok (.aload_n 0, 1) := by decide +kernel
theorem di_X0_1 : decode cX0_init 1 = .ok (.invokespecial 5, 3) := by decide +kernel
theorem di_X0_4 : decode cX0_init 4 = .ok (.aload_n 0, 1) := by decide +kernel
theorem di_X0_5 : decode cX0_init 5 = .ok (.bipush 36, 2) := by decide +kernel
theorem di_X0_7 : decode cX0_init 7 = .ok (.newarray .int, 2) := by decide +kernel
theorem di_X0_9 : decode cX0_init 9 = .ok (.putfield 11, 3) := by decide +kernel
theorem di_X0_12 : decode cX0_init 12 = .ok (.aload_n 0, 1) := by decide +kernel
theorem di_X0_13 : decode cX0_init 13 = .ok (.bipush 36, 2) := by decide +kernel
theorem di_X0_15 : decode cX0_init 15 = .ok (.newarray .int, 2) := by decide +kernel
theorem di_X0_17 : decode cX0_init 17 = .ok (.putfield 15, 3) := by decide +kernel
theorem di_X0_20 : decode cX0_init 20 = .ok (.aload_n 0, 1) := by decide +kernel
theorem di_X0_21 : decode cX0_init 21 = .ok (.bipush 36, 2) := by decide +kernel
theorem di_X0_23 : decode cX0_init 23 = .ok (.newarray .int, 2) := by decide +kernel
theorem di_X0_25 : decode cX0_init 25 = .ok (.putfield 18, 3) := by decide +kernel
theorem di_X0_28 : decode cX0_init 28 = .ok (.aload_n 0, 1) := by decide +kernel
theorem di_X0_29 : decode cX0_init 29 = .ok (.bipush 36, 2) := by decide +kernel
theorem di_X0_31 : decode cX0_init 31 = .ok (.newarray .int, 2) := by decide +kernel
theorem di_X0_33 : decode cX0_init 33 = .ok (.putfield 21, 3) := by decide +kernel
theorem di_X0_36 : decode cX0_init 36 = .ok (.aload_n 0, 1) := by decide +kernel
theorem di_X0_37 : decode cX0_init 37 = .ok (.sipush 180, 3) := by decide +kernel
theorem di_X0_40 : decode cX0_init 40 = .ok (.newarray .int, 2) := by decide +kernel
theorem di_X0_42 : decode cX0_init 42 = .ok (.putfield 24, 3) := by decide +kernel
theorem di_X0_45 : decode cX0_init 45 = .ok (.aload_n 0, 1) := by decide +kernel
theorem di_X0_46 : decode cX0_init 46 = .ok (.iconst 5, 1) := by decide +kernel
theorem di_X0_47 : decode cX0_init 47 = .ok (.newarray .int, 2) := by decide +kernel
theorem di_X0_49 : decode cX0_init 49 = .ok (.putfield 27, 3) := by decide +kernel
theorem di_X0_52 : decode cX0_init 52 = .ok (.aload_n 0, 1) := by decide +kernel
theorem di_X0_53 : decode cX0_init 53 = .ok (.bipush 24, 2) := by decide +kernel
theorem di_X0_55 : decode cX0_init 55 = .ok (.newarray .int, 2) := by decide +kernel
theorem di_X0_57 : decode cX0_init 57 = .ok (.putfield 30, 3) := by decide +kernel
theorem di_X0_60 : decode cX0_init 60 = .ok (.aload_n 0, 1) := by decide +kernel
theorem di_X0_61 : decode cX0_init 61 = .ok (.sipush 320, 3) := by decide +kernel
theorem di_X0_64 : decode cX0_init 64 = .ok (.newarray .int, 2) := by decide +kernel
theorem di_X0_66 : decode cX0_init 66 = .ok (.putfield 33, 3) := by decide +kernel
theorem di_X0_69 : decode cX0_init 69 = .ok (.aload_n 0, 1) := by decide +kernel
theorem di_X0_70 : decode cX0_init 70 = .ok (.iconst 4, 1) := by decide +kernel
theorem di_X0_71 : decode cX0_init 71 = .ok (.invokevirtual 36, 3) := by decide +kernel
theorem di_X0_74 : decode cX0_init 74 = .ok (.return_, 1) := by decide +kernel
theorem di_X1_0 : decode cX1_init 0 = .ok (.aload_n 0, 1) := by decide +kernel
theorem di_X1_1 : decode cX1_init 1 = .ok (.invokespecial 5, 3) := by decide +kernel
theorem di_X1_4 : decode cX1_init 4 = .ok (.aload_n 0, 1) := by decide +kernel
theorem di_X1_5 : decode cX1_init 5 = .ok (.bipush 120, 2) := by decide +kernel
theorem di_X1_7 : decode cX1_init 7 = .ok (.newarray .int, 2) := by decide +kernel
theorem di_X1_9 : decode cX1_init 9 = .ok (.putfield 11, 3) := by decide +kernel
theorem di_X1_12 : decode cX1_init 12 = .ok (.aload_n 0, 1) := by decide +kernel
theorem di_X1_13 : decode cX1_init 13 = .ok (.sipush 160, 3) := by decide +kernel
theorem di_X1_16 : decode cX1_init 16 = .ok (.newarray .int, 2) := by decide +kernel
theorem di_X1_18 : decode cX1_init 18 = .ok (.putfield 15, 3) := by decide +kernel
theorem di_X1_21 : decode cX1_init 21 = .ok (.return_, 1) := by decide +kernel
theorem di_X2_0 : decode cX2_init 0 = .ok (.aload_n 0, 1) := by decide +kernel
theorem di_X2_1 : decode cX2_init 1 = .ok (.invokespecial 1, 3) := by decide +kernel
theorem di_X2_4 : decode cX2_init 4 = .ok (.aload_n 0, 1) := by decide +kernel
theorem di_X2_5 : decode cX2_init 5 = .ok (.new 7, 3) := by decide +kernel
theorem di_X2_8 : decode cX2_init 8 = .ok (.dup, 1) := by decide +kernel
theorem di_X2_9 : decode cX2_init 9 = .ok (.invokespecial 9, 3) := by decide +kernel
theorem di_X2_12 : decode cX2_init 12 = .ok (.putfield 10, 3) := by decide +kernel
theorem di_X2_15 : decode cX2_init 15 = .ok (.aload_n 0, 1) := by decide +kernel
theorem di_X2_16 : decode cX2_init 16 = .ok (.new 7, 3) := by decide +kernel
theorem di_X2_19 : decode cX2_init 19 = .ok (.dup, 1) := by decide +kernel
theorem di_X2_20 : decode cX2_init 20 = .ok (.invokespecial 9, 3) := by decide +kernel
theorem di_X2_23 : decode cX2_init 23 = .ok (.putfield 16, 3) := by decide +kernel
theorem di_X2_26 : decode cX2_init 26 = .ok (.aload_n 0, 1) := by decide +kernel
theorem di_X2_27 : decode cX2_init 27 = .ok (.iconst 5, 1) := by decide +kernel
theorem di_X2_28 : decode cX2_init 28 = .ok (.anewarray 7, 3) := by decide +kernel
theorem di_X2_31 : decode cX2_init 31 = .ok (.putfield 19, 3) := by decide +kernel
theorem di_X2_34 : decode cX2_init 34 = .ok (.iconst 0, 1) := by decide +kernel
theorem di_X2_35 : decode cX2_init 35 = .ok (.istore_n 1, 1) := by decide +kernel
theorem di_X2_36 : decode cX2_init 36 = .ok (.iload_n 1, 1) := by decide +kernel
theorem di_X2_37 : decode cX2_init 37 = .ok (.iconst 5, 1) := by decide +kernel
theorem di_X2_38 : decode cX2_init 38 = .ok (.if_icmp .ge 22, 3) := by decide +kernel
theorem di_X2_41 : decode cX2_init 41 = .ok (.aload_n 0, 1) := by decide +kernel
theorem di_X2_42 : decode cX2_init 42 = .ok (.getfield 19, 3) := by decide +kernel
theorem di_X2_45 : decode cX2_init 45 = .ok (.iload_n 1, 1) := by decide +kernel
theorem di_X2_46 : decode cX2_init 46 = .ok (.new 7, 3) := by decide +kernel
theorem di_X2_49 : decode cX2_init 49 = .ok (.dup, 1) := by decide +kernel
theorem di_X2_50 : decode cX2_init 50 = .ok (.invokespecial 9, 3) := by decide +kernel
theorem di_X2_53 : decode cX2_init 53 = .ok (.aastore, 1) := by decide +kernel
theorem di_X2_54 : decode cX2_init 54 = .ok (.iinc 1 1, 3) := by decide +kernel
theorem di_X2_57 : decode cX2_init 57 = .ok (.goto (-21), 3) := by decide +kernel
theorem di_X2_60 : decode cX2_init 60 = .ok (.aload_n 0, 1) := by decide +kernel
theorem di_X2_61 : decode cX2_init 61 = .ok (.new 23, 3) := by decide +kernel
theorem di_X2_64 : decode cX2_init 64 = .ok (.dup, 1) := by decide +kernel
theorem di_X2_65 : decode cX2_init 65 = .ok (.invokespecial 25, 3) := by decide +kernel
theorem di_X2_68 : decode cX2_init 68 = .ok (.putfield 26, 3) := by decide +kernel
theorem di_X2_71 : decode cX2_init 71 = .ok (.return_, 1) := by decide +kernel
theorem di_X3_0 : decode cX3_init 0 = .ok (.aload_n 0, 1) := by decide +kernel
theorem di_X3_1 : decode cX3_init 1 = .ok (.invokespecial 1, 3) := by decide +kernel
theorem di_X3_4 : decode cX3_init 4 = .ok (.aload_n 0, 1) := by decide +kernel
theorem di_X3_5 : decode cX3_init 5 = .ok (.sipush 637, 3) := by decide +kernel
theorem di_X3_8 : decode cX3_init 8 = .ok (.newarray .int, 2) := by decide +kernel
theorem di_X3_10 : decode cX3_init 10 = .ok (.putfield 7, 3) := by decide +kernel
theorem di_X3_13 : decode cX3_init 13 = .ok (.aload_n 0, 1) := by decide +kernel
theorem di_X3_14 : decode cX3_init 14 = .ok (.sipush 637, 3) := by decide +kernel
theorem di_X3_17 : decode cX3_init 17 = .ok (.newarray .int, 2) := by decide +kernel
theorem di_X3_19 : decode cX3_init 19 = .ok (.putfield 13, 3) := by decide +kernel
theorem di_X3_22 : decode cX3_init 22 = .ok (.aload_n 0, 1) := by decide +kernel
theorem di_X3_23 : decode cX3_init 23 = .ok (.sipush 3185, 3) := by decide +kernel
theorem di_X3_26 : decode cX3_init 26 = .ok (.newarray .int, 2) := by decide +kernel
theorem di_X3_28 : decode cX3_init 28 = .ok (.putfield 16, 3) := by decide +kernel
theorem di_X3_31 : decode cX3_init 31 = .ok (.aload_n 0, 1) := by decide +kernel
theorem di_X3_32 : decode cX3_init 32 = .ok (.bipush 120, 2) := by decide +kernel
theorem di_X3_34 : decode cX3_init 34 = .ok (.newarray .int, 2) := by decide +kernel
theorem di_X3_36 : decode cX3_init 36 = .ok (.putfield 19, 3) := by decide +kernel
theorem di_X3_39 : decode cX3_init 39 = .ok (.aload_n 0, 1) := by decide +kernel
theorem di_X3_40 : decode cX3_init 40 = .ok (.sipush 240, 3) := by decide +kernel
theorem di_X3_43 : decode cX3_init 43 = .ok (.newarray .int, 2) := by decide +kernel
theorem di_X3_45 : decode cX3_init 45 = .ok (.putfield 22, 3) := by decide +kernel
theorem di_X3_48 : decode cX3_init 48 = .ok (.aload_n 0, 1) := by decide +kernel
theorem di_X3_49 : decode cX3_init 49 = .ok (.iconst 4, 1) := by decide +kernel
theorem di_X3_50 : decode cX3_init 50 = .ok (.invokevirtual 25, 3) := by decide +kernel
theorem di_X3_53 : decode cX3_init 53 = .ok (.return_, 1) := by decide +kernel
theorem lk_X0_36 : mLkV RX0 36 1 m_X0_begin := mLkV.of 65 66 67 46 68 (by decide +kernel) (by decide +kernel) (by decide +kernel) (by decide +kernel) (by decide +kernel) (by decide +kernel) rfl
theorem oi_i : Cond.instanceMethod objectInit ∈ mTt := m_at (i := 57) (by decide +kernel) rfl
theorem oi_c : Cond.code objectInit ⟨#[0xb1]⟩ 1 none ∈ mTt := m_at (i := 58) (by decide +kernel) rfl
theorem oi_X0 : Cond.methodLink RX0 5 objectInit ∈ mTt := m_at (i := 64) (by decide +kernel) rfl
theorem oi_X1 : Cond.methodLink RX1 5 objectInit ∈ mTt := m_at (i := 137) (by decide +kernel) rfl
theorem oi_X2 : Cond.methodLink RX2 1 objectInit ∈ mTt := m_at (i := 56) (by decide +kernel) rfl
theorem oi_X3 : Cond.methodLink RX3 1 objectInit ∈ mTt := m_at (i := 488) (by decide +kernel) rfl
def T_X0_init : List (Nat × List MEn) := [(69, [(.aload_n 0, 1, 0, 0), (.iconst 4, 1, 0, 0), (.invokevirtual 36, 3, 0, 0), (.return_, 1, 0, 0)])]
def m_X0_init : MB := (yX0_init, cX0_init, 1, none, T_X0_init)
theorem ok_X0_init : mOk m_X0_init := mOk.of (by decide +kernel)
def T_X1_init : List (Nat × List MEn) := []
def m_X1_init : MB := (yX1_init, cX1_init, 1, none, T_X1_init)
theorem ok_X1_init : mOk m_X1_init := mOk.of (by decide +kernel)
def T_X2_init : List (Nat × List MEn) := []
def m_X2_init : MB := (yX2_init, cX2_init, 2, none, T_X2_init)
theorem ok_X2_init : mOk m_X2_init := mOk.of (by decide +kernel)
def T_X3_init : List (Nat × List MEn) := [(48, [(.aload_n 0, 1, 0, 0), (.iconst 4, 1, 0, 0), (.invokevirtual 25, 3, 0, 0), (.return_, 1, 0, 0)])]
def m_X3_init : MB := (yX3_init, cX3_init, 1, none, T_X3_init)
theorem ok_X3_init : mOk m_X3_init := mOk.of (by decide +kernel)
def z_X0 : va_E := .inr (0, [.int 0, .int 0, .int 0, .int 0, .int 0, .null, .null, .null, .null, .null, .null, .null, .null])
set_option maxHeartbeats 4000000 in
set_option maxRecDepth 100000 in
theorem N_X0 : mNw 2 m_X0_init z_X0 8 673 (fun μ => ∃ n : NetS, μ = memN n ∧ RC n (sBg 4)) := by
  refine mNw.intro (by decide +kernel) rfl rfl (Nat.le_refl _) ?_
  intro p l e s m args below meth c D tA A h0 ls Q C hin hP hD hl hend
  obtain ⟨hx, hb, hml, hown, hts, hK, hAO, hA⟩ := id C
  have hS : va_S A s.heap s.heap [] := va_S.rf
  have hP : va_P D cls_ [(h0, .inr (0, [.int 0, .int 0, .int 0, .int 0, .int 0, .null, .null, .null, .null, .null, .null, .null, .null]))] s.heap := hP
  have hD : va_D A [(h0, .inr (0, [.int 0, .int 0, .int 0, .int 0, .int 0, .null, .null, .null, .null, .null, .null, .null, .null]))] := hD
  have hl : lv_has ls 1 [(0, .ref h0)] := hl
  refine lv_aload_n hx hb di_X0_0 rfl (lv_at hl 0 rfl) ?_
  refine W.objInit hx hb hown (hts _ oi_X0) (hts _ oi_i) (hts _ oi_c) rfl (by rw [hml]; exact hl.1) rfl di_X0_1 (Nat.le_of_ble_eq_true rfl) (Nat.le_of_ble_eq_true rfl) ?_
  refine W.eq (g2 := F0 m 4 ls []) rfl ?_
  refine lv_aload_n hx hb di_X0_4 rfl (lv_at hl 0 rfl) ?_
  refine lv_bipush (v := 36) hx hb di_X0_5 (by decide) ?_
  refine n_arr C (n := 36) (N := 36) (by decide) (by decide) (Nat.le_of_ble_eq_true rfl) (Nat.le_of_ble_eq_true rfl) (Nat.le_of_ble_eq_true rfl) di_X0_7 hP hD hS (fun q1 H1 hP hD hS => ?_)
  have hP : va_P D cls_ [(h0, .inr (0, [.int 0, .int 0, .int 0, .int 0, .int 0, .null, .null, .null, .null, .null, .null, .null, .null])), (q1, .inl (tA 0, 36, .inl (fun _ => nI 0)))] H1 := hP
  have hD : va_D A [(h0, .inr (0, [.int 0, .int 0, .int 0, .int 0, .int 0, .null, .null, .null, .null, .null, .null, .null, .null])), (q1, .inl (tA 0, 36, .inl (fun _ => nI 0)))] := hD
  refine n_put C hin (idx := 11) (ci := 0) (k := 5) (q0 := 0) (ty := .array .int) (by decide +kernel) rfl rfl rfl (by decide +kernel) rfl rfl rfl (Nat.le_of_ble_eq_true rfl) di_X0_9 hP hD hS (fun H1p locs1 hP hD hS => ?_)
  have hP : va_P D cls_ [(h0, .inr (0, [.int 0, .int 0, .int 0, .int 0, .int 0, .ref q1, .null, .null, .null, .null, .null, .null, .null])), (q1, .inl (tA 0, 36, .inl (fun _ => nI 0)))] H1p := hP
  have hD : va_D A [(h0, .inr (0, [.int 0, .int 0, .int 0, .int 0, .int 0, .ref q1, .null, .null, .null, .null, .null, .null, .null])), (q1, .inl (tA 0, 36, .inl (fun _ => nI 0)))] := hD
  refine lv_aload_n hx hb di_X0_12 rfl (lv_at hl 0 rfl) ?_
  refine lv_bipush (v := 36) hx hb di_X0_13 (by decide) ?_
  refine n_arr C (n := 36) (N := 36) (by decide) (by decide) (Nat.le_of_ble_eq_true rfl) (Nat.le_of_ble_eq_true rfl) (Nat.le_of_ble_eq_true rfl) di_X0_15 hP hD hS (fun q2 H2 hP hD hS => ?_)
  have hP : va_P D cls_ [(h0, .inr (0, [.int 0, .int 0, .int 0, .int 0, .int 0, .ref q1, .null, .null, .null, .null, .null, .null, .null])), (q1, .inl (tA 0, 36, .inl (fun _ => nI 0))), (q2, .inl (tA 0, 36, .inl (fun _ => nI 0)))] H2 := hP
  have hD : va_D A [(h0, .inr (0, [.int 0, .int 0, .int 0, .int 0, .int 0, .ref q1, .null, .null, .null, .null, .null, .null, .null])), (q1, .inl (tA 0, 36, .inl (fun _ => nI 0))), (q2, .inl (tA 0, 36, .inl (fun _ => nI 0)))] := hD
  refine n_put C hin (idx := 15) (ci := 0) (k := 6) (q0 := 0) (ty := .array .int) (by decide +kernel) rfl rfl rfl (by decide +kernel) rfl rfl rfl (Nat.le_of_ble_eq_true rfl) di_X0_17 hP hD hS (fun H2p locs2 hP hD hS => ?_)
  have hP : va_P D cls_ [(h0, .inr (0, [.int 0, .int 0, .int 0, .int 0, .int 0, .ref q1, .ref q2, .null, .null, .null, .null, .null, .null])), (q1, .inl (tA 0, 36, .inl (fun _ => nI 0))), (q2, .inl (tA 0, 36, .inl (fun _ => nI 0)))] H2p := hP
  have hD : va_D A [(h0, .inr (0, [.int 0, .int 0, .int 0, .int 0, .int 0, .ref q1, .ref q2, .null, .null, .null, .null, .null, .null])), (q1, .inl (tA 0, 36, .inl (fun _ => nI 0))), (q2, .inl (tA 0, 36, .inl (fun _ => nI 0)))] := hD
  refine lv_aload_n hx hb di_X0_20 rfl (lv_at hl 0 rfl) ?_
  refine lv_bipush (v := 36) hx hb di_X0_21 (by decide) ?_
  refine n_arr C (n := 36) (N := 36) (by decide) (by decide) (Nat.le_of_ble_eq_true rfl) (Nat.le_of_ble_eq_true rfl) (Nat.le_of_ble_eq_true rfl) di_X0_23 hP hD hS (fun q3 H3 hP hD hS => ?_)
  have hP : va_P D cls_ [(h0, .inr (0, [.int 0, .int 0, .int 0, .int 0, .int 0, .ref q1, .ref q2, .null, .null, .null, .null, .null, .null])), (q1, .inl (tA 0, 36, .inl (fun _ => nI 0))), (q2, .inl (tA 0, 36, .inl (fun _ => nI 0))), (q3, .inl (tA 0, 36, .inl (fun _ => nI 0)))] H3 := hP
  have hD : va_D A [(h0, .inr (0, [.int 0, .int 0, .int 0, .int 0, .int 0, .ref q1, .ref q2, .null, .null, .null, .null, .null, .null])), (q1, .inl (tA 0, 36, .inl (fun _ => nI 0))), (q2, .inl (tA 0, 36, .inl (fun _ => nI 0))), (q3, .inl (tA 0, 36, .inl (fun _ => nI 0)))] := hD
  refine n_put C hin (idx := 18) (ci := 0) (k := 7) (q0 := 0) (ty := .array .int) (by decide +kernel) rfl rfl rfl (by decide +kernel) rfl rfl rfl (Nat.le_of_ble_eq_true rfl) di_X0_25 hP hD hS (fun H3p locs3 hP hD hS => ?_)
  have hP : va_P D cls_ [(h0, .inr (0, [.int 0, .int 0, .int 0, .int 0, .int 0, .ref q1, .ref q2, .ref q3, .null, .null, .null, .null, .null])), (q1, .inl (tA 0, 36, .inl (fun _ => nI 0))), (q2, .inl (tA 0, 36, .inl (fun _ => nI 0))), (q3, .inl (tA 0, 36, .inl (fun _ => nI 0)))] H3p := hP
  have hD : va_D A [(h0, .inr (0, [.int 0, .int 0, .int 0, .int 0, .int 0, .ref q1, .ref q2, .ref q3, .null, .null, .null, .null, .null])), (q1, .inl (tA 0, 36, .inl (fun _ => nI 0))), (q2, .inl (tA 0, 36, .inl (fun _ => nI 0))), (q3, .inl (tA 0, 36, .inl (fun _ => nI 0)))] := hD
  refine lv_aload_n hx hb di_X0_28 rfl (lv_at hl 0 rfl) ?_
  refine lv_bipush (v := 36) hx hb di_X0_29 (by decide) ?_
  refine n_arr C (n := 36) (N := 36) (by decide) (by decide) (Nat.le_of_ble_eq_true rfl) (Nat.le_of_ble_eq_true rfl) (Nat.le_of_ble_eq_true rfl) di_X0_31 hP hD hS (fun q4 H4 hP hD hS => ?_)
  have hP : va_P D cls_ [(h0, .inr (0, [.int 0, .int 0, .int 0, .int 0, .int 0, .ref q1, .ref q2, .ref q3, .null, .null, .null, .null, .null])), (q1, .inl (tA 0, 36, .inl (fun _ => nI 0))), (q2, .inl (tA 0, 36, .inl (fun _ => nI 0))), (q3, .inl (tA 0, 36, .inl (fun _ => nI 0))), (q4, .inl (tA 0, 36, .inl (fun _ => nI 0)))] H4 := hP
  have hD : va_D A [(h0, .inr (0, [.int 0, .int 0, .int 0, .int 0, .int 0, .ref q1, .ref q2, .ref q3, .null, .null, .null, .null, .null])), (q1, .inl (tA 0, 36, .inl (fun _ => nI 0))), (q2, .inl (tA 0, 36, .inl (fun _ => nI 0))), (q3, .inl (tA 0, 36, .inl (fun _ => nI 0))), (q4, .inl (tA 0, 36, .inl (fun _ => nI 0)))] := hD
  refine n_put C hin (idx := 21) (ci := 0) (k := 8) (q0 := 0) (ty := .array .int) (by decide +kernel) rfl rfl rfl (by decide +kernel) rfl rfl rfl (Nat.le_of_ble_eq_true rfl) di_X0_33 hP hD hS (fun H4p locs4 hP hD hS => ?_)
  have hP : va_P D cls_ [(h0, .inr (0, [.int 0, .int 0, .int 0, .int 0, .int 0, .ref q1, .ref q2, .ref q3, .ref q4, .null, .null, .null, .null])), (q1, .inl (tA 0, 36, .inl (fun _ => nI 0))), (q2, .inl (tA 0, 36, .inl (fun _ => nI 0))), (q3, .inl (tA 0, 36, .inl (fun _ => nI 0))), (q4, .inl (tA 0, 36, .inl (fun _ => nI 0)))] H4p := hP
  have hD : va_D A [(h0, .inr (0, [.int 0, .int 0, .int 0, .int 0, .int 0, .ref q1, .ref q2, .ref q3, .ref q4, .null, .null, .null, .null])), (q1, .inl (tA 0, 36, .inl (fun _ => nI 0))), (q2, .inl (tA 0, 36, .inl (fun _ => nI 0))), (q3, .inl (tA 0, 36, .inl (fun _ => nI 0))), (q4, .inl (tA 0, 36, .inl (fun _ => nI 0)))] := hD
  refine lv_aload_n hx hb di_X0_36 rfl (lv_at hl 0 rfl) ?_
  refine lv_sipush (v := 180) hx hb di_X0_37 (by decide) ?_
  refine n_arr C (n := 180) (N := 180) (by decide) (by decide) (Nat.le_of_ble_eq_true rfl) (Nat.le_of_ble_eq_true rfl) (Nat.le_of_ble_eq_true rfl) di_X0_40 hP hD hS (fun q5 H5 hP hD hS => ?_)
  have hP : va_P D cls_ [(h0, .inr (0, [.int 0, .int 0, .int 0, .int 0, .int 0, .ref q1, .ref q2, .ref q3, .ref q4, .null, .null, .null, .null])), (q1, .inl (tA 0, 36, .inl (fun _ => nI 0))), (q2, .inl (tA 0, 36, .inl (fun _ => nI 0))), (q3, .inl (tA 0, 36, .inl (fun _ => nI 0))), (q4, .inl (tA 0, 36, .inl (fun _ => nI 0))), (q5, .inl (tA 0, 180, .inl (fun _ => nI 0)))] H5 := hP
  have hD : va_D A [(h0, .inr (0, [.int 0, .int 0, .int 0, .int 0, .int 0, .ref q1, .ref q2, .ref q3, .ref q4, .null, .null, .null, .null])), (q1, .inl (tA 0, 36, .inl (fun _ => nI 0))), (q2, .inl (tA 0, 36, .inl (fun _ => nI 0))), (q3, .inl (tA 0, 36, .inl (fun _ => nI 0))), (q4, .inl (tA 0, 36, .inl (fun _ => nI 0))), (q5, .inl (tA 0, 180, .inl (fun _ => nI 0)))] := hD
  refine n_put C hin (idx := 24) (ci := 0) (k := 9) (q0 := 0) (ty := .array .int) (by decide +kernel) rfl rfl rfl (by decide +kernel) rfl rfl rfl (Nat.le_of_ble_eq_true rfl) di_X0_42 hP hD hS (fun H5p locs5 hP hD hS => ?_)
  have hP : va_P D cls_ [(h0, .inr (0, [.int 0, .int 0, .int 0, .int 0, .int 0, .ref q1, .ref q2, .ref q3, .ref q4, .ref q5, .null, .null, .null])), (q1, .inl (tA 0, 36, .inl (fun _ => nI 0))), (q2, .inl (tA 0, 36, .inl (fun _ => nI 0))), (q3, .inl (tA 0, 36, .inl (fun _ => nI 0))), (q4, .inl (tA 0, 36, .inl (fun _ => nI 0))), (q5, .inl (tA 0, 180, .inl (fun _ => nI 0)))] H5p := hP
  have hD : va_D A [(h0, .inr (0, [.int 0, .int 0, .int 0, .int 0, .int 0, .ref q1, .ref q2, .ref q3, .ref q4, .ref q5, .null, .null, .null])), (q1, .inl (tA 0, 36, .inl (fun _ => nI 0))), (q2, .inl (tA 0, 36, .inl (fun _ => nI 0))), (q3, .inl (tA 0, 36, .inl (fun _ => nI 0))), (q4, .inl (tA 0, 36, .inl (fun _ => nI 0))), (q5, .inl (tA 0, 180, .inl (fun _ => nI 0)))] := hD
  refine lv_aload_n hx hb di_X0_45 rfl (lv_at hl 0 rfl) ?_
  refine lv_iconst (v := 5) hx hb di_X0_46 (by decide) ?_
  refine n_arr C (n := 5) (N := 5) (by decide) (by decide) (Nat.le_of_ble_eq_true rfl) (Nat.le_of_ble_eq_true rfl) (Nat.le_of_ble_eq_true rfl) di_X0_47 hP hD hS (fun q6 H6 hP hD hS => ?_)
  have hP : va_P D cls_ [(h0, .inr (0, [.int 0, .int 0, .int 0, .int 0, .int 0, .ref q1, .ref q2, .ref q3, .ref q4, .ref q5, .null, .null, .null])), (q1, .inl (tA 0, 36, .inl (fun _ => nI 0))), (q2, .inl (tA 0, 36, .inl (fun _ => nI 0))), (q3, .inl (tA 0, 36, .inl (fun _ => nI 0))), (q4, .inl (tA 0, 36, .inl (fun _ => nI 0))), (q5, .inl (tA 0, 180, .inl (fun _ => nI 0))), (q6, .inl (tA 0, 5, .inl (fun _ => nI 0)))] H6 := hP
  have hD : va_D A [(h0, .inr (0, [.int 0, .int 0, .int 0, .int 0, .int 0, .ref q1, .ref q2, .ref q3, .ref q4, .ref q5, .null, .null, .null])), (q1, .inl (tA 0, 36, .inl (fun _ => nI 0))), (q2, .inl (tA 0, 36, .inl (fun _ => nI 0))), (q3, .inl (tA 0, 36, .inl (fun _ => nI 0))), (q4, .inl (tA 0, 36, .inl (fun _ => nI 0))), (q5, .inl (tA 0, 180, .inl (fun _ => nI 0))), (q6, .inl (tA 0, 5, .inl (fun _ => nI 0)))] := hD
  refine n_put C hin (idx := 27) (ci := 0) (k := 10) (q0 := 0) (ty := .array .int) (by decide +kernel) rfl rfl rfl (by decide +kernel) rfl rfl rfl (Nat.le_of_ble_eq_true rfl) di_X0_49 hP hD hS (fun H6p locs6 hP hD hS => ?_)
  have hP : va_P D cls_ [(h0, .inr (0, [.int 0, .int 0, .int 0, .int 0, .int 0, .ref q1, .ref q2, .ref q3, .ref q4, .ref q5, .ref q6, .null, .null])), (q1, .inl (tA 0, 36, .inl (fun _ => nI 0))), (q2, .inl (tA 0, 36, .inl (fun _ => nI 0))), (q3, .inl (tA 0, 36, .inl (fun _ => nI 0))), (q4, .inl (tA 0, 36, .inl (fun _ => nI 0))), (q5, .inl (tA 0, 180, .inl (fun _ => nI 0))), (q6, .inl (tA 0, 5, .inl (fun _ => nI 0)))] H6p := hP
  have hD : va_D A [(h0, .inr (0, [.int 0, .int 0, .int 0, .int 0, .int 0, .ref q1, .ref q2, .ref q3, .ref q4, .ref q5, .ref q6, .null, .null])), (q1, .inl (tA 0, 36, .inl (fun _ => nI 0))), (q2, .inl (tA 0, 36, .inl (fun _ => nI 0))), (q3, .inl (tA 0, 36, .inl (fun _ => nI 0))), (q4, .inl (tA 0, 36, .inl (fun _ => nI 0))), (q5, .inl (tA 0, 180, .inl (fun _ => nI 0))), (q6, .inl (tA 0, 5, .inl (fun _ => nI 0)))] := hD
  refine lv_aload_n hx hb di_X0_52 rfl (lv_at hl 0 rfl) ?_
  refine lv_bipush (v := 24) hx hb di_X0_53 (by decide) ?_
  refine n_arr C (n := 24) (N := 24) (by decide) (by decide) (Nat.le_of_ble_eq_true rfl) (Nat.le_of_ble_eq_true rfl) (Nat.le_of_ble_eq_true rfl) di_X0_55 hP hD hS (fun q7 H7 hP hD hS => ?_)
  have hP : va_P D cls_ [(h0, .inr (0, [.int 0, .int 0, .int 0, .int 0, .int 0, .ref q1, .ref q2, .ref q3, .ref q4, .ref q5, .ref q6, .null, .null])), (q1, .inl (tA 0, 36, .inl (fun _ => nI 0))), (q2, .inl (tA 0, 36, .inl (fun _ => nI 0))), (q3, .inl (tA 0, 36, .inl (fun _ => nI 0))), (q4, .inl (tA 0, 36, .inl (fun _ => nI 0))), (q5, .inl (tA 0, 180, .inl (fun _ => nI 0))), (q6, .inl (tA 0, 5, .inl (fun _ => nI 0))), (q7, .inl (tA 0, 24, .inl (fun _ => nI 0)))] H7 := hP
  have hD : va_D A [(h0, .inr (0, [.int 0, .int 0, .int 0, .int 0, .int 0, .ref q1, .ref q2, .ref q3, .ref q4, .ref q5, .ref q6, .null, .null])), (q1, .inl (tA 0, 36, .inl (fun _ => nI 0))), (q2, .inl (tA 0, 36, .inl (fun _ => nI 0))), (q3, .inl (tA 0, 36, .inl (fun _ => nI 0))), (q4, .inl (tA 0, 36, .inl (fun _ => nI 0))), (q5, .inl (tA 0, 180, .inl (fun _ => nI 0))), (q6, .inl (tA 0, 5, .inl (fun _ => nI 0))), (q7, .inl (tA 0, 24, .inl (fun _ => nI 0)))] := hD
  refine n_put C hin (idx := 30) (ci := 0) (k := 11) (q0 := 0) (ty := .array .int) (by decide +kernel) rfl rfl rfl (by decide +kernel) rfl rfl rfl (Nat.le_of_ble_eq_true rfl) di_X0_57 hP hD hS (fun H7p locs7 hP hD hS => ?_)
  have hP : va_P D cls_ [(h0, .inr (0, [.int 0, .int 0, .int 0, .int 0, .int 0, .ref q1, .ref q2, .ref q3, .ref q4, .ref q5, .ref q6, .ref q7, .null])), (q1, .inl (tA 0, 36, .inl (fun _ => nI 0))), (q2, .inl (tA 0, 36, .inl (fun _ => nI 0))), (q3, .inl (tA 0, 36, .inl (fun _ => nI 0))), (q4, .inl (tA 0, 36, .inl (fun _ => nI 0))), (q5, .inl (tA 0, 180, .inl (fun _ => nI 0))), (q6, .inl (tA 0, 5, .inl (fun _ => nI 0))), (q7, .inl (tA 0, 24, .inl (fun _ => nI 0)))] H7p := hP
  have hD : va_D A [(h0, .inr (0, [.int 0, .int 0, .int 0, .int 0, .int 0, .ref q1, .ref q2, .ref q3, .ref q4, .ref q5, .ref q6, .ref q7, .null])), (q1, .inl (tA 0, 36, .inl (fun _ => nI 0))), (q2, .inl (tA 0, 36, .inl (fun _ => nI 0))), (q3, .inl (tA 0, 36, .inl (fun _ => nI 0))), (q4, .inl (tA 0, 36, .inl (fun _ => nI 0))), (q5, .inl (tA 0, 180, .inl (fun _ => nI 0))), (q6, .inl (tA 0, 5, .inl (fun _ => nI 0))), (q7, .inl (tA 0, 24, .inl (fun _ => nI 0)))] := hD
  refine lv_aload_n hx hb di_X0_60 rfl (lv_at hl 0 rfl) ?_
  refine lv_sipush (v := 320) hx hb di_X0_61 (by decide) ?_
  refine n_arr C (n := 320) (N := 320) (by decide) (by decide) (Nat.le_of_ble_eq_true rfl) (Nat.le_of_ble_eq_true rfl) (Nat.le_of_ble_eq_true rfl) di_X0_64 hP hD hS (fun q8 H8 hP hD hS => ?_)
  have hP : va_P D cls_ [(h0, .inr (0, [.int 0, .int 0, .int 0, .int 0, .int 0, .ref q1, .ref q2, .ref q3, .ref q4, .ref q5, .ref q6, .ref q7, .null])), (q1, .inl (tA 0, 36, .inl (fun _ => nI 0))), (q2, .inl (tA 0, 36, .inl (fun _ => nI 0))), (q3, .inl (tA 0, 36, .inl (fun _ => nI 0))), (q4, .inl (tA 0, 36, .inl (fun _ => nI 0))), (q5, .inl (tA 0, 180, .inl (fun _ => nI 0))), (q6, .inl (tA 0, 5, .inl (fun _ => nI 0))), (q7, .inl (tA 0, 24, .inl (fun _ => nI 0))), (q8, .inl (tA 0, 320, .inl (fun _ => nI 0)))] H8 := hP
  have hD : va_D A [(h0, .inr (0, [.int 0, .int 0, .int 0, .int 0, .int 0, .ref q1, .ref q2, .ref q3, .ref q4, .ref q5, .ref q6, .ref q7, .null])), (q1, .inl (tA 0, 36, .inl (fun _ => nI 0))), (q2, .inl (tA 0, 36, .inl (fun _ => nI 0))), (q3, .inl (tA 0, 36, .inl (fun _ => nI 0))), (q4, .inl (tA 0, 36, .inl (fun _ => nI 0))), (q5, .inl (tA 0, 180, .inl (fun _ => nI 0))), (q6, .inl (tA 0, 5, .inl (fun _ => nI 0))), (q7, .inl (tA 0, 24, .inl (fun _ => nI 0))), (q8, .inl (tA 0, 320, .inl (fun _ => nI 0)))] := hD
  refine n_put C hin (idx := 33) (ci := 0) (k := 12) (q0 := 0) (ty := .array .int) (by decide +kernel) rfl rfl rfl (by decide +kernel) rfl rfl rfl (Nat.le_of_ble_eq_true rfl) di_X0_66 hP hD hS (fun H8p locs8 hP hD hS => ?_)
  have hP : va_P D cls_ [(h0, .inr (0, [.int 0, .int 0, .int 0, .int 0, .int 0, .ref q1, .ref q2, .ref q3, .ref q4, .ref q5, .ref q6, .ref q7, .ref q8])), (q1, .inl (tA 0, 36, .inl (fun _ => nI 0))), (q2, .inl (tA 0, 36, .inl (fun _ => nI 0))), (q3, .inl (tA 0, 36, .inl (fun _ => nI 0))), (q4, .inl (tA 0, 36, .inl (fun _ => nI 0))), (q5, .inl (tA 0, 180, .inl (fun _ => nI 0))), (q6, .inl (tA 0, 5, .inl (fun _ => nI 0))), (q7, .inl (tA 0, 24, .inl (fun _ => nI 0))), (q8, .inl (tA 0, 320, .inl (fun _ => nI 0)))] H8p := hP
  have hD : va_D A [(h0, .inr (0, [.int 0, .int 0, .int 0, .int 0, .int 0, .ref q1, .ref q2, .ref q3, .ref q4, .ref q5, .ref q6, .ref q7, .ref q8])), (q1, .inl (tA 0, 36, .inl (fun _ => nI 0))), (q2, .inl (tA 0, 36, .inl (fun _ => nI 0))), (q3, .inl (tA 0, 36, .inl (fun _ => nI 0))), (q4, .inl (tA 0, 36, .inl (fun _ => nI 0))), (q5, .inl (tA 0, 180, .inl (fun _ => nI 0))), (q6, .inl (tA 0, 5, .inl (fun _ => nI 0))), (q7, .inl (tA 0, 24, .inl (fun _ => nI 0))), (q8, .inl (tA 0, 320, .inl (fun _ => nI 0)))] := hD
  obtain ⟨n1, f1, f2⟩ := RC.bg (k := 4) (mkN 0 0 0 0 0 (fun _ => nI 0) (fun _ => nI 0) (fun _ => nI 0) (fun _ => nI 0) (fun _ => nI 0) (fun _ => nI 0) (fun _ => nI 0) (fun _ => nI 0))
  have E : mEv 2 m_X0_init none (69, mT T_X0_init 69, [some (.ref 0)], [], memN (mkN 0 0 0 0 0 (fun _ => nI 0) (fun _ => nI 0) (fun _ => nI 0) (fun _ => nI 0) (fun _ => nI 0) (fun _ => nI 0) (fun _ => nI 0) (fun _ => nI 0))) none (memN n1) := by
    refine mEv.stp 2 (S' := (71, _, [some (.ref 0)], [.int (nI 4), .ref 0], memN (mkN 0 0 0 0 0 (fun _ => nI 0) (fun _ => nI 0) (fun _ => nI 0) (fun _ => nI 0) (fun _ => nI 0) (fun _ => nI 0) (fun _ => nI 0) (fun _ => nI 0)))) rfl ?_
    exact mEv.callV (d := 1) (As := [.int (nI 4)]) (st := []) (h := 0) (r := none) (μ1 := memN n1) lk_X0_36 rfl rfl rfl rfl rfl (A_X0_begin (d := 0) f1) (mEv.retv rfl)
  refine E p l e _ s m args below meth c D (mRo [h0, q1, q2, q3, q4, q5, q6, q7, q8]) tA A s.heap 8 673 Q ⟨hx, hb, hml, hown, hts, hK, hA, Nat.le_of_ble_eq_true rfl, Nat.le_of_ble_eq_true rfl, ok_X0_init, fun _ _ h => by cases h⟩ (Nat.le_refl _) (Nat.le_refl _) (fun pc H locs ls1 hr hP hD hS => ?_) (ok_X0_init.at 69) _ _ ls hP hD hS ⟨hl, rfl⟩
  exact hend pc H locs ls1 (mRo [h0, q1, q2, q3, q4, q5, q6, q7, q8]) (memN n1) hr.1 rfl ⟨n1, rfl, f2⟩ hP hD hS
def z_X1 : va_E := .inr (1, [.null, .null, .int 0, .int 0, .int 0, .int 0, .int 0])
set_option maxHeartbeats 4000000 in
set_option maxRecDepth 100000 in
theorem N_X1 : mNw 1 m_X1_init z_X1 2 280 (fun μ => ∃ t : TextS, μ = memT t ∧ gT_ln t = nI 0) := by
  refine mNw.intro (by decide +kernel) rfl rfl (Nat.le_refl _) ?_
  intro p l e s m args below meth c D tA A h0 ls Q C hin hP hD hl hend
  obtain ⟨hx, hb, hml, hown, hts, hK, hAO, hA⟩ := id C
  have hS : va_S A s.heap s.heap [] := va_S.rf
  have hP : va_P D cls_ [(h0, .inr (1, [.null, .null, .int 0, .int 0, .int 0, .int 0, .int 0]))] s.heap := hP
  have hD : va_D A [(h0, .inr (1, [.null, .null, .int 0, .int 0, .int 0, .int 0, .int 0]))] := hD
  have hl : lv_has ls 1 [(0, .ref h0)] := hl
  refine lv_aload_n hx hb di_X1_0 rfl (lv_at hl 0 rfl) ?_
  refine W.objInit hx hb hown (hts _ oi_X1) (hts _ oi_i) (hts _ oi_c) rfl (by rw [hml]; exact hl.1) rfl di_X1_1 (Nat.le_of_ble_eq_true rfl) (Nat.le_of_ble_eq_true rfl) ?_
  refine W.eq (g2 := F0 m 4 ls []) rfl ?_
  refine lv_aload_n hx hb di_X1_4 rfl (lv_at hl 0 rfl) ?_
  refine lv_bipush (v := 120) hx hb di_X1_5 (by decide) ?_
  refine n_arr C (n := 120) (N := 120) (by decide) (by decide) (Nat.le_of_ble_eq_true rfl) (Nat.le_of_ble_eq_true rfl) (Nat.le_of_ble_eq_true rfl) di_X1_7 hP hD hS (fun q1 H1 hP hD hS => ?_)
  have hP : va_P D cls_ [(h0, .inr (1, [.null, .null, .int 0, .int 0, .int 0, .int 0, .int 0])), (q1, .inl (tA 0, 120, .inl (fun _ => nI 0)))] H1 := hP
  have hD : va_D A [(h0, .inr (1, [.null, .null, .int 0, .int 0, .int 0, .int 0, .int 0])), (q1, .inl (tA 0, 120, .inl (fun _ => nI 0)))] := hD
  refine n_put C hin (idx := 11) (ci := 1) (k := 0) (q0 := 0) (ty := .array .int) (by decide +kernel) rfl rfl rfl (by decide +kernel) rfl rfl rfl (Nat.le_of_ble_eq_true rfl) di_X1_9 hP hD hS (fun H1p locs1 hP hD hS => ?_)
  have hP : va_P D cls_ [(h0, .inr (1, [.ref q1, .null, .int 0, .int 0, .int 0, .int 0, .int 0])), (q1, .inl (tA 0, 120, .inl (fun _ => nI 0)))] H1p := hP
  have hD : va_D A [(h0, .inr (1, [.ref q1, .null, .int 0, .int 0, .int 0, .int 0, .int 0])), (q1, .inl (tA 0, 120, .inl (fun _ => nI 0)))] := hD
  refine lv_aload_n hx hb di_X1_12 rfl (lv_at hl 0 rfl) ?_
  refine lv_sipush (v := 160) hx hb di_X1_13 (by decide) ?_
  refine n_arr C (n := 160) (N := 160) (by decide) (by decide) (Nat.le_of_ble_eq_true rfl) (Nat.le_of_ble_eq_true rfl) (Nat.le_of_ble_eq_true rfl) di_X1_16 hP hD hS (fun q2 H2 hP hD hS => ?_)
  have hP : va_P D cls_ [(h0, .inr (1, [.ref q1, .null, .int 0, .int 0, .int 0, .int 0, .int 0])), (q1, .inl (tA 0, 120, .inl (fun _ => nI 0))), (q2, .inl (tA 0, 160, .inl (fun _ => nI 0)))] H2 := hP
  have hD : va_D A [(h0, .inr (1, [.ref q1, .null, .int 0, .int 0, .int 0, .int 0, .int 0])), (q1, .inl (tA 0, 120, .inl (fun _ => nI 0))), (q2, .inl (tA 0, 160, .inl (fun _ => nI 0)))] := hD
  refine n_put C hin (idx := 15) (ci := 1) (k := 1) (q0 := 0) (ty := .array .int) (by decide +kernel) rfl rfl rfl (by decide +kernel) rfl rfl rfl (Nat.le_of_ble_eq_true rfl) di_X1_18 hP hD hS (fun H2p locs2 hP hD hS => ?_)
  have hP : va_P D cls_ [(h0, .inr (1, [.ref q1, .ref q2, .int 0, .int 0, .int 0, .int 0, .int 0])), (q1, .inl (tA 0, 120, .inl (fun _ => nI 0))), (q2, .inl (tA 0, 160, .inl (fun _ => nI 0)))] H2p := hP
  have hD : va_D A [(h0, .inr (1, [.ref q1, .ref q2, .int 0, .int 0, .int 0, .int 0, .int 0])), (q1, .inl (tA 0, 120, .inl (fun _ => nI 0))), (q2, .inl (tA 0, 160, .inl (fun _ => nI 0)))] := hD
  exact hend 21 _ _ ls (mRo [h0, q1, q2]) (memT (mkT 0 0 0 0 0 (fun _ => nI 0) (fun _ => nI 0))) di_X1_21 rfl ⟨_, rfl, nI_0.symm⟩ hP hD hS
def z_X3 : va_E := .inr (3, [.null, .null, .null, .int 0, .null, .int 0, .int 0, .int 0, .null, .int 0, .int 0, .int 0, .int 0])
set_option maxHeartbeats 4000000 in
set_option maxRecDepth 100000 in
theorem N_X3 : mNw 1 m_X3_init z_X3 5 4819 (fun μ => ∃ f : ModS, μ = memM f ∧ RM (gM_nw f) (sBg 4) ∧ gM_ss f = nI 0 ∧ gM_ty f = nI 0 ∧ gM_bd f = nI 0 ∧ gM_no f = nI 0 ∧ gM_fu f = nI 0) := by
  refine mNw.intro (by decide +kernel) rfl rfl (Nat.le_refl _) ?_
  intro p l e s m args below meth c D tA A h0 ls Q C hin hP hD hl hend
  obtain ⟨hx, hb, hml, hown, hts, hK, hAO, hA⟩ := id C
  have hS : va_S A s.heap s.heap [] := va_S.rf
  have hP : va_P D cls_ [(h0, .inr (3, [.null, .null, .null, .int 0, .null, .int 0, .int 0, .int 0, .null, .int 0, .int 0, .int 0, .int 0]))] s.heap := hP
  have hD : va_D A [(h0, .inr (3, [.null, .null, .null, .int 0, .null, .int 0, .int 0, .int 0, .null, .int 0, .int 0, .int 0, .int 0]))] := hD
  have hl : lv_has ls 1 [(0, .ref h0)] := hl
  refine lv_aload_n hx hb di_X3_0 rfl (lv_at hl 0 rfl) ?_
  refine W.objInit hx hb hown (hts _ oi_X3) (hts _ oi_i) (hts _ oi_c) rfl (by rw [hml]; exact hl.1) rfl di_X3_1 (Nat.le_of_ble_eq_true rfl) (Nat.le_of_ble_eq_true rfl) ?_
  refine W.eq (g2 := F0 m 4 ls []) rfl ?_
  refine lv_aload_n hx hb di_X3_4 rfl (lv_at hl 0 rfl) ?_
  refine lv_sipush (v := 637) hx hb di_X3_5 (by decide) ?_
  refine n_arr C (n := 637) (N := 637) (by decide) (by decide) (Nat.le_of_ble_eq_true rfl) (Nat.le_of_ble_eq_true rfl) (Nat.le_of_ble_eq_true rfl) di_X3_8 hP hD hS (fun q1 H1 hP hD hS => ?_)
  have hP : va_P D cls_ [(h0, .inr (3, [.null, .null, .null, .int 0, .null, .int 0, .int 0, .int 0, .null, .int 0, .int 0, .int 0, .int 0])), (q1, .inl (tA 0, 637, .inl (fun _ => nI 0)))] H1 := hP
  have hD : va_D A [(h0, .inr (3, [.null, .null, .null, .int 0, .null, .int 0, .int 0, .int 0, .null, .int 0, .int 0, .int 0, .int 0])), (q1, .inl (tA 0, 637, .inl (fun _ => nI 0)))] := hD
  refine n_put C hin (idx := 7) (ci := 3) (k := 0) (q0 := 0) (ty := .array .int) (by decide +kernel) rfl rfl rfl (by decide +kernel) rfl rfl rfl (Nat.le_of_ble_eq_true rfl) di_X3_10 hP hD hS (fun H1p locs1 hP hD hS => ?_)
  have hP : va_P D cls_ [(h0, .inr (3, [.ref q1, .null, .null, .int 0, .null, .int 0, .int 0, .int 0, .null, .int 0, .int 0, .int 0, .int 0])), (q1, .inl (tA 0, 637, .inl (fun _ => nI 0)))] H1p := hP
  have hD : va_D A [(h0, .inr (3, [.ref q1, .null, .null, .int 0, .null, .int 0, .int 0, .int 0, .null, .int 0, .int 0, .int 0, .int 0])), (q1, .inl (tA 0, 637, .inl (fun _ => nI 0)))] := hD
  refine lv_aload_n hx hb di_X3_13 rfl (lv_at hl 0 rfl) ?_
  refine lv_sipush (v := 637) hx hb di_X3_14 (by decide) ?_
  refine n_arr C (n := 637) (N := 637) (by decide) (by decide) (Nat.le_of_ble_eq_true rfl) (Nat.le_of_ble_eq_true rfl) (Nat.le_of_ble_eq_true rfl) di_X3_17 hP hD hS (fun q2 H2 hP hD hS => ?_)
  have hP : va_P D cls_ [(h0, .inr (3, [.ref q1, .null, .null, .int 0, .null, .int 0, .int 0, .int 0, .null, .int 0, .int 0, .int 0, .int 0])), (q1, .inl (tA 0, 637, .inl (fun _ => nI 0))), (q2, .inl (tA 0, 637, .inl (fun _ => nI 0)))] H2 := hP
  have hD : va_D A [(h0, .inr (3, [.ref q1, .null, .null, .int 0, .null, .int 0, .int 0, .int 0, .null, .int 0, .int 0, .int 0, .int 0])), (q1, .inl (tA 0, 637, .inl (fun _ => nI 0))), (q2, .inl (tA 0, 637, .inl (fun _ => nI 0)))] := hD
  refine n_put C hin (idx := 13) (ci := 3) (k := 1) (q0 := 0) (ty := .array .int) (by decide +kernel) rfl rfl rfl (by decide +kernel) rfl rfl rfl (Nat.le_of_ble_eq_true rfl) di_X3_19 hP hD hS (fun H2p locs2 hP hD hS => ?_)
  have hP : va_P D cls_ [(h0, .inr (3, [.ref q1, .ref q2, .null, .int 0, .null, .int 0, .int 0, .int 0, .null, .int 0, .int 0, .int 0, .int 0])), (q1, .inl (tA 0, 637, .inl (fun _ => nI 0))), (q2, .inl (tA 0, 637, .inl (fun _ => nI 0)))] H2p := hP
  have hD : va_D A [(h0, .inr (3, [.ref q1, .ref q2, .null, .int 0, .null, .int 0, .int 0, .int 0, .null, .int 0, .int 0, .int 0, .int 0])), (q1, .inl (tA 0, 637, .inl (fun _ => nI 0))), (q2, .inl (tA 0, 637, .inl (fun _ => nI 0)))] := hD
  refine lv_aload_n hx hb di_X3_22 rfl (lv_at hl 0 rfl) ?_
  refine lv_sipush (v := 3185) hx hb di_X3_23 (by decide) ?_
  refine n_arr C (n := 3185) (N := 3185) (by decide) (by decide) (Nat.le_of_ble_eq_true rfl) (Nat.le_of_ble_eq_true rfl) (Nat.le_of_ble_eq_true rfl) di_X3_26 hP hD hS (fun q3 H3 hP hD hS => ?_)
  have hP : va_P D cls_ [(h0, .inr (3, [.ref q1, .ref q2, .null, .int 0, .null, .int 0, .int 0, .int 0, .null, .int 0, .int 0, .int 0, .int 0])), (q1, .inl (tA 0, 637, .inl (fun _ => nI 0))), (q2, .inl (tA 0, 637, .inl (fun _ => nI 0))), (q3, .inl (tA 0, 3185, .inl (fun _ => nI 0)))] H3 := hP
  have hD : va_D A [(h0, .inr (3, [.ref q1, .ref q2, .null, .int 0, .null, .int 0, .int 0, .int 0, .null, .int 0, .int 0, .int 0, .int 0])), (q1, .inl (tA 0, 637, .inl (fun _ => nI 0))), (q2, .inl (tA 0, 637, .inl (fun _ => nI 0))), (q3, .inl (tA 0, 3185, .inl (fun _ => nI 0)))] := hD
  refine n_put C hin (idx := 16) (ci := 3) (k := 2) (q0 := 0) (ty := .array .int) (by decide +kernel) rfl rfl rfl (by decide +kernel) rfl rfl rfl (Nat.le_of_ble_eq_true rfl) di_X3_28 hP hD hS (fun H3p locs3 hP hD hS => ?_)
  have hP : va_P D cls_ [(h0, .inr (3, [.ref q1, .ref q2, .ref q3, .int 0, .null, .int 0, .int 0, .int 0, .null, .int 0, .int 0, .int 0, .int 0])), (q1, .inl (tA 0, 637, .inl (fun _ => nI 0))), (q2, .inl (tA 0, 637, .inl (fun _ => nI 0))), (q3, .inl (tA 0, 3185, .inl (fun _ => nI 0)))] H3p := hP
  have hD : va_D A [(h0, .inr (3, [.ref q1, .ref q2, .ref q3, .int 0, .null, .int 0, .int 0, .int 0, .null, .int 0, .int 0, .int 0, .int 0])), (q1, .inl (tA 0, 637, .inl (fun _ => nI 0))), (q2, .inl (tA 0, 637, .inl (fun _ => nI 0))), (q3, .inl (tA 0, 3185, .inl (fun _ => nI 0)))] := hD
  refine lv_aload_n hx hb di_X3_31 rfl (lv_at hl 0 rfl) ?_
  refine lv_bipush (v := 120) hx hb di_X3_32 (by decide) ?_
  refine n_arr C (n := 120) (N := 120) (by decide) (by decide) (Nat.le_of_ble_eq_true rfl) (Nat.le_of_ble_eq_true rfl) (Nat.le_of_ble_eq_true rfl) di_X3_34 hP hD hS (fun q4 H4 hP hD hS => ?_)
  have hP : va_P D cls_ [(h0, .inr (3, [.ref q1, .ref q2, .ref q3, .int 0, .null, .int 0, .int 0, .int 0, .null, .int 0, .int 0, .int 0, .int 0])), (q1, .inl (tA 0, 637, .inl (fun _ => nI 0))), (q2, .inl (tA 0, 637, .inl (fun _ => nI 0))), (q3, .inl (tA 0, 3185, .inl (fun _ => nI 0))), (q4, .inl (tA 0, 120, .inl (fun _ => nI 0)))] H4 := hP
  have hD : va_D A [(h0, .inr (3, [.ref q1, .ref q2, .ref q3, .int 0, .null, .int 0, .int 0, .int 0, .null, .int 0, .int 0, .int 0, .int 0])), (q1, .inl (tA 0, 637, .inl (fun _ => nI 0))), (q2, .inl (tA 0, 637, .inl (fun _ => nI 0))), (q3, .inl (tA 0, 3185, .inl (fun _ => nI 0))), (q4, .inl (tA 0, 120, .inl (fun _ => nI 0)))] := hD
  refine n_put C hin (idx := 19) (ci := 3) (k := 4) (q0 := 0) (ty := .array .int) (by decide +kernel) rfl rfl rfl (by decide +kernel) rfl rfl rfl (Nat.le_of_ble_eq_true rfl) di_X3_36 hP hD hS (fun H4p locs4 hP hD hS => ?_)
  have hP : va_P D cls_ [(h0, .inr (3, [.ref q1, .ref q2, .ref q3, .int 0, .ref q4, .int 0, .int 0, .int 0, .null, .int 0, .int 0, .int 0, .int 0])), (q1, .inl (tA 0, 637, .inl (fun _ => nI 0))), (q2, .inl (tA 0, 637, .inl (fun _ => nI 0))), (q3, .inl (tA 0, 3185, .inl (fun _ => nI 0))), (q4, .inl (tA 0, 120, .inl (fun _ => nI 0)))] H4p := hP
  have hD : va_D A [(h0, .inr (3, [.ref q1, .ref q2, .ref q3, .int 0, .ref q4, .int 0, .int 0, .int 0, .null, .int 0, .int 0, .int 0, .int 0])), (q1, .inl (tA 0, 637, .inl (fun _ => nI 0))), (q2, .inl (tA 0, 637, .inl (fun _ => nI 0))), (q3, .inl (tA 0, 3185, .inl (fun _ => nI 0))), (q4, .inl (tA 0, 120, .inl (fun _ => nI 0)))] := hD
  refine lv_aload_n hx hb di_X3_39 rfl (lv_at hl 0 rfl) ?_
  refine lv_sipush (v := 240) hx hb di_X3_40 (by decide) ?_
  refine n_arr C (n := 240) (N := 240) (by decide) (by decide) (Nat.le_of_ble_eq_true rfl) (Nat.le_of_ble_eq_true rfl) (Nat.le_of_ble_eq_true rfl) di_X3_43 hP hD hS (fun q5 H5 hP hD hS => ?_)
  have hP : va_P D cls_ [(h0, .inr (3, [.ref q1, .ref q2, .ref q3, .int 0, .ref q4, .int 0, .int 0, .int 0, .null, .int 0, .int 0, .int 0, .int 0])), (q1, .inl (tA 0, 637, .inl (fun _ => nI 0))), (q2, .inl (tA 0, 637, .inl (fun _ => nI 0))), (q3, .inl (tA 0, 3185, .inl (fun _ => nI 0))), (q4, .inl (tA 0, 120, .inl (fun _ => nI 0))), (q5, .inl (tA 0, 240, .inl (fun _ => nI 0)))] H5 := hP
  have hD : va_D A [(h0, .inr (3, [.ref q1, .ref q2, .ref q3, .int 0, .ref q4, .int 0, .int 0, .int 0, .null, .int 0, .int 0, .int 0, .int 0])), (q1, .inl (tA 0, 637, .inl (fun _ => nI 0))), (q2, .inl (tA 0, 637, .inl (fun _ => nI 0))), (q3, .inl (tA 0, 3185, .inl (fun _ => nI 0))), (q4, .inl (tA 0, 120, .inl (fun _ => nI 0))), (q5, .inl (tA 0, 240, .inl (fun _ => nI 0)))] := hD
  refine n_put C hin (idx := 22) (ci := 3) (k := 8) (q0 := 0) (ty := .array .int) (by decide +kernel) rfl rfl rfl (by decide +kernel) rfl rfl rfl (Nat.le_of_ble_eq_true rfl) di_X3_45 hP hD hS (fun H5p locs5 hP hD hS => ?_)
  have hP : va_P D cls_ [(h0, .inr (3, [.ref q1, .ref q2, .ref q3, .int 0, .ref q4, .int 0, .int 0, .int 0, .ref q5, .int 0, .int 0, .int 0, .int 0])), (q1, .inl (tA 0, 637, .inl (fun _ => nI 0))), (q2, .inl (tA 0, 637, .inl (fun _ => nI 0))), (q3, .inl (tA 0, 3185, .inl (fun _ => nI 0))), (q4, .inl (tA 0, 120, .inl (fun _ => nI 0))), (q5, .inl (tA 0, 240, .inl (fun _ => nI 0)))] H5p := hP
  have hD : va_D A [(h0, .inr (3, [.ref q1, .ref q2, .ref q3, .int 0, .ref q4, .int 0, .int 0, .int 0, .ref q5, .int 0, .int 0, .int 0, .int 0])), (q1, .inl (tA 0, 637, .inl (fun _ => nI 0))), (q2, .inl (tA 0, 637, .inl (fun _ => nI 0))), (q3, .inl (tA 0, 3185, .inl (fun _ => nI 0))), (q4, .inl (tA 0, 120, .inl (fun _ => nI 0))), (q5, .inl (tA 0, 240, .inl (fun _ => nI 0)))] := hD
  obtain ⟨f1, f2, f3⟩ := Y_begins (k := 4) (mkM 0 0 0 0 0 0 0 0 (fun _ => nI 0) (fun _ => nI 0) (fun _ => nI 0) (fun _ => nI 0) (fun _ => nI 0))
  have E : mEv 1 m_X3_init none (48, mT T_X3_init 48, [some (.ref 0)], [], memM (mkM 0 0 0 0 0 0 0 0 (fun _ => nI 0) (fun _ => nI 0) (fun _ => nI 0) (fun _ => nI 0) (fun _ => nI 0))) none (memM (sNw (mkM 0 0 0 0 0 0 0 0 (fun _ => nI 0) (fun _ => nI 0) (fun _ => nI 0) (fun _ => nI 0) (fun _ => nI 0)) f1)) := by
    refine mEv.stp 2 (S' := (50, _, [some (.ref 0)], [.int (nI 4), .ref 0], memM (mkM 0 0 0 0 0 0 0 0 (fun _ => nI 0) (fun _ => nI 0) (fun _ => nI 0) (fun _ => nI 0) (fun _ => nI 0)))) rfl ?_
    exact mEv.callV (d := 0) (As := [.int (nI 4)]) (st := []) (h := 0) (r := none) (μ1 := memM (sNw (mkM 0 0 0 0 0 0 0 0 (fun _ => nI 0) (fun _ => nI 0) (fun _ => nI 0) (fun _ => nI 0) (fun _ => nI 0)) f1)) lk_X3_25 rfl rfl rfl rfl rfl (A_X3_begins (d := 0) f2) (mEv.retv rfl)
  refine E p l e _ s m args below meth c D (mRo [h0, q1, q2, q3, q4, q5]) tA A s.heap 5 4819 Q ⟨hx, hb, hml, hown, hts, hK, hA, Nat.le_of_ble_eq_true rfl, Nat.le_of_ble_eq_true rfl, ok_X3_init, fun _ _ h => by cases h⟩ (Nat.le_refl _) (Nat.le_refl _) (fun pc H locs ls1 hr hP hD hS => ?_) (ok_X3_init.at 48) _ _ ls hP hD hS ⟨hl, rfl⟩
  exact hend pc H locs ls1 (mRo [h0, q1, q2, q3, q4, q5]) (memM (sNw (mkM 0 0 0 0 0 0 0 0 (fun _ => nI 0) (fun _ => nI 0) (fun _ => nI 0) (fun _ => nI 0) (fun _ => nI 0)) f1)) hr.1 rfl ⟨_, rfl, f3, nI_0.symm, nI_0.symm, nI_0.symm, nI_0.symm, nI_0.symm⟩ hP hD hS
