theorem mWo_9 {σ : Nat → Nat} {tA : Nat → ClassId} {k k' : Nat} {n : NetS} {b : MMe} (h : k' = k + 9) : mWo σ tA k (memNb k n ++ b) = mWo σ tA k (memNb k n) ++ mWo σ tA k' b := by
  subst h
  exact mWo_app _ _ _
/-- the whole object's cells, part by part -/
theorem wR {σ g1 g2 g3 g4 g5 g6 g7 g8 : Nat → Nat} {tA : Nat → ClassId} {h0 q : Nat} {f : Nat → Option Nat} {r : RouS} (e0 : σ 0 = h0) (eq : σ 19 = q) (e1 : ∀ j, j < 9 → σ (1 + j) = g1 j) (e2 : ∀ j, j < 9 → σ (10 + j) = g2 j) (e3 : ∀ j, j < 9 → σ (20 + j) = g3 j) (e4 : ∀ j, j < 9 → σ (29 + j) = g4 j) (e5 : ∀ j, j < 9 → σ (38 + j) = g5 j) (e6 : ∀ j, j < 9 → σ (47 + j) = g6 j) (e7 : ∀ j, j < 9 → σ (56 + j) = g7 j) (e8 : ∀ j, j < 3 → σ (65 + j) = g8 j) (hf : ∀ k, (m_sts k).map σ = f k) : mW σ tA (memR r) = wX tA h0 (.inr (2, [.ref (g1 0), .ref (g2 0), .ref q, .ref (g8 0), .int (gR_sc r), .int (gR_ns r), .int (gR_bd r), .int (gR_no r), .int (gR_fu r)])) (mW g1 tA (memN (gR_now r))) (mW g2 tA (memN (gR_tri r))) q f (mW g3 tA (memN (gR_s0 r)) ++ (mW g4 tA (memN (gR_s1 r)) ++ (mW g5 tA (memN (gR_s2 r)) ++ (mW g6 tA (memN (gR_s3 r)) ++ (mW g7 tA (memN (gR_s4 r)) ++ mW g8 tA (memT (gR_txt r))))))) := by
  have hf2 : (fun k => (m_sts k).map σ) = f := funext hf
  rw [mW_o]
  unfold memR memRx
  show (σ 0, Sum.inr (2, [.ref (σ 1), .ref (σ 10), .ref (σ 19), .ref (σ 65), .int (gR_sc r), .int (gR_ns r), .int (gR_bd r), .int (gR_no r), .int (gR_fu r)])) :: mWo σ tA 1 (memNb 1 (gR_now r) ++ (memNb 10 (gR_tri r) ++ (.inl (1, 5, .inr (.inr (.inr (.inr m_sts)))) :: (memNb 20 (gR_s0 r) ++ (memNb 29 (gR_s1 r) ++ (memNb 38 (gR_s2 r) ++ (memNb 47 (gR_s3 r) ++ (memNb 56 (gR_s4 r) ++ memTb 65 (gR_txt r))))))))) = _
  rw [mWo_9 (k' := 10) rfl, mWo_9 (k' := 19) rfl]
  show (σ 0, Sum.inr (2, [.ref (σ 1), .ref (σ 10), .ref (σ 19), .ref (σ 65), .int (gR_sc r), .int (gR_ns r), .int (gR_bd r), .int (gR_no r), .int (gR_fu r)])) :: (mWo σ tA 1 (memNb 1 (gR_now r)) ++ (mWo σ tA 10 (memNb 10 (gR_tri r)) ++ ((σ 19, Sum.inl (tA 1, 5, .inr (.inr (.inr (.inr (fun k => (m_sts k).map σ)))))) :: mWo σ tA 20 (memNb 20 (gR_s0 r) ++ (memNb 29 (gR_s1 r) ++ (memNb 38 (gR_s2 r) ++ (memNb 47 (gR_s3 r) ++ (memNb 56 (gR_s4 r) ++ memTb 65 (gR_txt r)))))))) ) = _
  rw [mWo_9 (k' := 29) rfl, mWo_9 (k' := 38) rfl, mWo_9 (k' := 47) rfl, mWo_9 (k' := 56) rfl, mWo_9 (k' := 65) rfl, mWo_N e1, mWo_N e2, mWo_N e3, mWo_N e4, mWo_N e5, mWo_N e6, mWo_N e7, mWo_T e8, hf2, e0, eq, show σ 1 = g1 0 from e1 0 (by omega), show σ 10 = g2 0 from e2 0 (by omega), show σ 65 = g8 0 from e8 0 (by omega)]
  unfold wX
  rw [List.append_assoc]
def sRo (h0 q : Nat) (g1 g2 g3 g4 g5 g6 g7 g8 : Nat → Nat) : Nat → Nat := fun i => if i = 0 then h0 else if i < 10 then g1 (i - 1) else if i < 19 then g2 (i - 10) else if i = 19 then q else if i < 29 then g3 (i - 20) else if i < 38 then g4 (i - 29) else if i < 47 then g5 (i - 38) else if i < 56 then g6 (i - 47) else if i < 65 then g7 (i - 56) else g8 (i - 65)
theorem sRo_1 {h0 q : Nat} {g1 g2 g3 g4 g5 g6 g7 g8 : Nat → Nat} : ∀ j, j < 9 → sRo h0 q g1 g2 g3 g4 g5 g6 g7 g8 (1 + j) = g1 j := by
  intro j hj
  unfold sRo
  rw [if_neg (by omega), if_pos (by omega), show 1 + j - 1 = j by omega]
theorem sRo_2 {h0 q : Nat} {g1 g2 g3 g4 g5 g6 g7 g8 : Nat → Nat} : ∀ j, j < 9 → sRo h0 q g1 g2 g3 g4 g5 g6 g7 g8 (10 + j) = g2 j := by
  intro j hj
  unfold sRo
  rw [if_neg (by omega), if_neg (by omega), if_pos (by omega), show 10 + j - 10 = j by omega]
theorem sRo_3 {h0 q : Nat} {g1 g2 g3 g4 g5 g6 g7 g8 : Nat → Nat} : ∀ j, j < 9 → sRo h0 q g1 g2 g3 g4 g5 g6 g7 g8 (20 + j) = g3 j := by
  intro j hj
  unfold sRo
  rw [if_neg (by omega), if_neg (by omega), if_neg (by omega), if_neg (by omega), if_pos (by omega), show 20 + j - 20 = j by omega]
theorem sRo_4 {h0 q : Nat} {g1 g2 g3 g4 g5 g6 g7 g8 : Nat → Nat} : ∀ j, j < 9 → sRo h0 q g1 g2 g3 g4 g5 g6 g7 g8 (29 + j) = g4 j := by
  intro j hj
  unfold sRo
  rw [if_neg (by omega), if_neg (by omega), if_neg (by omega), if_neg (by omega), if_neg (by omega), if_pos (by omega), show 29 + j - 29 = j by omega]
theorem sRo_5 {h0 q : Nat} {g1 g2 g3 g4 g5 g6 g7 g8 : Nat → Nat} : ∀ j, j < 9 → sRo h0 q g1 g2 g3 g4 g5 g6 g7 g8 (38 + j) = g5 j := by
  intro j hj
  unfold sRo
  rw [if_neg (by omega), if_neg (by omega), if_neg (by omega), if_neg (by omega), if_neg (by omega), if_neg (by omega), if_pos (by omega), show 38 + j - 38 = j by omega]
theorem sRo_6 {h0 q : Nat} {g1 g2 g3 g4 g5 g6 g7 g8 : Nat → Nat} : ∀ j, j < 9 → sRo h0 q g1 g2 g3 g4 g5 g6 g7 g8 (47 + j) = g6 j := by
  intro j hj
  unfold sRo
  rw [if_neg (by omega), if_neg (by omega), if_neg (by omega), if_neg (by omega), if_neg (by omega), if_neg (by omega), if_neg (by omega), if_pos (by omega), show 47 + j - 47 = j by omega]
theorem sRo_7 {h0 q : Nat} {g1 g2 g3 g4 g5 g6 g7 g8 : Nat → Nat} : ∀ j, j < 9 → sRo h0 q g1 g2 g3 g4 g5 g6 g7 g8 (56 + j) = g7 j := by
  intro j hj
  unfold sRo
  rw [if_neg (by omega), if_neg (by omega), if_neg (by omega), if_neg (by omega), if_neg (by omega), if_neg (by omega), if_neg (by omega), if_neg (by omega), if_pos (by omega), show 56 + j - 56 = j by omega]
theorem sRo_8 {h0 q : Nat} {g1 g2 g3 g4 g5 g6 g7 g8 : Nat → Nat} : ∀ j, j < 3 → sRo h0 q g1 g2 g3 g4 g5 g6 g7 g8 (65 + j) = g8 j := by
  intro j hj
  unfold sRo
  rw [if_neg (by omega), if_neg (by omega), if_neg (by omega), if_neg (by omega), if_neg (by omega), if_neg (by omega), if_neg (by omega), if_neg (by omega), if_neg (by omega), show 65 + j - 65 = j by omega]
theorem sts_up {σ : Nat → Nat} {a b c d e : Nat} (h0 : σ 20 = a) (h1 : σ 29 = b) (h2 : σ 38 = c) (h3 : σ 47 = d) (h4 : σ 56 = e) : ∀ k, (m_sts k).map σ = va_up (va_up (va_up (va_up (va_up (fun _ => none) 0 (some a)) 1 (some b)) 2 (some c)) 3 (some d)) 4 (some e) k := by
  intro k
  unfold m_sts
  by_cases k0 : k = 0
  · subst k0; rw [if_pos rfl, va_up_ne _ _ (by omega), va_up_ne _ _ (by omega), va_up_ne _ _ (by omega), va_up_ne _ _ (by omega), va_up_self, ← h0]; rfl
  by_cases k1 : k = 1
  · subst k1; rw [if_neg k0, if_pos rfl, va_up_ne _ _ (by omega), va_up_ne _ _ (by omega), va_up_ne _ _ (by omega), va_up_self, ← h1]; rfl
  by_cases k2 : k = 2
  · subst k2; rw [if_neg k0, if_neg k1, if_pos rfl, va_up_ne _ _ (by omega), va_up_ne _ _ (by omega), va_up_self, ← h2]; rfl
  by_cases k3 : k = 3
  · subst k3; rw [if_neg k0, if_neg k1, if_neg k2, if_pos rfl, va_up_ne _ _ (by omega), va_up_self, ← h3]; rfl
  by_cases k4 : k = 4
  · subst k4; rw [if_neg k0, if_neg k1, if_neg k2, if_neg k3, if_pos rfl, va_up_self, ← h4]; rfl
  rw [if_neg k0, if_neg k1, if_neg k2, if_neg k3, if_neg k4, va_up_ne _ _ k4, va_up_ne _ _ k3, va_up_ne _ _ k2, va_up_ne _ _ k1, va_up_ne _ _ k0]
  rfl
def z_X2 : va_E := .inr (2, [.null, .null, .null, .null, .int 0, .int 0, .int 0, .int 0, .int 0])
set_option maxHeartbeats 8000000 in
set_option maxRecDepth 100000 in
theorem N_X2 : mNw 3 m_X2_init z_X2 67 5094 (fun μ => ∃ r : RouS, μ = memR r ∧ RC (gR_now r) (sBg 4) ∧ gR_sc r = nI 0 ∧ gR_ns r = nI 0 ∧ gR_bd r = nI 0 ∧ gR_no r = nI 0 ∧ gR_fu r = nI 0 ∧ gT_ln (gR_txt r) = nI 0) := by
  refine mNw.intro (by decide +kernel) rfl rfl (by decide) ?_
  intro p l e s m args below meth c D tA A h0 ls Q C hin hP hD hl hend
  obtain ⟨hx, hb, hml, hown, hts, hK, hAO, hA⟩ := id C
  have hS : va_S A s.heap s.heap [] := va_S.rf
  have hl : lv_has ls 2 [(0, .ref h0)] := hl
  refine lv_aload_n hx hb di_X2_0 rfl (lv_at hl 0 rfl) ?_
  refine W.objInit hx hb hown (hts _ oi_X2) (hts _ oi_i) (hts _ oi_c) rfl (by rw [hml]; exact hl.1) rfl di_X2_1 (Nat.le_of_ble_eq_true rfl) (Nat.le_of_ble_eq_true rfl) ?_
  refine W.eq (g2 := F0 m 4 ls []) rfl ?_
  refine lv_aload_n hx hb di_X2_4 rfl (lv_at hl 0 rfl) ?_
  refine n_new C (i1 := 7) (i2 := 9) (ci := 0) (d := 2) (mc := 8) (ms := 673) (k1 := 13) (N := m_X0_init) (ty := tyX0) rfl tyX0_ok (fs := [.int 0, .int 0, .int 0, .int 0, .int 0, .null, .null, .null, .null, .null, .null, .null, .null]) rfl ln_X2_0 N_X0 di_X2_5 di_X2_8 di_X2_9 hl.1 rfl (Nat.le_of_ble_eq_true rfl) (Nat.le_of_ble_eq_true rfl) (Nat.le_of_ble_eq_true rfl) (Nat.le_of_ble_eq_true rfl) hP hD hS (fun g1 μ1 H1 locs1 hPm hP hD hS => ?_)
  obtain ⟨n1, rfl, hR1⟩ := hPm
  have hP : va_P D cls_ ((h0, .inr (2, [.null, .null, .null, .null, .int 0, .int 0, .int 0, .int 0, .int 0])) :: mW g1 tA (memN n1)) H1 := hP
  have hD : va_D A ((h0, .inr (2, [.null, .null, .null, .null, .int 0, .int 0, .int 0, .int 0, .int 0])) :: mW g1 tA (memN n1)) := hD
  refine n_put C hin (idx := 10) (ci := 2) (k := 0) (q0 := 0) (ty := .object RX0) (by decide +kernel) rfl rfl rfl (by decide +kernel) rfl rfl rfl (Nat.le_of_ble_eq_true rfl) di_X2_12 hP hD hS (fun H2 locs2 hP hD hS => ?_)
  have hP : va_P D cls_ ((h0, .inr (2, [.ref (g1 0), .null, .null, .null, .int 0, .int 0, .int 0, .int 0, .int 0])) :: mW g1 tA (memN n1)) H2 := hP
  have hD : va_D A ((h0, .inr (2, [.ref (g1 0), .null, .null, .null, .int 0, .int 0, .int 0, .int 0, .int 0])) :: mW g1 tA (memN n1)) := hD
  refine lv_aload_n hx hb di_X2_15 rfl (lv_at hl 0 rfl) ?_
  refine n_new C (i1 := 7) (i2 := 9) (ci := 0) (d := 2) (mc := 8) (ms := 673) (k1 := 13) (N := m_X0_init) (ty := tyX0) rfl tyX0_ok (fs := [.int 0, .int 0, .int 0, .int 0, .int 0, .null, .null, .null, .null, .null, .null, .null, .null]) rfl ln_X2_0 N_X0 di_X2_16 di_X2_19 di_X2_20 hl.1 rfl (Nat.le_of_ble_eq_true rfl) (Nat.le_of_ble_eq_true rfl) (Nat.le_of_ble_eq_true rfl) (Nat.le_of_ble_eq_true rfl) hP hD hS (fun g2 μ2 H3 locs3 hPm hP hD hS => ?_)
  obtain ⟨n2, rfl, hR2⟩ := hPm
  have hP : va_P D cls_ ((h0, .inr (2, [.ref (g1 0), .null, .null, .null, .int 0, .int 0, .int 0, .int 0, .int 0])) :: (mW g1 tA (memN n1) ++ mW g2 tA (memN n2))) H3 := hP
  have hD : va_D A ((h0, .inr (2, [.ref (g1 0), .null, .null, .null, .int 0, .int 0, .int 0, .int 0, .int 0])) :: (mW g1 tA (memN n1) ++ mW g2 tA (memN n2))) := hD
  refine n_put C hin (idx := 16) (ci := 2) (k := 1) (q0 := 0) (ty := .object RX0) (by decide +kernel) rfl rfl rfl (by decide +kernel) rfl rfl rfl (Nat.le_of_ble_eq_true rfl) di_X2_23 hP hD hS (fun H4 locs4 hP hD hS => ?_)
  have hP : va_P D cls_ ((h0, .inr (2, [.ref (g1 0), .ref (g2 0), .null, .null, .int 0, .int 0, .int 0, .int 0, .int 0])) :: (mW g1 tA (memN n1) ++ mW g2 tA (memN n2))) H4 := hP
  have hD : va_D A ((h0, .inr (2, [.ref (g1 0), .ref (g2 0), .null, .null, .int 0, .int 0, .int 0, .int 0, .int 0])) :: (mW g1 tA (memN n1) ++ mW g2 tA (memN n2))) := hD
  refine lv_aload_n hx hb di_X2_26 rfl (lv_at hl 0 rfl) ?_
  refine lv_iconst (v := 5) hx hb di_X2_27 (by decide) ?_
  refine n_arq C (idx := 7) (n := 5) (N := 5) (m_at (i := 59) (by decide +kernel) rfl) (by decide) (by decide) (Nat.le_of_ble_eq_true rfl) (Nat.le_of_ble_eq_true rfl) (Nat.le_of_ble_eq_true rfl) di_X2_28 hP hD hS (fun q H5 hP hD hS => ?_)
  have hP : va_P D cls_ (wX tA h0 (.inr (2, [.ref (g1 0), .ref (g2 0), .null, .null, .int 0, .int 0, .int 0, .int 0, .int 0])) (mW g1 tA (memN n1)) (mW g2 tA (memN n2)) q (fun _ => none) []) H5 := hP
  have hD : va_D A (wX tA h0 (.inr (2, [.ref (g1 0), .ref (g2 0), .null, .null, .int 0, .int 0, .int 0, .int 0, .int 0])) (mW g1 tA (memN n1)) (mW g2 tA (memN n2)) q (fun _ => none) []) := hD
  refine n_put C hin (idx := 19) (ci := 2) (k := 2) (q0 := 0) (ty := .array (.object RX0)) (by decide +kernel) rfl rfl rfl (by decide +kernel) rfl rfl rfl (Nat.le_of_ble_eq_true rfl) di_X2_31 hP hD hS (fun H6 locs6 hP hD hS => ?_)
  have hP : va_P D cls_ (wX tA h0 (.inr (2, [.ref (g1 0), .ref (g2 0), .ref q, .null, .int 0, .int 0, .int 0, .int 0, .int 0])) (mW g1 tA (memN n1)) (mW g2 tA (memN n2)) q (fun _ => none) []) H6 := hP
  have hD : va_D A (wX tA h0 (.inr (2, [.ref (g1 0), .ref (g2 0), .ref q, .null, .int 0, .int 0, .int 0, .int 0, .int 0])) (mW g1 tA (memN n1)) (mW g2 tA (memN n2)) q (fun _ => none) []) := hD
  have hL1 : (mW g1 tA (memN n1)).length = 9 := mW_len
  have hL2 : (mW g2 tA (memN n2)).length = 9 := mW_len
  refine lv_iconst (v := nI 0) hx hb di_X2_34 (by decide) ?_
  refine lv_istore_n (lv' := [(1, .int (nI 0)), (0, .ref h0)]) hx hb di_X2_35 rfl hl (by decide) rfl (fun ls hl => ?_)
  refine x2_it C (i := 0) (by omega) hL1 hL2 (Nat.le_of_ble_eq_true rfl) (Nat.le_of_ble_eq_true rfl) hP hD hS hl (fun g3 n3 H7 locs7 ls hP hD hS hl hR3 => ?_)
  refine x2_it C (i := 1) (by omega) hL1 hL2 (Nat.le_of_ble_eq_true rfl) (Nat.le_of_ble_eq_true rfl) hP hD hS hl (fun g4 n4 H8 locs8 ls hP hD hS hl hR4 => ?_)
  refine x2_it C (i := 2) (by omega) hL1 hL2 (Nat.le_of_ble_eq_true rfl) (Nat.le_of_ble_eq_true rfl) hP hD hS hl (fun g5 n5 H9 locs9 ls hP hD hS hl hR5 => ?_)
  refine x2_it C (i := 3) (by omega) hL1 hL2 (Nat.le_of_ble_eq_true rfl) (Nat.le_of_ble_eq_true rfl) hP hD hS hl (fun g6 n6 H10 locs10 ls hP hD hS hl hR6 => ?_)
  refine x2_it C (i := 4) (by omega) hL1 hL2 (Nat.le_of_ble_eq_true rfl) (Nat.le_of_ble_eq_true rfl) hP hD hS hl (fun g7 n7 H11 locs11 ls hP hD hS hl hR7 => ?_)
  refine lv_iload_n hx hb di_X2_36 rfl (lv_at hl 0 rfl) ?_
  refine lv_iconst (v := nI 5) hx hb di_X2_37 (by decide) ?_
  refine lv_icmp_ge (tgt := 60) hx hb di_X2_38 (by decide) (fun c1 => ?_) (fun c1 => ?_)
  rotate_left
  · exact absurd (by rw [q_le (by omega) (by omega)]; omega) c1
  refine lv_aload_n hx hb di_X2_60 rfl (lv_at hl 1 rfl) ?_
  refine n_new C (i1 := 23) (i2 := 25) (ci := 1) (d := 1) (mc := 2) (ms := 280) (k1 := 7) (N := m_X1_init) (ty := tyX1) rfl tyX1_ok (fs := [.null, .null, .int 0, .int 0, .int 0, .int 0, .int 0]) rfl ln_X2_1 N_X1 di_X2_61 di_X2_64 di_X2_65 hl.1 rfl (Nat.le_of_ble_eq_true rfl) (Nat.le_of_ble_eq_true rfl) (Nat.le_of_ble_eq_true rfl) (Nat.le_of_ble_eq_true rfl) hP hD hS (fun g8 μ8 H12 locs12 hPm hP hD hS => ?_)
  obtain ⟨t, rfl, ht⟩ := hPm
  rw [wX_app] at hP hD
  refine n_put C hin (idx := 26) (ci := 2) (k := 3) (q0 := 0) (ty := .object RX1) (by decide +kernel) rfl rfl rfl (by decide +kernel) rfl rfl rfl (Nat.le_of_ble_eq_true rfl) di_X2_68 hP hD hS (fun H13 locs13 hP hD hS => ?_)
  rw [wX_s0] at hP hD
  simp only [List.nil_append, List.append_assoc] at hP hD
  have hw := wR (σ := (sRo h0 q g1 g2 g3 g4 g5 g6 g7 g8)) (g1 := g1) (g2 := g2) (g3 := g3) (g4 := g4) (g5 := g5) (g6 := g6) (g7 := g7) (g8 := g8) (tA := tA) (h0 := h0) (q := q) (r := (mkR 0 0 0 0 0 n1 n2 n3 n4 n5 n6 n7 t)) rfl rfl (sRo_1 (g1 := g1)) (sRo_2 (g2 := g2)) (sRo_3 (g3 := g3)) (sRo_4 (g4 := g4)) (sRo_5 (g5 := g5)) (sRo_6 (g6 := g6)) (sRo_7 (g7 := g7)) (sRo_8 (g8 := g8)) (sts_up rfl rfl rfl rfl rfl)
  refine hend 71 H13 locs13 ls (sRo h0 q g1 g2 g3 g4 g5 g6 g7 g8) (memR (mkR 0 0 0 0 0 n1 n2 n3 n4 n5 n6 n7 t)) di_X2_71 rfl ⟨_, rfl, hR1, nI_0.symm, nI_0.symm, nI_0.symm, nI_0.symm, nI_0.symm, ht⟩ ?_ ?_ hS
  · rw [hw]; exact hP
  · rw [hw]; exact hD
