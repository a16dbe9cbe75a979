/-! the class's net: asking for a call -/
theorem NV_ne {t : Nat} (h : t < 4294967295) : t ≠ NV := Nat.ne_of_lt h
theorem sCt_n {N : Nat → Nat} {w c j : Nat} (h : j ≠ 113 + 5 * c + w) : sCt w c N j = N j := uN_n h
theorem sAd_n {N : Nat → Nat} {a b t h j : Nat} (h4 : j ≠ 4) (hj : j < 317 + 4 * N 4 ∨ 317 + 4 * N 4 + 4 ≤ j) : sAd a b t h N j = N j := by
  unfold sAd
  rw [uN_n (by omega), uN_n (by omega), uN_n (by omega), uN_n (by omega), uN_n h4]
theorem sAd_4 {N : Nat → Nat} {a b t h : Nat} : sAd a b t h N 4 = N 4 + 1 := by
  unfold sAd
  rw [uN_n (by omega), uN_n (by omega), uN_n (by omega), uN_n (by omega), uN_s]
theorem sAd_a {N : Nat → Nat} {a b t h : Nat} : sAd a b t h N (317 + 4 * N 4) = a := by
  unfold sAd
  rw [uN_n (by omega), uN_n (by omega), uN_n (by omega), uN_s]
theorem sAd_b {N : Nat → Nat} {a b t h : Nat} : sAd a b t h N (317 + 4 * N 4 + 1) = b := by
  unfold sAd
  rw [uN_n (by omega), uN_n (by omega), show 317 + 4 * N 4 + 1 = 317 + (4 * N 4 + 1) from rfl, uN_s]
theorem sAd_t {N : Nat → Nat} {a b t h : Nat} : sAd a b t h N (317 + 4 * N 4 + 2) = t := by
  unfold sAd
  rw [uN_n (by omega), show 317 + 4 * N 4 + 2 = 317 + (4 * N 4 + 2) from rfl, uN_s]
theorem sAd_h {N : Nat → Nat} {a b t h : Nat} : sAd a b t h N (317 + 4 * N 4 + 3) = h := by
  unfold sAd
  rw [show 317 + 4 * N 4 + 3 = 317 + (4 * N 4 + 3) from rfl, uN_s]
/-- whether a call (a, b, t) holds link c -/
def hl3 (a b t c : Nat) : Bool := if t = NV then decide (lk a b = c) else decide (lk a t = c) || decide (lk t b = c)
theorem hl3_eq {N : Nat → Nat} {c k : Nat} : (cS N c k || cO N c k) = hl3 (N (317 + 4 * k)) (N (317 + 4 * k + 1)) (N (317 + 4 * k + 2)) c := by
  unfold cS cO hl3
  by_cases h : N (317 + 4 * k + 2) = NV
  · simp [h]
  · simp [h]
theorem hC_s {N : Nat → Nat} {c m : Nat} : hC N c (m + 1) = hC N c m + if hl3 (N (317 + 4 * m)) (N (317 + 4 * m + 1)) (N (317 + 4 * m + 2)) c = true then 1 else 0 := by
  show hC N c m + _ = _
  rw [hl3_eq]
def hdU (a b t : Nat) (v : Int32) (g : Nat → Int32) : Nat → Int32 := if t = NV then upd g (lk a b) (g (lk a b) + v) else upd (upd g (lk a t) (g (lk a t) + v)) (lk t b) (upd g (lk a t) (g (lk a t) + v) (lk t b) + v)
theorem lk_ne {a b t : Nat} (ha : a < 6) (hb : b < 6) (ht : t < 6) (h1 : a ≠ b) (h2 : t ≠ a) (h3 : t ≠ b) : lk a t ≠ lk t b := by
  unfold lk
  split <;> split <;> omega
theorem hdU_add {a b t : Nat} {g : Nat → Int32} {H : Nat → Nat} (ha : a < 6) (hb : b < 6) (hab : a ≠ b) (ht : t = NV ∨ (t < 6 ∧ t ≠ a ∧ t ≠ b)) (h : ∀ c, c < 36 → g c = nI (H c)) : ∀ c, c < 36 → hdU a b t (nI 1) g c = nI (H c + if hl3 a b t c = true then 1 else 0) := by
  intro c hc
  unfold hdU hl3
  rcases ht with ht | ⟨h1, h2, h3⟩
  · rw [if_pos ht, if_pos ht]
    unfold upd
    by_cases e : c = lk a b
    · rw [if_pos e, ← e, h c hc, q_add, if_pos (by simp)]
    · rw [if_neg e, h c hc, if_neg (by simpa using fun q => e q.symm)]
      rfl
  · have hn : t ≠ NV := NV_ne (by omega)
    have hl := lk_ne ha hb h1 hab h2 h3
    rw [if_neg hn, if_neg hn]
    unfold upd
    rw [if_neg (show ¬ lk t b = lk a t from fun q => hl q.symm)]
    by_cases e1 : c = lk t b
    · rw [if_pos e1, ← e1, h c hc, q_add, if_pos (by simp)]
    · rw [if_neg e1]
      by_cases e2 : c = lk a t
      · rw [if_pos e2, ← e2, h c hc, q_add, if_pos (by simp)]
      · rw [if_neg e2, h c hc, if_neg (by
          simp only [Bool.or_eq_true, decide_eq_true_eq]
          rintro (q | q)
          · exact e2 q.symm
          · exact e1 q.symm)]
        rfl
theorem hdU_sub {a b t : Nat} {g : Nat → Int32} {H : Nat → Nat} (ha : a < 6) (hb : b < 6) (hab : a ≠ b) (ht : t = NV ∨ (t < 6 ∧ t ≠ a ∧ t ≠ b)) (h : ∀ c, c < 36 → g c = nI (H c + if hl3 a b t c = true then 1 else 0)) : ∀ c, c < 36 → hdU a b t (nI 4294967295) g c = nI (H c) := by
  intro c hc
  have hlt := lk_lt ha hb
  unfold hdU
  rcases ht with ht | ⟨h1, h2, h3⟩
  · have h0 := h c hc
    unfold hl3 at h0
    rw [if_pos ht] at h0
    rw [if_pos ht]
    unfold upd
    by_cases e : c = lk a b
    · rw [if_pos e, ← e, h0, if_pos (by simpa using e.symm)]
      exact q_dec
    · rw [if_neg e, h0, if_neg (by simpa using fun q => e q.symm)]
      rfl
  · have hn : t ≠ NV := NV_ne (by omega)
    have hl := lk_ne ha hb h1 hab h2 h3
    have h0 := h c hc
    unfold hl3 at h0
    rw [if_neg hn] at h0
    rw [if_neg hn]
    unfold upd
    rw [if_neg (show ¬ lk t b = lk a t from fun q => hl q.symm)]
    by_cases e1 : c = lk t b
    · rw [if_pos e1, ← e1, h0, if_pos (by simp [e1])]
      exact q_dec
    · rw [if_neg e1]
      by_cases e2 : c = lk a t
      · rw [if_pos e2, ← e2, h0, if_pos (by simp [e2])]
        exact q_dec
      · rw [if_neg e2, h0, if_neg (by
          simp only [Bool.or_eq_true, decide_eq_true_eq]
          rintro (q | q)
          · exact e2 q.symm
          · exact e1 q.symm)]
        rfl
section
variable {B : Nat} {N : Nat → Nat} {n : NetS}
/-- the net with another row of held wires -/
abbrev setH (n : NetS) (g : Nat → Int32) : NetS := mkN (gN_tc n) (gN_hb n) (gN_x n) (gN_hg n) (gN_cc n) (gN_w n) (gN_r n) g (gN_st n) (gN_ct n) (gN_tt n) (gN_ld n) (gN_ca n)
theorem X_hold {k a b t : Nat} {v : Int32} (hk : k < 80) (ha : a < 6) (hb : b < 6) (ht : t = NV ∨ t < 6) (e0 : gN_ca n (4 * k) = nI a) (e1 : gN_ca n (4 * k + 1) = nI b) (e2 : gN_ca n (4 * k + 2) = nI t) : F_X0_hold (nI (4 * k)) v n = some (setH n (hdU a b t v (gN_hd n))) := by
  unfold F_X0_hold hdU
  rw [q_add, q_add, q_add, q_gI (show 4 * k + 0 < 320 by omega) (by omega), q_gI (show 4 * k + 1 < 320 by omega) (by omega), q_gI (show 4 * k + 2 < 320 by omega) (by omega), q_cl (by omega), q_cl (by omega), q_cl (by omega), show 4 * k + 0 = 4 * k from rfl, e0, e1, e2, q_n1]
  have hl := lk_lt ha hb
  rcases ht with ht | ht
  · rw [i_neF ht, if_pos ht, X_link ha hb, Option.bind_some, q_gI hl (by omega), q_gI hl (by omega), q_cl (by omega)]
  · have h1 := lk_lt ha ht
    have h2 := lk_lt ht hb
    rw [i_neT (by omega) (by omega) (by omega), if_neg (NV_ne (by omega)), X_link ha ht, Option.bind_some, q_gI h1 (by omega), q_gI h1 (by omega), X_link ht hb, Option.bind_some, q_gI h2 (by omega), q_gI h2 (by omega), q_cl (by omega), q_cl (by omega)]
theorem RC.ct (hR : RC n N) {w c : Nat} (hw : w < 5) (hc : c < 36) : ∃ n', F_X0_count (nI w) (nI c) n = some n' ∧ RC n' (sCt w c N) := by
  obtain ⟨r1, r2, r3, r4, r5, r6, r7, r8, r9, r10, r11, r12, r13⟩ := hR
  unfold F_X0_count
  rw [q_mul, q_add, q_gI hw (by omega), q_gI hw (by omega), q_gI (show w * 36 + c < 180 by omega) (by omega), q_gI (show w * 36 + c < 180 by omega) (by omega), q_cl (by omega), q_cl (by omega), Nat.mul_comm w 36, r9 w c hw hc, r13 w hw, q_add, q_add]
  have h4 : sCt w c N 4 = N 4 := sCt_n (by omega)
  refine ⟨_, rfl, r1.trans (congrArg nI (sCt_n (by omega)).symm), r2.trans (congrArg nI (sCt_n (by omega)).symm), r3.trans (congrArg nI (sCt_n (by omega)).symm), r4.trans (congrArg nI (sCt_n (by omega)).symm), r5.trans (congrArg nI h4.symm), r6.off (by omega), r7.off (by omega), r8.off (by omega), ?_, r10.off (by omega), ?_, ?_, ?_⟩
  · intro w' c' hw' hc'
    show upd (gN_ct n) (36 * w + c) _ (36 * w' + c') = _
    unfold upd
    by_cases e : 36 * w' + c' = 36 * w + c
    · obtain ⟨rfl, rfl⟩ : w' = w ∧ c' = c := by omega
      rw [if_pos rfl]
      unfold sCt
      rw [uN_s]
    · rw [if_neg e, sCt_n (by omega)]
      exact r9 w' c' hw' hc'
  · rw [h4]; exact r11.off (by omega)
  · intro c' hc'
    rw [h4, hC_eq (fun j hj => sCt_n (by omega))]
    exact r12 c' hc'
  · intro w' hw'
    show upd (gN_tt n) w _ w' = _
    unfold upd
    by_cases e : w' = w
    · subst e
      rw [if_pos rfl]
      unfold sCt
      rw [sC_inc hw hc]
    · rw [if_neg e, sC_eq (fun i hi => sCt_n (by omega))]
      exact r13 w' hw'
theorem l_x {x : Nat} (hx : x < 2147483648) : Int64.toInt32 ((((Int32.toInt64 (nI x)) * (lN 1103515245)) + (lN 12345)) - (((Int32.toInt64 (nI x)) * (lN 1103515245)) + (lN 12345)) / (lN 2147483648) * (lN 2147483648)) = nI (sX x) := by
  rw [nI_l (by omega), lN_mul, lN_add, pk_lRem (by omega) (by omega) (by omega), lN_i]
  rfl
theorem RC.x (hR : RC n N) {y : Nat} : RC (mkN (gN_tc n) (gN_hb n) (nI y) (gN_hg n) (gN_cc n) (gN_w n) (gN_r n) (gN_hd n) (gN_st n) (gN_ct n) (gN_tt n) (gN_ld n) (gN_ca n)) (uN N 2 y) := by
  obtain ⟨r1, r2, r3, r4, r5, r6, r7, r8, r9, r10, r11, r12, r13⟩ := hR
  refine ⟨r1.trans (congrArg nI (uN_n (by omega)).symm), r2.trans (congrArg nI (uN_n (by omega)).symm), (congrArg nI uN_s.symm), r4.trans (congrArg nI (uN_n (by omega)).symm), r5.trans (congrArg nI (uN_n (by omega)).symm), r6.off (by omega), r7.off (by omega), r8.off (by omega), ?_, r10.off (by omega), ?_, ?_, ?_⟩
  · intro w' c' hw' hc'
    rw [uN_n (by omega)]
    exact r9 w' c' hw' hc'
  · rw [uN_n (by omega)]; exact r11.off (by omega)
  · intro c' hc'
    rw [uN_n (show (4 : Nat) ≠ 2 by omega), hC_eq (fun j hj => uN_n (by omega))]
    exact r12 c' hc'
  · intro w' hw'
    rw [sC_eq (fun i hi => uN_n (by omega))]
    exact r13 w' hw'
theorem RC.adv (hB : B < 1073741824) (hW : WF B N) (hR : RC n N) : ∃ n', F_X0_advanceX n = some n' ∧ RC n' (uN N 2 (sX (N 2))) := by
  unfold F_X0_advanceX
  rw [q_gZL (by omega) (by omega), hR.2.2.1, l_x hW.2.2.1]
  exact ⟨_, rfl, hR.x⟩
theorem X_max {a b : Nat} (ha : a < 2147483648) (hb : b < 2147483648) : F_J9_max_7cf53 (nI a) (nI b) = some (nI (max a b)) := by
  unfold F_J9_max_7cf53
  by_cases h : a < b
  · rw [i_ltT h hb, Nat.max_eq_right (by omega)]
  · rw [i_ltF (by omega) ha, Nat.max_eq_left (by omega)]
theorem X_min {a b : Nat} (ha : a < 2147483648) (hb : b < 2147483648) : F_J9_min_7cf53 (nI a) (nI b) = some (nI (min a b)) := by
  unfold F_J9_min_7cf53
  by_cases h : b < a
  · rw [i_ltT h ha, Nat.min_eq_right (by omega)]
  · rw [i_ltF (by omega) hb, Nat.min_eq_left (by omega)]
theorem RC.st (hR : RC n N) {c t : Nat} (hc : c < 36) : RC (mkN (gN_tc n) (gN_hb n) (gN_x n) (gN_hg n) (gN_cc n) (gN_w n) (gN_r n) (gN_hd n) (upd (gN_st n) c (nI t)) (gN_ct n) (gN_tt n) (gN_ld n) (gN_ca n)) (uN N (77 + c) t) := by
  obtain ⟨r1, r2, r3, r4, r5, r6, r7, r8, r9, r10, r11, r12, r13⟩ := hR
  refine ⟨r1.trans (congrArg nI (uN_n (by omega)).symm), r2.trans (congrArg nI (uN_n (by omega)).symm), r3.trans (congrArg nI (uN_n (by omega)).symm), r4.trans (congrArg nI (uN_n (by omega)).symm), r5.trans (congrArg nI (uN_n (by omega)).symm), r6.off (by omega), r7.off (by omega), r8.put, ?_, r10.off (by omega), ?_, ?_, ?_⟩
  · intro w' c' hw' hc'
    rw [uN_n (by omega)]
    exact r9 w' c' hw' hc'
  · rw [uN_n (by omega)]; exact r11.off (by omega)
  · intro c' hc'
    rw [uN_n (show (4 : Nat) ≠ 77 + c by omega), hC_eq (fun j hj => uN_n (by omega))]
    exact r12 c' hc'
  · intro w' hw'
    rw [sC_eq (fun i hi => uN_n (by omega))]
    exact r13 w' hw'
theorem RC.rd (hB : B < 1073741824) (hW : WF B N) (hR : RC n N) {a b : Nat} (ha : a < N 0) (hb : b < N 0) (hab : a ≠ b) : ∃ n', F_X0_redraw (nI a) (nI b) n = some n' ∧ RC n' (sRd a b N) := by
  obtain ⟨n1, e1, hR1⟩ := hR.adv hB hW
  have h0 := hW.1
  have hx : uN N 2 (sX (N 2)) 2 = sX (N 2) := uN_s
  have ht : uN N 2 (sX (N 2)) 0 = N 0 := uN_n (by omega)
  have hlt := sX_lt (N 2)
  have g1 : gN_tc n1 = nI (N 0) := by rw [← ht]; exact hR1.1
  have g2 : gN_x n1 = nI (sX (N 2)) := hR1.2.2.1.trans (congrArg nI hx)
  have hd : sX (N 2) / 65536 < 2147483648 := by omega
  have hm : sX (N 2) / 65536 % (N 0 - 2) < N 0 - 2 := Nat.mod_lt _ (by omega)
  have hJ : ∀ t : Nat, F_X0_pairCell (nI a) (nI b) = some (nI (6 * a + b)) ∧ J_X0_redraw_43 (nI a) (nI b) (nI t) n1 = some (mkN (gN_tc n1) (gN_hb n1) (gN_x n1) (gN_hg n1) (gN_cc n1) (gN_w n1) (gN_r n1) (gN_hd n1) (upd (gN_st n1) (6 * a + b) (nI t)) (gN_ct n1) (gN_tt n1) (gN_ld n1) (gN_ca n1)) := by
    intro t
    refine ⟨X_pair a b, ?_⟩
    unfold J_X0_redraw_43
    rw [X_pair, Option.bind_some, q_gI (show 6 * a + b < 36 by omega) (by omega), q_cl (by omega)]
  have hJ2 : ∀ t : Nat, t < 100 → J_X0_redraw_31 (nI a) (nI b) (nI t) n1 = J_X0_redraw_43 (nI a) (nI b) (nI (if t < max a b then t else t + 1)) n1 := by
    intro t ht
    unfold J_X0_redraw_31
    rw [X_max (by omega) (by omega), Option.bind_some]
    by_cases h : t < max a b
    · rw [i_ltT h (by omega), if_pos h]
    · rw [i_ltF (by omega) (by omega), if_neg h, q_add]
  unfold F_X0_redraw
  rw [e1, Option.bind_some, g1, g2, q_sub (by omega), q_gZ (by omega) (by omega), q_gZ (by omega) (by omega), X_min (by omega) (by omega), Option.bind_some, q_div (by omega) (by omega) (by omega), q_div hd (by omega) (by omega), q_rem hd (by omega) (by omega)]
  refine ⟨mkN (gN_tc n1) (gN_hb n1) (gN_x n1) (gN_hg n1) (gN_cc n1) (gN_w n1) (gN_r n1) (gN_hd n1) (upd (gN_st n1) (6 * a + b) (nI (sTn (sX (N 2) / 65536 % (N 0 - 2)) a b))) (gN_ct n1) (gN_tt n1) (gN_ld n1) (gN_ca n1), ?_, hR1.st (by omega)⟩
  unfold sTn
  by_cases h : sX (N 2) / 65536 % (N 0 - 2) < min a b
  · rw [i_ltT h (by omega), hJ2 _ (by omega), (hJ _).2]
    simp only [if_pos h]
  · rw [i_ltF (by omega) (by omega), q_add, hJ2 _ (by omega), (hJ _).2]
    simp only [if_neg h]
end
