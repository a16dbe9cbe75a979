/-! what holds of every net stays; asking for a call, whole -/
theorem cOk_eq {N N' : Nat → Nat} {k : Nat} (h0 : N' 0 = N 0) (h : ∀ j, j < 4 → N' (317 + 4 * k + j) = N (317 + 4 * k + j)) (hc : cOk N k) : cOk N' k := by
  have e0 := h 0 (by omega)
  have e1 := h 1 (by omega)
  have e2 := h 2 (by omega)
  have e3 := h 3 (by omega)
  unfold cOk at hc ⊢
  rw [show 317 + 4 * k = 317 + 4 * k + 0 from rfl, e0, e1, e2, e3, h0]
  exact hc
theorem cOk_lt {N : Nat → Nat} {k : Nat} (h0 : N 0 ≤ 6) (h : cOk N k) : N (317 + 4 * k) < 6 ∧ N (317 + 4 * k + 1) < 6 ∧ N (317 + 4 * k) ≠ N (317 + 4 * k + 1) ∧ (N (317 + 4 * k + 2) = NV ∨ (N (317 + 4 * k + 2) < 6 ∧ N (317 + 4 * k + 2) ≠ N (317 + 4 * k) ∧ N (317 + 4 * k + 2) ≠ N (317 + 4 * k + 1))) := by
  obtain ⟨h1, h2, h3, h4, h5, h6⟩ := h
  refine ⟨by omega, by omega, h3, ?_⟩
  rcases h4 with h4 | h4
  · exact Or.inl h4
  · exact Or.inr ⟨by omega, h4.2⟩
theorem WF.mono {B B' : Nat} {N : Nat → Nat} (h : WF B N) (hb : B ≤ B') : WF B' N := by
  obtain ⟨h0, h1, h2, h3, h4, w1, w2, w3, w4, w5, w6⟩ := h
  exact ⟨h0, h1, h2, by omega, h4, w1, w2, w3, w4, w5, fun w hw => Nat.le_trans (w6 w hw) hb⟩
theorem sC_ct {N : Nat → Nat} {w c w' : Nat} (hw : w < 5) (hc : c < 36) (hw' : w' < 5) : sC (sCt w c N) w' 36 = if w' = w then sC N w 36 + 1 else sC N w' 36 := by
  by_cases e : w' = w
  · subst e
    rw [if_pos rfl]
    exact sC_inc hw hc
  · rw [if_neg e]
    exact sC_eq (fun i hi => sCt_n (by omega))
theorem WF.ct {B : Nat} {N : Nat → Nat} (h : WF B N) {w c : Nat} (hw : w < 5) (hc : c < 36) : WF (B + 1) (sCt w c N) := by
  obtain ⟨h0, h1, h2, h3, h4, w1, w2, w3, w4, w5, w6⟩ := h
  have e : ∀ j, (j < 113 ∨ 293 ≤ j) → sCt w c N j = N j := fun j hj => sCt_n (by omega)
  refine ⟨by rw [e 0 (by omega)]; exact h0, by rw [e 1 (by omega)]; exact h1, by rw [e 2 (by omega)]; exact h2, by rw [e 3 (by omega)]; omega, by rw [e 4 (by omega)]; exact h4, ?_, ?_, ?_, ?_, ?_, ?_⟩
  · intro c hc; rw [e _ (by omega)]; exact w1 c hc
  · intro c hc; rw [e _ (by omega)]; exact w2 c hc
  · intro a b ha hb hab
    rw [e 0 (by omega)] at ha hb ⊢
    rw [e _ (by omega)]
    exact w3 a b ha hb hab
  · intro h hh; rw [e _ (by omega)]; exact w4 h hh
  · intro k hk
    rw [e 4 (by omega)] at hk
    exact cOk_eq (e 0 (by omega)) (fun j _ => e _ (by omega)) (w5 k hk)
  · intro w' hw'
    rw [sC_ct hw hc hw']
    have := w6 w' hw'
    have := w6 w hw
    split <;> omega
theorem WF.rd {B : Nat} {N : Nat → Nat} (h : WF B N) {a b : Nat} (ha : a < N 0) (hb : b < N 0) (hab : a ≠ b) : WF B (sRd a b N) := by
  obtain ⟨h0, h1, h2, h3, h4, w1, w2, w3, w4, w5, w6⟩ := h
  have hm : sX (N 2) / 65536 % (N 0 - 2) < N 0 - 2 := Nat.mod_lt _ (by omega)
  have ht := sTn_ok h0.2 ha hb hab hm
  have e : ∀ j, j ≠ 2 → (j < 77 ∨ 113 ≤ j) → sRd a b N j = N j := fun j h2 hj => by
    unfold sRd
    rw [uN_n (by omega), uN_n h2]
  have e2 : sRd a b N 2 = sX (N 2) := by
    unfold sRd
    rw [uN_n (by omega), uN_s]
  have hx := sX_lt (N 2)
  refine ⟨by rw [e 0 (by omega) (by omega)]; exact h0, by rw [e 1 (by omega) (by omega)]; exact h1, by rw [e2]; exact hx, by rw [e 3 (by omega) (by omega)]; omega, by rw [e 4 (by omega) (by omega)]; exact h4, ?_, ?_, ?_, ?_, ?_, ?_⟩
  · intro c hc; rw [e _ (by omega) (by omega)]; exact w1 c hc
  · intro c hc; rw [e _ (by omega) (by omega)]; exact w2 c hc
  · intro a' b' ha' hb' hab'
    rw [e 0 (by omega) (by omega)] at ha' hb' ⊢
    unfold sRd
    by_cases q : a' = a ∧ b' = b
    · obtain ⟨rfl, rfl⟩ := q
      rw [uN_s]
      exact ht
    · rw [uN_n (by omega), uN_n (by omega)]
      exact w3 a' b' ha' hb' hab'
  · intro h hh; rw [e _ (by omega) (by omega)]; exact w4 h hh
  · intro k hk
    rw [e 4 (by omega) (by omega)] at hk
    exact cOk_eq (e 0 (by omega) (by omega)) (fun j _ => e _ (by omega) (by omega)) (w5 k hk)
  · intro w' hw'
    rw [sC_eq (fun i hi => e _ (by omega) (by omega))]
    exact w6 w' hw'
theorem WF.ad {B : Nat} {N : Nat → Nat} (h : WF B N) {a b t hh : Nat} (hm : N 4 < 80) (ha : a < N 0) (hb : b < N 0) (hab : a ≠ b) (ht : t = NV ∨ (t < N 0 ∧ t ≠ a ∧ t ≠ b)) (h1h : 1 ≤ hh) (h2h : hh ≤ 24) : WF B (sAd a b t hh N) := by
  obtain ⟨h0, h1, h2, h3, h4, w1, w2, w3, w4, w5, w6⟩ := h
  have e : ∀ j, j ≠ 4 → j < 317 → sAd a b t hh N j = N j := fun j h4 hj => sAd_n h4 (by omega)
  refine ⟨by rw [e 0 (by omega) (by omega)]; exact h0, by rw [e 1 (by omega) (by omega)]; exact h1, by rw [e 2 (by omega) (by omega)]; exact h2, by rw [e 3 (by omega) (by omega)]; omega, by rw [sAd_4]; omega, ?_, ?_, ?_, ?_, ?_, ?_⟩
  · intro c hc; rw [e _ (by omega) (by omega)]; exact w1 c hc
  · intro c hc; rw [e _ (by omega) (by omega)]; exact w2 c hc
  · intro a' b' ha' hb' hab'
    rw [e 0 (by omega) (by omega)] at ha' hb' ⊢
    rw [e _ (by omega) (by omega)]
    exact w3 a' b' ha' hb' hab'
  · intro h hh; rw [e _ (by omega) (by omega)]; exact w4 h hh
  · intro k hk
    rw [sAd_4] at hk
    by_cases q : k = N 4
    · subst q
      unfold cOk
      rw [sAd_a, sAd_b, sAd_t, sAd_h, e 0 (by omega) (by omega)]
      exact ⟨ha, hb, hab, ht, h1h, h2h⟩
    · exact cOk_eq (e 0 (by omega) (by omega)) (fun j _ => sAd_n (by omega) (by omega)) (w5 k (by omega))
  · intro w' hw'
    rw [sC_eq (fun i hi => e _ (by omega) (by omega))]
    exact w6 w' hw'
section
variable {B : Nat} {N : Nat → Nat} {n : NetS}
theorem sRd_n {a b j : Nat} (h2 : j ≠ 2) (hj : j ≠ 77 + (6 * a + b)) : sRd a b N j = N j := by
  unfold sRd
  rw [uN_n hj, uN_n h2]
theorem sFr_eq {N' : Nat → Nat} {l : Nat} (h4 : N' 4 = N 4) (hw : N' (5 + l) = N (5 + l)) (hc : ∀ j, j < 4 * N 4 → N' (317 + j) = N (317 + j)) : sFr N' l = sFr N l := by
  unfold sFr
  rw [h4, hw, hC_eq hc]
theorem sFr_rd {a b l : Nat} (hl : l < 36) (hab : 6 * a + b < 36) : sFr (sRd a b N) l = sFr N l := sFr_eq (sRd_n (by omega) (by omega)) (sRd_n (by omega) (by omega)) (fun j _ => sRd_n (by omega) (by omega))
theorem sFr_ct {w c l : Nat} (hl : l < 36) (hw : w < 5) (hc : c < 36) : sFr (sCt w c N) l = sFr N l := sFr_eq (sCt_n (by omega)) (sCt_n (by omega)) (fun j _ => sCt_n (by omega))
def sWay (a b : Nat) (N : Nat → Nat) : Nat := if 0 < sFr N (lk a b) then NV else if (sSv N (lk a (N (77 + (6 * a + b)))) && sSv N (lk (N (77 + (6 * a + b))) b)) = true then N (77 + (6 * a + b)) else RF
theorem X_way (hB : B < 1073741824) (hW : WF B N) (hR : RC n N) {a b : Nat} (ha : a < N 0) (hb : b < N 0) (hab : a ≠ b) : F_X0_wayNow (nI a) (nI b) n = some (nI (sWay a b N)) := by
  have h0 := hW.1
  have hst := hW.2.2.2.2.2.2.2.1 a b ha hb hab
  have hfl : sFr N (lk a b) ≤ 30 := by
    have := hW.2.2.2.2.2.1 (lk a b) (lk_lt (by omega) (by omega))
    unfold sFr
    omega
  unfold F_X0_wayNow sWay
  rw [X_link (by omega) (by omega), Option.bind_some, X_free hB hW hR (lk_lt (by omega) (by omega)), Option.bind_some, q_n1, q_n5]
  by_cases hf : 0 < sFr N (lk a b)
  · rw [i_leF hf (by omega), if_pos hf]
  · rw [i_leT (by omega) (by omega), if_neg hf, X_pair, Option.bind_some, q_gI (show 6 * a + b < 36 by omega) (by omega), q_cl (by omega), hR.2.2.2.2.2.2.2.1 (6 * a + b) (by omega), X_link (by omega) (by omega), Option.bind_some, X_serves hB hW hR (lk_lt (by omega) (by omega)), Option.bind_some]
    by_cases g1 : sSv N (lk a (N (77 + (6 * a + b)))) = true
    · rw [if_pos g1, i_eqF (by omega) (by omega) (by omega), X_link (by omega) (by omega), Option.bind_some, X_serves hB hW hR (lk_lt (by omega) (by omega)), Option.bind_some]
      by_cases g2 : sSv N (lk (N (77 + (6 * a + b))) b) = true
      · rw [if_pos g2, i_eqF (by omega) (by omega) (by omega), if_pos (by rw [g1, g2]; rfl)]
      · rw [if_neg g2, i_eqT rfl, if_neg (by rw [g1, Bool.true_and]; exact g2)]
    · rw [if_neg g1, i_eqT rfl, if_neg (by
        intro q
        rw [Bool.and_eq_true] at q
        exact g1 q.1)]
theorem RC.ad (hW : WF B N) (hR : RC n N) {a b t h : Nat} {v : Int32} (hm : N 4 < 80) (ha : a < 6) (hb : b < 6) (hab : a ≠ b) (ht : t = NV ∨ (t < 6 ∧ t ≠ a ∧ t ≠ b)) : ∃ n', ((F_X0_addCall (nI a) (nI b) (nI t) (nI h) n).bind (fun v13 => (F_X0_hold v13.1 (nI 1) v13.2).bind (fun v15 => some ((v, v15))))) = some (v, n') ∧ RC n' (sAd a b t h N) := by
  obtain ⟨r1, r2, r3, r4, r5, r6, r7, r8, r9, r10, r11, r12, r13⟩ := hR
  unfold F_X0_addCall
  rw [r5, q_mul, q_add, q_add, q_add, q_add, Nat.mul_comm (N 4) 4, q_gI (show 4 * N 4 + 0 < 320 by omega) (by omega), q_gI (show 4 * N 4 + 1 < 320 by omega) (by omega), q_gI (show 4 * N 4 + 2 < 320 by omega) (by omega), q_gI (show 4 * N 4 + 3 < 320 by omega) (by omega), q_cl (by omega), q_cl (by omega), q_cl (by omega), q_cl (by omega), q_add, Option.bind_some]
  dsimp only
  have hca : ∀ j, j < 4 * N 4 + 4 → (upd (upd (upd (upd (gN_ca n) (4 * N 4 + 0) (nI a)) (4 * N 4 + 1) (nI b)) (4 * N 4 + 2) (nI t)) (4 * N 4 + 3) (nI h)) j = nI (sAd a b t h N (317 + j)) := by
    intro j hj
    unfold upd
    by_cases e3 : j = 4 * N 4 + 3
    · subst e3; rw [if_pos rfl]; exact congrArg nI sAd_h.symm
    rw [if_neg e3]
    by_cases e2 : j = 4 * N 4 + 2
    · subst e2; rw [if_pos rfl]; exact congrArg nI sAd_t.symm
    rw [if_neg e2]
    by_cases e1 : j = 4 * N 4 + 1
    · subst e1; rw [if_pos rfl]; exact congrArg nI sAd_b.symm
    rw [if_neg e1]
    by_cases e0 : j = 4 * N 4 + 0
    · subst e0; rw [if_pos rfl]; exact congrArg nI sAd_a.symm
    rw [if_neg e0, sAd_n (by omega) (by omega)]
    exact r11 j (by omega)
  generalize (upd (upd (upd (upd (gN_ca n) (4 * N 4 + 0) (nI a)) (4 * N 4 + 1) (nI b)) (4 * N 4 + 2) (nI t)) (4 * N 4 + 3) (nI h)) = ca at hca
  have k0 := hca (4 * N 4) (by omega)
  have k1 := hca (4 * N 4 + 1) (by omega)
  have k2 := hca (4 * N 4 + 2) (by omega)
  rw [sAd_a] at k0
  rw [show 317 + (4 * N 4 + 1) = 317 + 4 * N 4 + 1 from rfl, sAd_b] at k1
  rw [show 317 + (4 * N 4 + 2) = 317 + 4 * N 4 + 2 from rfl, sAd_t] at k2
  rw [X_hold (n := mkN (gN_tc n) (gN_hb n) (gN_x n) (gN_hg n) (nI (N 4 + 1)) (gN_w n) (gN_r n) (gN_hd n) (gN_st n) (gN_ct n) (gN_tt n) (gN_ld n) ca) (k := N 4) (a := a) (b := b) (t := t) hm ha hb (ht.imp id (fun q => q.1)) k0 k1 k2, Option.bind_some]
  have e : ∀ j, j ≠ 4 → j < 317 → sAd a b t h N j = N j := fun j h4 hj => sAd_n h4 (by omega)
  refine ⟨_, rfl, r1.trans (congrArg nI (e 0 (by omega) (by omega)).symm), r2.trans (congrArg nI (e 1 (by omega) (by omega)).symm), r3.trans (congrArg nI (e 2 (by omega) (by omega)).symm), r4.trans (congrArg nI (e 3 (by omega) (by omega)).symm), congrArg nI sAd_4.symm, r6.eq (fun j hj => e _ (by omega) (by omega)), r7.eq (fun j hj => e _ (by omega) (by omega)), r8.eq (fun j hj => e _ (by omega) (by omega)), ?_, r10.eq (fun j hj => e _ (by omega) (by omega)), ?_, ?_, ?_⟩
  · intro w' c' hw' hc'
    rw [e _ (by omega) (by omega)]
    exact r9 w' c' hw' hc'
  · rw [sAd_4]
    intro j hj
    exact hca j (by omega)
  · intro c hc
    rw [sAd_4, hC_s, sAd_a, sAd_b, sAd_t, hC_eq (fun j hj => sAd_n (by omega) (by omega))]
    exact hdU_add ha hb hab ht r12 c hc
  · intro w' hw'
    rw [sC_eq (fun i hi => e _ (by omega) (by omega))]
    exact r13 w' hw'
theorem J95_go (hB : B + 1 < 1073741824) (hW : WF B N) (hR : RC n N) {a b t h : Nat} (hm : N 4 < 80) (ha : a < N 0) (hb : b < N 0) (hab : a ≠ b) (ht : t = NV ∨ (t < N 0 ∧ t ≠ a ∧ t ≠ b)) : ∃ n', J_X0_ask_95 (nI a) (nI b) (nI h) (nI (6 * a + b)) (nI t) n = some (nI t, n') ∧ RC n' (sGo a b t h N) := by
  have h0 := hW.1
  have ht6 : t = NV ∨ (t < 6 ∧ t ≠ a ∧ t ≠ b) := ht.imp id (fun q => ⟨by omega, q.2⟩)
  have htl : t < 4294967296 := by
    rcases ht6 with q | q
    · rw [q]; exact (show (4294967295 : Nat) < 4294967296 by omega)
    · omega
  have hne : t ≠ 4294967291 := by
    rcases ht6 with q | q
    · rw [q]; exact (show (4294967295 : Nat) ≠ 4294967291 by omega)
    · omega
  have h4 : ∀ w, sCt w (6 * a + b) N 4 = N 4 := fun w => sCt_n (by omega)
  unfold J_X0_ask_95 sGo
  rw [q_n5, q_n1, i_neT hne htl (by omega)]
  by_cases hn : t = NV
  · obtain ⟨n1, e1, hR1⟩ := hR.ct (w := 1) (c := 6 * a + b) (by omega) (by omega)
    have hW1 := hW.ct (w := 1) (c := 6 * a + b) (by omega) (by omega)
    rw [i_neF hn, if_pos hn]
    unfold J_X0_ask_130
    rw [e1, Option.bind_some]
    exact hR1.ad hW1 (by rw [h4]; exact hm) (by omega) (by omega) hab ht6
  · obtain ⟨n1, e1, hR1⟩ := hR.ct (w := 2) (c := 6 * a + b) (by omega) (by omega)
    have hW1 := hW.ct (w := 2) (c := 6 * a + b) (by omega) (by omega)
    rw [i_neT hn htl (show (4294967295 : Nat) < 4294967296 by omega), if_neg hn]
    unfold J_X0_ask_130
    rw [e1, Option.bind_some]
    exact hR1.ad hW1 (by rw [h4]; exact hm) (by omega) (by omega) hab ht6
theorem J95_rf (hB : B + 1 < 1073741824) (hW : WF B N) (hR : RC n N) {a b : Nat} {h : Int32} (ha : a < N 0) (hb : b < N 0) (hab : a ≠ b) : ∃ n', J_X0_ask_95 (nI a) (nI b) h (nI (6 * a + b)) (nI RF) n = some (nI RF, n') ∧ RC n' (sRd a b (sCt 4 (6 * a + b) N)) := by
  have h0 := hW.1
  obtain ⟨n1, e1, hR1⟩ := hR.ct (w := 4) (c := 6 * a + b) (by omega) (by omega)
  have hW1 := hW.ct (w := 4) (c := 6 * a + b) (by omega) (by omega)
  have h4 : sCt 4 (6 * a + b) N 0 = N 0 := sCt_n (by omega)
  obtain ⟨n2, e2, hR2⟩ := hR1.rd (by omega) hW1 (a := a) (b := b) (by rw [h4]; exact ha) (by rw [h4]; exact hb) hab
  unfold J_X0_ask_95
  rw [q_n5, i_neF rfl, e1, Option.bind_some, e2, Option.bind_some]
  exact ⟨n2, rfl, hR2⟩
end
