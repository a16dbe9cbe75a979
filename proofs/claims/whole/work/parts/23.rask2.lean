section
variable {B : Nat} {N : Nat → Nat} {s : ModS}
/-- refused: the way out of the loop -/
theorem Y_out (hW : WF B N) (hR : RM (gM_nw s) N) {a b : Nat} {x3 : Int32} {k : Nat} (ha : a < N 0) (hb : b < N 0) (hab : a ≠ b) : ∃ f', mWh (fun x : Int32 × ModS => B_X3_asks_50 (nI a) (nI b) x3 x.1 x.2) (k + 1) (nI 3, s) = some (nI RF, sNw s f') ∧ RM f' (sRd a b (sCt 4 (6 * a + b) N)) := by
  have h0 := hW.1
  obtain ⟨f1, e1, hR1⟩ := Y_counts hR (a := a) (b := b) (w := 4) (by omega) (by omega)
  have hW1 := hW.ct (w := 4) (c := 6 * a + b) (by omega) (by omega)
  have k0 : sCt 4 (6 * a + b) N 0 = N 0 := sCt_n (by omega)
  obtain ⟨f2, e2, hR2⟩ := Y_rd (s := sNw s f1) hW1 hR1 (a := a) (b := b) (by omega) (by omega) hab
  refine ⟨f2, q_whr ?_, hR2⟩
  dsimp only
  unfold B_X3_asks_50
  rw [i_leT (by omega) (by omega), e1, Option.bind_some, e2, Option.bind_some, q_n5]
  rfl
theorem Y_try (hW : WF B N) (hR : RM (gM_nw s) N) {a b h again : Nat} (hag : again < 2) (ha : a < N 0) (hb : b < N 0) (hab : a ≠ b) : B_X3_asks_50 (nI a) (nI b) (nI h) (nI again) s = if (sSv N (lk a (N (77 + (6 * a + b)))) && sSv N (lk (N (77 + (6 * a + b))) b)) = true then (F_X3_goes (nI a) (nI b) (nI (N (77 + (6 * a + b)))) (nI h) s).bind (fun v28 => some (.inr (nI (N (77 + (6 * a + b))), v28))) else J_X3_asks_112 (nI a) (nI b) (nI h) (nI again) (nI (if sSv N (lk a (N (77 + (6 * a + b)))) = true then 1 else 0)) s := by
  have h0 := hW.1
  have hst := hW.2.2.2.2.2.2.2.1 a b ha hb hab
  unfold B_X3_asks_50
  rw [i_leF (by omega) (by omega), q_mul, q_add, q_add, show 77 + 6 * a + b = 77 + (6 * a + b) by omega, q_gI (by omega) (by omega), q_cl (by omega), hR.g (by omega), Y_more hW hR (by omega) (by omega), Option.bind_some, Y_more hW hR (by omega) (by omega), Option.bind_some]
  by_cases g1 : sSv N (lk a (N (77 + (6 * a + b)))) = true
  · rw [g1, if_pos (show (true = true) from rfl), i_eqF (by omega) (by omega) (by omega)]
    by_cases g2 : sSv N (lk (N (77 + (6 * a + b))) b) = true
    · rw [g2, if_pos (show (true = true) from rfl), i_eqF (by omega) (by omega) (by omega)]
      rfl
    · rw [if_neg g2, i_eqT rfl, if_neg (by rw [Bool.true_and]; exact g2)]
  · rw [if_neg g1, i_eqT rfl, if_neg (by
      intro q
      rw [Bool.and_eq_true] at q
      exact g1 q.1)]
set_option maxHeartbeats 4000000 in
theorem Y_ask (hW : WF B N) (hR : RM (gM_nw s) N) {a b h : Nat} (ha : a < N 0) (hb : b < N 0) (hab : a ≠ b) : ∃ f', F_X3_asks (nI a) (nI b) (nI h) s = some (nI (sAsk a b h N).1, sNw s f') ∧ RM f' (sAsk a b h N).2 := by
  have h0 := hW.1
  have hc : 6 * a + b < 36 := by omega
  have h80 : N 4 ≤ 80 := hW.2.2.2.2.1
  obtain ⟨f1, e1, hR1⟩ := Y_counts hR (a := a) (b := b) (w := 0) hc (by omega)
  have hW1 := hW.ct (w := 0) (c := 6 * a + b) (by omega) hc
  have k0 : sCt 0 (6 * a + b) N 0 = N 0 := sCt_n (by omega)
  have k1 : sCt 0 (6 * a + b) N 1 = N 1 := sCt_n (by omega)
  have k4 : sCt 0 (6 * a + b) N 4 = N 4 := sCt_n (by omega)
  have hR1' : RM (gM_nw (sNw s f1)) (sCt 0 (6 * a + b) N) := hR1
  unfold F_X3_asks
  rw [e1, Option.bind_some, q_gI (by omega) (by omega), q_cl (by omega), hR1'.g (by omega), k4]
  by_cases hm : N 4 = 80
  · rw [sAsk_full hm, i_neF hm]
    obtain ⟨f2, e2, hR2⟩ := Y_counts hR1' (a := a) (b := b) (w := 4) hc (by omega)
    rw [e2, Option.bind_some, q_n5]
    exact ⟨f2, rfl, hR2⟩
  have hm' : sCt 0 (6 * a + b) N 4 < 80 := by omega
  have hst := hW1.2.2.2.2.2.2.2.1 a b (by omega) (by omega) hab
  have hfl := sFr_le hW1 (lk_lt (show a < 6 by omega) (show b < 6 by omega))
  rw [i_neT hm (by omega) (by omega), Y_free hW1 hR1' (by omega) (by omega), Option.bind_some]
  by_cases hf : 0 < sFr (sCt 0 (6 * a + b) N) (lk a b)
  · obtain ⟨f2, e2, hR2⟩ := Y_goes hW1 hR1' (a := a) (b := b) (t := NV) (h := h) hm' hc (Or.inl rfl)
    rw [sAsk_str hm hf, i_leF hf (by omega), q_n1, e2, Option.bind_some]
    exact ⟨f2, rfl, hR2⟩
  rw [i_leT (by omega) (by omega)]
  have t1 := Y_try hW1 hR1' (a := a) (b := b) (h := h) (again := 0) (by omega) (by omega) (by omega) hab
  by_cases hs : (sSv (sCt 0 (6 * a + b) N) (lk a ((sCt 0 (6 * a + b) N) (77 + (6 * a + b)))) && sSv (sCt 0 (6 * a + b) N) (lk ((sCt 0 (6 * a + b) N) (77 + (6 * a + b))) b)) = true
  · obtain ⟨f2, e2, hR2⟩ := Y_goes hW1 hR1' (a := a) (b := b) (t := (sCt 0 (6 * a + b) N) (77 + (6 * a + b))) (h := h) hm' hc (Or.inr (by omega))
    rw [if_pos hs, e2, Option.bind_some] at t1
    rw [sAsk_ovr hm hf hs, show fuel0 = 3999 + 1 from rfl, q_whr t1]
    exact ⟨f2, rfl, hR2⟩
  rw [if_neg hs] at t1
  by_cases hbk : (sSv (sCt 0 (6 * a + b) N) (lk a ((sCt 0 (6 * a + b) N) (77 + (6 * a + b)))) && decide ((sCt 0 (6 * a + b) N) 1 = 1)) = true
  · have hbk2 := hbk
    rw [Bool.and_eq_true, decide_eq_true_eq] at hbk2
    obtain ⟨f2, e2, hR2⟩ := Y_counts hR1' (a := a) (b := b) (w := 3) hc (by omega)
    have hW2 := hW1.ct (w := 3) (c := 6 * a + b) (by omega) hc
    have l0 : sCt 3 (6 * a + b) (sCt 0 (6 * a + b) N) 0 = N 0 := (sCt_n (by omega)).trans k0
    obtain ⟨f3, e3, hR3⟩ := Y_rd (s := sNw s f2) hW2 hR2 (a := a) (b := b) (by omega) (by omega) hab
    have hW3 := hW2.rd (a := a) (b := b) (by omega) (by omega) hab
    have hR3' : RM (gM_nw (sNw s f3)) (sRd a b (sCt 3 (6 * a + b) (sCt 0 (6 * a + b) N))) := hR3
    have m0 : sRd a b (sCt 3 (6 * a + b) (sCt 0 (6 * a + b) N)) 0 = N 0 := (sRd_n (by omega) (by omega)).trans l0
    have m4 : sRd a b (sCt 3 (6 * a + b) (sCt 0 (6 * a + b) N)) 4 = N 4 := (sRd_n (by omega) (by omega)).trans ((sCt_n (by omega)).trans k4)
    have hst3 := hW3.2.2.2.2.2.2.2.1 a b (by omega) (by omega) hab
    have s1 : B_X3_asks_50 (nI a) (nI b) (nI h) (nI 0) (sNw s f1) = some (.inl (nI 1, sNw s f3)) := by
      rw [t1, if_pos hbk2.1]
      unfold J_X3_asks_112
      rw [i_eqF (by omega) (by omega) (by omega), i_eqF (by omega) (by omega) (by omega), q_gI (by omega) (by omega), q_cl (by omega), hR1'.g (by omega), i_neT (by omega) (by omega) (by omega), e2, Option.bind_some]
      rw [show (sNw (sNw s f1) f2) = sNw s f2 from rfl, e3, Option.bind_some, q_add]
      rfl
    have t2 := Y_try hW3 hR3' (a := a) (b := b) (h := h) (again := 1) (by omega) (by omega) (by omega) hab
    rw [sAsk_bck hm hf hs hbk, show fuel0 = 3999 + 1 from rfl, q_whl s1]
    by_cases hs3 : (sSv (sRd a b (sCt 3 (6 * a + b) (sCt 0 (6 * a + b) N))) (lk a ((sRd a b (sCt 3 (6 * a + b) (sCt 0 (6 * a + b) N))) (77 + (6 * a + b)))) && sSv (sRd a b (sCt 3 (6 * a + b) (sCt 0 (6 * a + b) N))) (lk ((sRd a b (sCt 3 (6 * a + b) (sCt 0 (6 * a + b) N))) (77 + (6 * a + b))) b)) = true
    · obtain ⟨f4, e4, hR4⟩ := Y_goes hW3 hR3' (a := a) (b := b) (t := (sRd a b (sCt 3 (6 * a + b) (sCt 0 (6 * a + b) N))) (77 + (6 * a + b))) (h := h) (by omega) hc (Or.inr (by omega))
      rw [if_pos hs3, e4, Option.bind_some] at t2
      rw [if_pos hs3, show (3999 : Nat) = 3998 + 1 from rfl, q_whr t2]
      exact ⟨f4, rfl, hR4⟩
    · rw [if_neg hs3] at t2
      have s2 : B_X3_asks_50 (nI a) (nI b) (nI h) (nI 1) (sNw s f3) = some (.inl (nI 3, sNw s f3)) := by
        rw [t2]
        unfold J_X3_asks_112
        rw [i_eqT rfl, q_add]
      rw [if_neg hs3, show (3999 : Nat) = 3998 + 1 from rfl, q_whl s2, show (3998 : Nat) = 3997 + 1 from rfl]
      obtain ⟨f4, e4, hR4⟩ := Y_out (s := sNw s f3) (x3 := nI h) (k := 3997) hW3 hR3' (a := a) (b := b) (by omega) (by omega) hab
      rw [e4]
      exact ⟨f4, rfl, hR4⟩
  · rw [sAsk_ref hm hf hs hbk]
    have s1 : B_X3_asks_50 (nI a) (nI b) (nI h) (nI 0) (sNw s f1) = some (.inl (nI 3, sNw s f1)) := by
      rw [t1]
      unfold J_X3_asks_112
      rw [i_eqF (by omega) (by omega) (by omega)]
      by_cases g1 : sSv (sCt 0 (6 * a + b) N) (lk a ((sCt 0 (6 * a + b) N) (77 + (6 * a + b)))) = true
      · have hl1 := hW1.2.1
        have hn1 : ¬ sCt 0 (6 * a + b) N 1 = 1 := fun q => hbk (by rw [g1, decide_eq_true q]; rfl)
        rw [if_pos g1, i_eqF (by omega) (by omega) (by omega), q_gI (by omega) (by omega), q_cl (by omega), hR1'.g (by omega), i_neF (by omega), q_add]
      · rw [if_neg g1, i_eqT rfl, q_add]
    rw [show fuel0 = 3999 + 1 from rfl, q_whl s1, show (3999 : Nat) = 3998 + 1 from rfl]
    obtain ⟨f4, e4, hR4⟩ := Y_out (s := sNw s f1) (x3 := nI h) (k := 3998) hW1 hR1' (a := a) (b := b) (by omega) (by omega) hab
    rw [e4]
    exact ⟨f4, rfl, hR4⟩
/-- a call lets go -/
theorem Y_lg (h80 : N 4 ≤ 80) (hR : RM (gM_nw s) N) {k : Nat} (hk : k < N 4) : ∃ f', F_X3_letsGo (nI k) s = some (sNw s f') ∧ RM f' (sLg k N) := by
  have hl : ∃ z, mWh (fun x : Int32 × ModS => B_X3_letsGo_8 x.1 x.2) fuel0 (nI (317 + 4 * k), s) = some z ∧ ∃ f, z = sNw s f ∧ ∀ j, f j = if 317 + 4 * k ≤ j ∧ j < 633 then gM_nw s (j + 4) else gM_nw s j := by
    refine q_inv0 (I := fun i (x : Int32 × ModS) => x.1 = nI (317 + 4 * k + i) ∧ ∃ f, x.2 = sNw s f ∧ ∀ j, f j = if 317 + 4 * k ≤ j ∧ j < 317 + 4 * k + i then gM_nw s (j + 4) else gM_nw s j) (X := fun z => ∃ f, z = sNw s f ∧ ∀ j, f j = if 317 + 4 * k ≤ j ∧ j < 633 then gM_nw s (j + 4) else gM_nw s j) (316 - 4 * k) (by omega) ⟨rfl, gM_nw s, rfl, fun j => by rw [if_neg (by omega)]⟩ ?_ ?_
    · rintro i ⟨x1, x2⟩ hi ⟨h1, f, h2, h3⟩
      dsimp only at h1 h2
      subst h1 h2
      refine ⟨(nI (317 + 4 * k + (i + 1)), sNw s (upd f (317 + 4 * k + i) (f (317 + 4 * k + i + 4)))), ?_, rfl, _, rfl, ?_⟩
      · dsimp only
        unfold B_X3_letsGo_8
        rw [q_add, i_leF (by omega) (by omega), q_gI (by omega) (by omega), q_gI (by omega) (by omega), q_add, q_cl (by omega), q_cl (by omega)]
        rfl
      · intro j
        unfold upd
        by_cases e : j = 317 + 4 * k + i
        · rw [if_pos e, h3, if_neg (by omega), if_pos (by omega), e]
        · rw [if_neg e, h3]
          by_cases e2 : 317 + 4 * k ≤ j ∧ j < 317 + 4 * k + i
          · rw [if_pos e2, if_pos (by omega)]
          · rw [if_neg e2, if_neg (by omega)]
    · rintro ⟨x1, x2⟩ ⟨h1, f, h2, h3⟩
      dsimp only at h1 h2
      subst h1 h2
      refine ⟨sNw s f, ?_, f, rfl, fun j => ?_⟩
      · dsimp only
        unfold B_X3_letsGo_8
        rw [q_add, i_leT (by omega) (by omega)]
      · rw [h3, show 317 + 4 * k + (316 - 4 * k) = 633 by omega]
  obtain ⟨z, e1, f, rfl, hf⟩ := hl
  unfold F_X3_letsGo
  rw [q_mul, q_add, e1, Option.bind_some, q_gI (by omega) (by omega), q_gI (by omega) (by omega), q_cl (by omega)]
  refine ⟨_, rfl, RM.of (fun j hj => ?_)⟩
  rw [sLg_4] at hj
  show upd f 4 (f 4 - nI 1) j = _
  unfold upd
  by_cases e4 : j = 4
  · subst e4
    rw [if_pos rfl, hf, if_neg (by omega), hR.g (by omega), q_sub (by omega), sLg_4]
  · rw [if_neg e4, hf]
    by_cases e : 317 + 4 * k ≤ j
    · rw [if_pos (by omega), hR.g (by omega), sLg_hi e]
    · rw [if_neg (by omega), hR.g (by omega), sLg_lo (by omega) e4]
end
