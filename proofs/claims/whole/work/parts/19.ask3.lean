section
variable {B : Nat} {N : Nat → Nat} {n : NetS}
theorem sAsk_full {a b h : Nat} (hm : N 4 = 80) : sAsk a b h N = (RF, sCt 4 (6 * a + b) (sCt 0 (6 * a + b) N)) := by unfold sAsk; exact if_pos hm
theorem sAsk_str {a b h : Nat} (hm : N 4 ≠ 80) (hf : 0 < sFr (sCt 0 (6 * a + b) N) (lk a b)) : sAsk a b h N = (NV, sGo a b NV h (sCt 0 (6 * a + b) N)) := by unfold sAsk; exact (if_neg hm).trans (if_pos hf)
theorem sAsk_ovr {a b h : Nat} (hm : N 4 ≠ 80) (hf : ¬ 0 < sFr (sCt 0 (6 * a + b) N) (lk a b)) (hs : (sSv (sCt 0 (6 * a + b) N) (lk a ((sCt 0 (6 * a + b) N) (77 + (6 * a + b)))) && sSv (sCt 0 (6 * a + b) N) (lk ((sCt 0 (6 * a + b) N) (77 + (6 * a + b))) b)) = true) : sAsk a b h N = ((sCt 0 (6 * a + b) N) (77 + (6 * a + b)), sGo a b ((sCt 0 (6 * a + b) N) (77 + (6 * a + b))) h (sCt 0 (6 * a + b) N)) := by unfold sAsk; exact (if_neg hm).trans ((if_neg hf).trans (if_pos hs))
theorem sAsk_bck {a b h : Nat} (hm : N 4 ≠ 80) (hf : ¬ 0 < sFr (sCt 0 (6 * a + b) N) (lk a b)) (hs : ¬ (sSv (sCt 0 (6 * a + b) N) (lk a ((sCt 0 (6 * a + b) N) (77 + (6 * a + b)))) && sSv (sCt 0 (6 * a + b) N) (lk ((sCt 0 (6 * a + b) N) (77 + (6 * a + b))) b)) = true) (hb : (sSv (sCt 0 (6 * a + b) N) (lk a ((sCt 0 (6 * a + b) N) (77 + (6 * a + b)))) && decide ((sCt 0 (6 * a + b) N) 1 = 1)) = true) : sAsk a b h N = if (sSv (sRd a b (sCt 3 (6 * a + b) (sCt 0 (6 * a + b) N))) (lk a ((sRd a b (sCt 3 (6 * a + b) (sCt 0 (6 * a + b) N))) (77 + (6 * a + b)))) && sSv (sRd a b (sCt 3 (6 * a + b) (sCt 0 (6 * a + b) N))) (lk ((sRd a b (sCt 3 (6 * a + b) (sCt 0 (6 * a + b) N))) (77 + (6 * a + b))) b)) = true then ((sRd a b (sCt 3 (6 * a + b) (sCt 0 (6 * a + b) N))) (77 + (6 * a + b)), sGo a b ((sRd a b (sCt 3 (6 * a + b) (sCt 0 (6 * a + b) N))) (77 + (6 * a + b))) h (sRd a b (sCt 3 (6 * a + b) (sCt 0 (6 * a + b) N)))) else (RF, sRd a b (sCt 4 (6 * a + b) (sRd a b (sCt 3 (6 * a + b) (sCt 0 (6 * a + b) N))))) := by unfold sAsk; exact (if_neg hm).trans ((if_neg hf).trans ((if_neg hs).trans (if_pos hb)))
theorem sAsk_ref {a b h : Nat} (hm : N 4 ≠ 80) (hf : ¬ 0 < sFr (sCt 0 (6 * a + b) N) (lk a b)) (hs : ¬ (sSv (sCt 0 (6 * a + b) N) (lk a ((sCt 0 (6 * a + b) N) (77 + (6 * a + b)))) && sSv (sCt 0 (6 * a + b) N) (lk ((sCt 0 (6 * a + b) N) (77 + (6 * a + b))) b)) = true) (hb : ¬ (sSv (sCt 0 (6 * a + b) N) (lk a ((sCt 0 (6 * a + b) N) (77 + (6 * a + b)))) && decide ((sCt 0 (6 * a + b) N) 1 = 1)) = true) : sAsk a b h N = (RF, sRd a b (sCt 4 (6 * a + b) (sCt 0 (6 * a + b) N))) := by unfold sAsk; exact (if_neg hm).trans ((if_neg hf).trans ((if_neg hs).trans (if_neg hb)))
set_option maxHeartbeats 4000000 in
theorem RC.ask (hB : B + 5 < 1073741824) (hW : WF B N) (hR : RC n N) {a b h : Nat} (ha : a < N 0) (hb : b < N 0) (hab : a ≠ b) : ∃ n', F_X0_ask (nI a) (nI b) (nI h) n = some (nI (sAsk a b h N).1, n') ∧ RC n' (sAsk a b h N).2 := by
  have h0 := hW.1
  have hc : 6 * a + b < 36 := by omega
  have h80 : N 4 ≤ 80 := hW.2.2.2.2.1
  obtain ⟨n1, e1, hR1⟩ := hR.ct (w := 0) (c := 6 * a + b) (by omega) hc
  have hW1 := hW.ct (w := 0) (c := 6 * a + b) (by omega) hc
  have k0 : sCt 0 (6 * a + b) N 0 = N 0 := sCt_n (by omega)
  have k1 : sCt 0 (6 * a + b) N 1 = N 1 := sCt_n (by omega)
  have k4 : sCt 0 (6 * a + b) N 4 = N 4 := sCt_n (by omega)
  unfold F_X0_ask
  rw [X_pair, Option.bind_some, e1, Option.bind_some]
  by_cases hm : N 4 = 80
  · rw [sAsk_full hm]
    obtain ⟨n2, e2, hR2⟩ := hR1.ct (w := 4) (c := 6 * a + b) (by omega) hc
    rw [hR1.2.2.2.2.1, k4, i_ltF (by omega) (by omega), e2, Option.bind_some, q_n5]
    exact ⟨n2, rfl, hR2⟩
  have hm' : sCt 0 (6 * a + b) N 4 < 80 := by omega
  have hst := hW1.2.2.2.2.2.2.2.1 a b (by omega) (by omega) hab
  rw [hR1.2.2.2.2.1, i_ltT hm' (by omega), X_way (by omega) hW1 hR1 (by omega) (by omega) hab, Option.bind_some, q_n5]
  by_cases hf : 0 < sFr (sCt 0 (6 * a + b) N) (lk a b)
  · rw [sAsk_str hm hf, show sWay a b (sCt 0 (6 * a + b) N) = NV from if_pos hf, i_neT (show (4294967295 : Nat) ≠ 4294967291 by omega) (by omega) (by omega)]
    exact J95_go (by omega) hW1 hR1 hm' (by omega) (by omega) hab (Or.inl rfl)
  by_cases hs : (sSv (sCt 0 (6 * a + b) N) (lk a ((sCt 0 (6 * a + b) N) (77 + (6 * a + b)))) && sSv (sCt 0 (6 * a + b) N) (lk ((sCt 0 (6 * a + b) N) (77 + (6 * a + b))) b)) = true
  · rw [sAsk_ovr hm hf hs, show sWay a b (sCt 0 (6 * a + b) N) = (sCt 0 (6 * a + b) N) (77 + (6 * a + b)) from (if_neg hf).trans (if_pos hs), i_neT (by omega) (by omega) (by omega)]
    exact J95_go (by omega) hW1 hR1 hm' (by omega) (by omega) hab (Or.inr hst)
  rw [show sWay a b (sCt 0 (6 * a + b) N) = RF from (if_neg hf).trans (if_neg hs), i_neF rfl, hR1.2.1]
  by_cases hbk : (sSv (sCt 0 (6 * a + b) N) (lk a ((sCt 0 (6 * a + b) N) (77 + (6 * a + b)))) && decide ((sCt 0 (6 * a + b) N) 1 = 1)) = true
  · have hbk2 := hbk
    rw [Bool.and_eq_true, decide_eq_true_eq] at hbk2
    obtain ⟨n2, e2, hR2⟩ := hR1.ct (w := 3) (c := 6 * a + b) (by omega) hc
    have hW2 := hW1.ct (w := 3) (c := 6 * a + b) (by omega) hc
    have l0 : sCt 3 (6 * a + b) (sCt 0 (6 * a + b) N) 0 = N 0 := (sCt_n (by omega)).trans k0
    obtain ⟨n3, e3, hR3⟩ := hR2.rd (by omega) hW2 (a := a) (b := b) (by omega) (by omega) hab
    have hW3 := hW2.rd (a := a) (b := b) (by omega) (by omega) hab
    have m0 : sRd a b (sCt 3 (6 * a + b) (sCt 0 (6 * a + b) N)) 0 = N 0 := (sRd_n (by omega) (by omega)).trans l0
    have m4 : sRd a b (sCt 3 (6 * a + b) (sCt 0 (6 * a + b) N)) 4 = N 4 := (sRd_n (by omega) (by omega)).trans ((sCt_n (by omega)).trans k4)
    have hst3 := hW3.2.2.2.2.2.2.2.1 a b (by omega) (by omega) hab
    have hf3 : ¬ 0 < sFr (sRd a b (sCt 3 (6 * a + b) (sCt 0 (6 * a + b) N))) (lk a b) := by
      rw [sFr_rd (lk_lt (by omega) (by omega)) hc, sFr_ct (lk_lt (by omega) (by omega)) (by omega) hc]
      exact hf
    rw [i_neF hbk2.2, q_gI hc (by omega), q_cl (by omega), hR1.2.2.2.2.2.2.2.1 _ hc, X_link (by omega) (by omega), Option.bind_some, X_serves (by omega) hW1 hR1 (lk_lt (by omega) (by omega)), Option.bind_some, if_pos hbk2.1, i_eqF (by omega) (by omega) (by omega), e2, Option.bind_some, e3, Option.bind_some, X_way (by omega) hW3 hR3 (by omega) (by omega) hab, Option.bind_some, sAsk_bck hm hf hs hbk]
    by_cases hs3 : (sSv (sRd a b (sCt 3 (6 * a + b) (sCt 0 (6 * a + b) N))) (lk a ((sRd a b (sCt 3 (6 * a + b) (sCt 0 (6 * a + b) N))) (77 + (6 * a + b)))) && sSv (sRd a b (sCt 3 (6 * a + b) (sCt 0 (6 * a + b) N))) (lk ((sRd a b (sCt 3 (6 * a + b) (sCt 0 (6 * a + b) N))) (77 + (6 * a + b))) b)) = true
    · rw [if_pos hs3, show sWay a b (sRd a b (sCt 3 (6 * a + b) (sCt 0 (6 * a + b) N))) = (sRd a b (sCt 3 (6 * a + b) (sCt 0 (6 * a + b) N))) (77 + (6 * a + b)) from (if_neg hf3).trans (if_pos hs3)]
      exact J95_go (by omega) hW3 hR3 (by omega) (by omega) (by omega) hab (Or.inr hst3)
    · rw [if_neg hs3, show sWay a b (sRd a b (sCt 3 (6 * a + b) (sCt 0 (6 * a + b) N))) = RF from (if_neg hf3).trans (if_neg hs3)]
      exact J95_rf (by omega) hW3 hR3 (by omega) (by omega) hab
  · rw [sAsk_ref hm hf hs hbk]
    by_cases hh : sCt 0 (6 * a + b) N 1 = 1
    · have hns : ¬ sSv (sCt 0 (6 * a + b) N) (lk a ((sCt 0 (6 * a + b) N) (77 + (6 * a + b)))) = true := fun q => hbk (by rw [q, decide_eq_true hh]; rfl)
      rw [i_neF hh, q_gI hc (by omega), q_cl (by omega), hR1.2.2.2.2.2.2.2.1 _ hc, X_link (by omega) (by omega), Option.bind_some, X_serves (by omega) hW1 hR1 (lk_lt (by omega) (by omega)), Option.bind_some, if_neg hns, i_eqT rfl]
      exact J95_rf (by omega) hW1 hR1 (by omega) (by omega) hab
    · have hl1 := hW1.2.1
      rw [i_neT hh (by omega) (by omega)]
      exact J95_rf (by omega) hW1 hR1 (by omega) (by omega) hab
theorem WF.go (hW : WF B N) {a b t h : Nat} (hm : N 4 < 80) (ha : a < N 0) (hb : b < N 0) (hab : a ≠ b) (ht : t = NV ∨ (t < N 0 ∧ t ≠ a ∧ t ≠ b)) (h1 : 1 ≤ h) (h2 : h ≤ 24) : WF (B + 1) (sGo a b t h N) := by
  have h0 := hW.1
  unfold sGo
  have hw : (if t = NV then 1 else 2) < 5 := by split <;> omega
  have hW1 := hW.ct hw (c := 6 * a + b) (by omega)
  have k0 : sCt (if t = NV then 1 else 2) (6 * a + b) N 0 = N 0 := sCt_n (by omega)
  have k4 : sCt (if t = NV then 1 else 2) (6 * a + b) N 4 = N 4 := sCt_n (by omega)
  exact hW1.ad (by rw [k4]; exact hm) (by rw [k0]; exact ha) (by rw [k0]; exact hb) hab (by rw [k0]; exact ht) h1 h2
theorem sAsk_0 {a b h j : Nat} (hab : 6 * a + b < 36) (hj : j < 2 ∨ j = 3 ∨ (5 ≤ j ∧ j < 77) ∨ (293 ≤ j ∧ j < 317)) : (sAsk a b h N).2 j = N j := by
  have e1 : ∀ w (N : Nat → Nat), sCt w (6 * a + b) N j = N j ∨ 5 ≤ w := fun w N => by
    by_cases q : 5 ≤ w
    · exact Or.inr q
    · exact Or.inl (sCt_n (by omega))
  have e1' : ∀ w (N : Nat → Nat), w < 5 → sCt w (6 * a + b) N j = N j := fun w N hw => (e1 w N).resolve_right (by omega)
  have e2 : ∀ (N : Nat → Nat), sRd a b N j = N j := fun N => sRd_n (by omega) (by omega)
  have e3 : ∀ t (N : Nat → Nat), sGo a b t h N j = N j := fun t N => by
    unfold sGo
    rw [sAd_n (by omega) (by omega)]
    exact e1' _ _ (by split <;> omega)
  unfold sAsk
  dsimp only
  split
  · show sCt 4 _ _ j = _
    rw [e1' _ _ (by omega), e1' _ _ (by omega)]
  · split
    · show sGo _ _ _ _ _ j = _
      rw [e3, e1' _ _ (by omega)]
    · split
      · show sGo _ _ _ _ _ j = _
        rw [e3, e1' _ _ (by omega)]
      · split
        · split
          · show sGo _ _ _ _ _ j = _
            rw [e3, e2, e1' _ _ (by omega), e1' _ _ (by omega)]
          · show sRd _ _ _ j = _
            rw [e2, e1' _ _ (by omega), e2, e1' _ _ (by omega), e1' _ _ (by omega)]
        · show sRd _ _ _ j = _
          rw [e2, e1' _ _ (by omega), e1' _ _ (by omega)]
theorem WF.ask (hW : WF B N) {a b h : Nat} (ha : a < N 0) (hb : b < N 0) (hab : a ≠ b) (h1 : 1 ≤ h) (h2 : h ≤ 24) : WF (B + 3) (sAsk a b h N).2 := by
  have h0 := hW.1
  have hc : 6 * a + b < 36 := by omega
  have h80 : N 4 ≤ 80 := hW.2.2.2.2.1
  have hW1 := hW.ct (w := 0) (c := 6 * a + b) (by omega) hc
  have k0 : sCt 0 (6 * a + b) N 0 = N 0 := sCt_n (by omega)
  have k4 : sCt 0 (6 * a + b) N 4 = N 4 := sCt_n (by omega)
  by_cases hm : N 4 = 80
  · rw [sAsk_full hm]
    exact (hW1.ct (w := 4) (by omega) hc).mono (by omega)
  have hm' : sCt 0 (6 * a + b) N 4 < 80 := by omega
  have hst := hW1.2.2.2.2.2.2.2.1 a b (by omega) (by omega) hab
  by_cases hf : 0 < sFr (sCt 0 (6 * a + b) N) (lk a b)
  · rw [sAsk_str hm hf]
    exact (hW1.go hm' (by omega) (by omega) hab (Or.inl rfl) h1 h2).mono (by omega)
  by_cases hs : (sSv (sCt 0 (6 * a + b) N) (lk a ((sCt 0 (6 * a + b) N) (77 + (6 * a + b)))) && sSv (sCt 0 (6 * a + b) N) (lk ((sCt 0 (6 * a + b) N) (77 + (6 * a + b))) b)) = true
  · rw [sAsk_ovr hm hf hs]
    exact (hW1.go hm' (by omega) (by omega) hab (Or.inr hst) h1 h2).mono (by omega)
  by_cases hbk : (sSv (sCt 0 (6 * a + b) N) (lk a ((sCt 0 (6 * a + b) N) (77 + (6 * a + b)))) && decide ((sCt 0 (6 * a + b) N) 1 = 1)) = true
  · rw [sAsk_bck hm hf hs hbk]
    have hW2 := hW1.ct (w := 3) (c := 6 * a + b) (by omega) hc
    have l0 : sCt 3 (6 * a + b) (sCt 0 (6 * a + b) N) 0 = N 0 := (sCt_n (by omega)).trans k0
    have hW3 := hW2.rd (a := a) (b := b) (by omega) (by omega) hab
    have m0 : sRd a b (sCt 3 (6 * a + b) (sCt 0 (6 * a + b) N)) 0 = N 0 := (sRd_n (by omega) (by omega)).trans l0
    have m4 : sRd a b (sCt 3 (6 * a + b) (sCt 0 (6 * a + b) N)) 4 = N 4 := (sRd_n (by omega) (by omega)).trans ((sCt_n (by omega)).trans k4)
    have hst3 := hW3.2.2.2.2.2.2.2.1 a b (by omega) (by omega) hab
    split
    · exact hW3.go (by omega) (by omega) (by omega) hab (Or.inr hst3) h1 h2
    · have hW4 := hW3.ct (w := 4) (c := 6 * a + b) (by omega) hc
      have n0 : sCt 4 (6 * a + b) (sRd a b (sCt 3 (6 * a + b) (sCt 0 (6 * a + b) N))) 0 = N 0 := (sCt_n (by omega)).trans m0
      exact hW4.rd (by omega) (by omega) hab
  · rw [sAsk_ref hm hf hs hbk]
    have hW4 := hW1.ct (w := 4) (c := 6 * a + b) (by omega) hc
    have n0 : sCt 4 (6 * a + b) (sCt 0 (6 * a + b) N) 0 = N 0 := (sCt_n (by omega)).trans k0
    exact (hW4.rd (by omega) (by omega) hab).mono (by omega)
end
