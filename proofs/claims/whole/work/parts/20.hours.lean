/-! an hour goes by, in the class's net -/
theorem hC_eq3 {N N' : Nat → Nat} {c : Nat} : ∀ {m : Nat}, (∀ k, k < m → N' (317 + 4 * k) = N (317 + 4 * k) ∧ N' (317 + 4 * k + 1) = N (317 + 4 * k + 1) ∧ N' (317 + 4 * k + 2) = N (317 + 4 * k + 2)) → hC N' c m = hC N c m
  | 0, _ => rfl
  | m + 1, h => by
    obtain ⟨a, b, d⟩ := h m (by omega)
    rw [hC_s, hC_s, hC_eq3 (fun k hk => h k (by omega)), a, b, d]
theorem cOk_tr {N N' : Nat → Nat} {k k' : Nat} (h0 : N' 0 = N 0) (h : ∀ j, j < 4 → N' (317 + 4 * k' + j) = N (317 + 4 * k + j)) (hc : cOk N k) : cOk N' k' := by
  have e0 := h 0 (by omega)
  have e1 := h 1 (by omega)
  have e2 := h 2 (by omega)
  have e3 := h 3 (by omega)
  unfold cOk at hc ⊢
  rw [show 317 + 4 * k' = 317 + 4 * k' + 0 from rfl, e0, e1, e2, e3, h0]
  exact hc
/-- a call lets go -/
def sLg (k : Nat) (N : Nat → Nat) : Nat → Nat := fun j => if 317 + 4 * k ≤ j then N (j + 4) else if j = 4 then N 4 - 1 else N j
theorem sLg_lo {k j : Nat} {N : Nat → Nat} (h : j < 317 + 4 * k) (h4 : j ≠ 4) : sLg k N j = N j := by
  unfold sLg
  rw [if_neg (by omega), if_neg h4]
theorem sLg_hi {k j : Nat} {N : Nat → Nat} (h : 317 + 4 * k ≤ j) : sLg k N j = N (j + 4) := if_pos h
theorem sLg_4 {k : Nat} {N : Nat → Nat} : sLg k N 4 = N 4 - 1 := by
  unfold sLg
  rw [if_neg (by omega), if_pos rfl]
theorem hC_lg {N : Nat → Nat} {c q : Nat} : ∀ {m : Nat}, q < m → hC N c m = hC (sLg q N) c (m - 1) + if hl3 (N (317 + 4 * q)) (N (317 + 4 * q + 1)) (N (317 + 4 * q + 2)) c = true then 1 else 0
  | m + 1, h => by
    rw [hC_s, Nat.add_sub_cancel]
    by_cases e : m = q
    · subst e
      rw [hC_eq (N' := sLg m N) (fun j hj => sLg_lo (by omega) (by omega))]
    · rw [hC_lg (q := q) (m := m) (by omega)]
      obtain ⟨m', rfl⟩ : ∃ m', m = m' + 1 := ⟨m - 1, by omega⟩
      rw [Nat.add_sub_cancel, hC_s, sLg_hi (by omega), sLg_hi (by omega), sLg_hi (by omega), show 317 + 4 * m' + 4 = 317 + 4 * (m' + 1) by omega, show 317 + 4 * m' + 1 + 4 = 317 + 4 * (m' + 1) + 1 by omega, show 317 + 4 * m' + 2 + 4 = 317 + 4 * (m' + 1) + 2 by omega]
      omega
def eS (p : Nat × (Nat → Nat)) : Nat × (Nat → Nat) := if p.2 (317 + 4 * p.1 + 3) = 1 then (p.1, sLg p.1 (uN p.2 (317 + 4 * p.1 + 3) 0)) else (p.1 + 1, uN p.2 (317 + 4 * p.1 + 3) (p.2 (317 + 4 * p.1 + 3) - 1))
def eH (N : Nat → Nat) : Nat → Nat × (Nat → Nat)
  | 0 => (0, N)
  | k + 1 => eS (eH N k)
/-- the end of an hour: how many calls stay, and what is then -/
def sEh (N : Nat → Nat) : Nat × (Nat → Nat) := eH N (N 4)
theorem eH_inv {N : Nat → Nat} (hc : ∀ k, k < N 4 → cOk N k) : ∀ {k : Nat}, k ≤ N 4 → (eH N k).1 ≤ k ∧ (eH N k).2 4 = (eH N k).1 + (N 4 - k) ∧ (∀ j, j < 317 → j ≠ 4 → (eH N k).2 j = N j) ∧ (∀ i, i < (eH N k).1 → cOk (eH N k).2 i) ∧ (∀ i r, r < 4 → i < N 4 - k → (eH N k).2 (317 + 4 * ((eH N k).1 + i) + r) = N (317 + 4 * (k + i) + r))
  | 0, _ => ⟨Nat.le_refl 0, by show N 4 = 0 + (N 4 - 0); omega, fun _ _ _ => rfl, fun i hi => absurd hi (Nat.not_lt_zero i), fun i r hr hi => by show N (317 + 4 * (0 + i) + r) = N (317 + 4 * (0 + i) + r); rfl⟩
  | k + 1, hk => by
    obtain ⟨h1, h2, h3, h4, h5⟩ := eH_inv hc (k := k) (by omega)
    rw [show eH N (k + 1) = eS (eH N k) from rfl]
    generalize he : eH N k = p at h1 h2 h3 h4 h5
    obtain ⟨q, M⟩ := p
    dsimp only at h1 h2 h3 h4 h5
    have h0 : M 0 = N 0 := h3 0 (by omega) (by omega)
    have hl := h5 0 3 (by omega) (by omega)
    simp only [Nat.add_zero] at hl
    have hck := hc k (by omega)
    unfold eS
    dsimp only
    by_cases e : M (317 + 4 * q + 3) = 1
    · rw [if_pos e]
      dsimp only
      refine ⟨by omega, ?_, ?_, ?_, ?_⟩
      · rw [sLg_4, uN_n (by omega)]; omega
      · intro j hj hj4
        rw [sLg_lo (by omega) hj4, uN_n (by omega)]
        exact h3 j hj hj4
      · intro i hi
        exact cOk_eq (by rw [sLg_lo (by omega) (by omega), uN_n (by omega)]) (fun j hj => by rw [sLg_lo (by omega) (by omega), uN_n (by omega)]) (h4 i hi)
      · intro i r hr hi
        rw [sLg_hi (by omega), uN_n (by omega), show 317 + 4 * (q + i) + r + 4 = 317 + 4 * (q + (i + 1)) + r by omega, h5 (i + 1) r hr (by omega), show k + (i + 1) = k + 1 + i by omega]
    · rw [if_neg e]
      dsimp only
      refine ⟨by omega, ?_, ?_, ?_, ?_⟩
      · rw [uN_n (by omega)]; omega
      · intro j hj hj4
        rw [uN_n (by omega)]
        exact h3 j hj hj4
      · intro i hi
        by_cases ei : i = q
        · subst ei
          have g0 := h5 0 0 (by omega) (by omega)
          have g1 := h5 0 1 (by omega) (by omega)
          have g2 := h5 0 2 (by omega) (by omega)
          simp only [Nat.add_zero] at g0 g1 g2
          obtain ⟨c1, c2, c3, c4, c5, c6⟩ := hck
          unfold cOk
          rw [uN_n (by omega), uN_n (by omega), uN_n (by omega), uN_n (by omega), uN_s, g0, g1, g2, h0, hl]
          rw [hl] at e
          exact ⟨c1, c2, c3, c4, by omega, by omega⟩
        · exact cOk_eq (by rw [uN_n (by omega)]) (fun j hj => by rw [uN_n (by omega)]) (h4 i (by omega))
      · intro i r hr hi
        rw [uN_n (by omega), show 317 + 4 * (q + 1 + i) + r = 317 + 4 * (q + (i + 1)) + r by omega, h5 (i + 1) r hr (by omega), show k + (i + 1) = k + 1 + i by omega]
section
variable {B : Nat} {N : Nat → Nat} {n : NetS}
theorem WF.eh (hW : WF B N) : WF B (sEh N).2 ∧ (sEh N).1 ≤ N 4 ∧ (sEh N).2 4 = (sEh N).1 ∧ (∀ j, j < 317 → j ≠ 4 → (sEh N).2 j = N j) := by
  obtain ⟨h0, h1, h2, h3, h4, w1, w2, w3, w4, w5, w6⟩ := hW
  obtain ⟨i1, i2, i3, i4, i5⟩ := eH_inv w5 (Nat.le_refl (N 4))
  have i2' : (sEh N).2 4 = (sEh N).1 := by
    show (eH N (N 4)).2 4 = (eH N (N 4)).1
    rw [i2]; omega
  refine ⟨?_, i1, i2', i3⟩
  have e : ∀ j, j < 317 → j ≠ 4 → (sEh N).2 j = N j := i3
  refine ⟨by rw [e 0 (by omega) (by omega)]; exact h0, by rw [e 1 (by omega) (by omega)]; exact h1, by rw [e 2 (by omega) (by omega)]; exact h2, by rw [e 3 (by omega) (by omega)]; exact h3, by rw [i2']; exact Nat.le_trans i1 h4, ?_, ?_, ?_, ?_, ?_, ?_⟩
  · intro c hc; rw [e _ (by omega) (by omega)]; exact w1 c hc
  · intro c hc; rw [e _ (by omega) (by omega)]; exact w2 c hc
  · intro a b ha hb hab
    rw [e 0 (by omega) (by omega)] at ha hb ⊢
    rw [e _ (by omega) (by omega)]
    exact w3 a b ha hb hab
  · intro h hh; rw [e _ (by omega) (by omega)]; exact w4 h hh
  · intro k hk
    rw [i2'] at hk
    exact i4 k hk
  · intro w hw
    rw [sC_eq (fun i hi => e _ (by omega) (by omega))]
    exact w6 w hw
/-- in the midst of the end of an hour -/
def RE (b k q : Nat) (M : Nat → Nat) (n : NetS) : Prop := gN_tc n = nI (M 0) ∧ gN_hb n = nI (M 1) ∧ gN_x n = nI (M 2) ∧ gN_hg n = nI (M 3) ∧ gN_cc n = nI b ∧ aR (gN_w n) M 5 36 ∧ aR (gN_r n) M 41 36 ∧ aR (gN_st n) M 77 36 ∧ (∀ w c, w < 5 → c < 36 → gN_ct n (36 * w + c) = nI (M (113 + 5 * c + w))) ∧ aR (gN_ld n) M 293 24 ∧ (∀ j, j < 4 * q → gN_ca n j = nI (M (317 + j))) ∧ (∀ j, j < 4 * (b - k) → gN_ca n (4 * k + j) = nI (M (317 + 4 * q + j))) ∧ (∀ c, c < 36 → gN_hd n c = nI (hC M c (M 4))) ∧ (∀ w, w < 5 → gN_tt n w = nI (sC M w 36))
theorem q_cpy {p n0 n1 a b c : Nat} {α : Type} {k : Option α} (h0 : a + c ≤ n0) (h1 : b + c ≤ n1) (ha : n0 < 2147483648) (hb : n1 < 2147483648) : gC (nI a) (nI b) (nI c) n0 n1 k = k := by
  unfold gC
  refine if_pos ?_
  unfold mCpG
  rw [nI_clamp (by omega), nI_clamp (by omega), nI_clamp (by omega)]
  simp only [Bool.and_eq_true, Bool.not_eq_true', decide_eq_false_iff_not, Nat.ble_eq]
  exact ⟨nI_pos (by omega), nI_pos (by omega), nI_pos (by omega), h0, h1⟩
theorem X_move {k q : Nat} (hk : k < 80) (hq : q ≤ k) : F_X0_moveCall (nI (4 * k)) (nI (4 * q)) n = some (if q = k then n else mkN (gN_tc n) (gN_hb n) (gN_x n) (gN_hg n) (gN_cc n) (gN_w n) (gN_r n) (gN_hd n) (gN_st n) (gN_ct n) (gN_tt n) (gN_ld n) (va_cpy (gN_ca n) (gN_ca n) (4 * k) (4 * q) 4)) := by
  unfold F_X0_moveCall
  by_cases e : q = k
  · rw [i_eqT (by omega), if_pos e]
  · rw [i_eqF (by omega) (by omega) (by omega), if_neg e, q_cpy (p := 0) (by omega) (by omega) (by omega) (by omega), q_cl (by omega), q_cl (by omega), q_cl (by omega)]
set_option maxHeartbeats 4000000 in
theorem RE.step {b k q : Nat} {M : Nat → Nat} (hb : b ≤ 80) (hk : k < b) (hq : q ≤ k) (h4 : M 4 = q + (b - k)) (h06 : M 0 ≤ 6) (hc : cOk M q) (h : RE b k q M n) : ∃ n', B_X0_endHour_9 (nI b) (nI q) (nI k) n = some (.inl (nI (eS (q, M)).1, nI (k + 1), n')) ∧ RE b (k + 1) (eS (q, M)).1 (eS (q, M)).2 n' := by
  obtain ⟨r1, r2, r3, r4, r5, r6, r7, r8, r9, r10, ra, rb, r12, r13⟩ := h
  have b0 := rb 0 (by omega)
  have b1 := rb 1 (by omega)
  have b2 := rb 2 (by omega)
  have b3 := rb 3 (by omega)
  rw [Nat.add_zero, Nat.add_zero] at b0
  obtain ⟨c1, c2, c3, c4⟩ := cOk_lt h06 hc
  have hlf := hc.2.2.2.2
  unfold B_X0_endHour_9
  rw [i_leF hk (by omega), q_mul, q_mul, q_add, Nat.mul_comm k 4, Nat.mul_comm q 4, q_gI (show 4 * k + 3 < 320 by omega) (by omega), q_gI (show 4 * k + 3 < 320 by omega) (by omega), q_gI (show 4 * k + 3 < 320 by omega) (by omega), q_cl (by omega), b3, q_sub (by omega), show (upd (gN_ca n) (4 * k + 3) (nI (M (317 + 4 * q + 3) - 1))) (4 * k + 3) = nI (M (317 + 4 * q + 3) - 1) from if_pos rfl, q_add, q_add]
  unfold eS
  dsimp only
  by_cases e : M (317 + 4 * q + 3) = 1
  · rw [if_pos e, i_neF (by omega), q_n1]
    dsimp only
    have e0 : (upd (gN_ca n) (4 * k + 3) (nI (M (317 + 4 * q + 3) - 1))) (4 * k) = nI (M (317 + 4 * q)) := (if_neg (by omega)).trans b0
    have e1 : (upd (gN_ca n) (4 * k + 3) (nI (M (317 + 4 * q + 3) - 1))) (4 * k + 1) = nI (M (317 + 4 * q + 1)) := (if_neg (by omega)).trans b1
    have e2 : (upd (gN_ca n) (4 * k + 3) (nI (M (317 + 4 * q + 3) - 1))) (4 * k + 2) = nI (M (317 + 4 * q + 2)) := (if_neg (by omega)).trans b2
    rw [X_hold (n := mkN (gN_tc n) (gN_hb n) (gN_x n) (gN_hg n) (gN_cc n) (gN_w n) (gN_r n) (gN_hd n) (gN_st n) (gN_ct n) (gN_tt n) (gN_ld n) (upd (gN_ca n) (4 * k + 3) (nI (M (317 + 4 * q + 3) - 1)))) (k := k) (by omega) c1 c2 (c4.imp id (fun z => z.1)) e0 e1 e2, Option.bind_some]
    have g : ∀ j, j < 317 → j ≠ 4 → sLg q (uN M (317 + 4 * q + 3) 0) j = M j := fun j hj hj4 => by rw [sLg_lo (by omega) hj4, uN_n (by omega)]
    refine ⟨_, rfl, r1.trans (congrArg nI (g 0 (by omega) (by omega)).symm), r2.trans (congrArg nI (g 1 (by omega) (by omega)).symm), r3.trans (congrArg nI (g 2 (by omega) (by omega)).symm), r4.trans (congrArg nI (g 3 (by omega) (by omega)).symm), r5, r6.eq (fun j hj => g _ (by omega) (by omega)), r7.eq (fun j hj => g _ (by omega) (by omega)), r8.eq (fun j hj => g _ (by omega) (by omega)), ?_, r10.eq (fun j hj => g _ (by omega) (by omega)), ?_, ?_, ?_, ?_⟩
    · intro w c hw hc
      rw [g _ (by omega) (by omega)]
      exact r9 w c hw hc
    · intro j hj
      rw [sLg_lo (by omega) (by omega), uN_n (by omega)]
      exact (if_neg (by omega)).trans (ra j hj)
    · intro j hj
      rw [sLg_hi (by omega), uN_n (by omega), show 317 + 4 * q + j + 4 = 317 + 4 * q + (4 + j) by omega, ← rb (4 + j) (by omega), show 4 * (k + 1) + j = 4 * k + (4 + j) by omega]
      exact if_neg (by omega)
    · intro c hc
      rw [sLg_4, uN_n (by omega)]
      refine hdU_sub (H := fun c => hC (sLg q (uN M (317 + 4 * q + 3) 0)) c (M 4 - 1)) c1 c2 c3 c4 (fun c hc => ?_) c hc
      show gN_hd n c = _
      rw [r12 c hc, ← hC_eq3 (N := M) (N' := uN M (317 + 4 * q + 3) 0) (fun i hi => ⟨uN_n (by omega), uN_n (by omega), uN_n (by omega)⟩), hC_lg (q := q) (by omega), uN_n (by omega), uN_n (by omega), uN_n (by omega)]
    · intro w hw
      rw [sC_eq (fun i hi => g _ (by omega) (by omega))]
      exact r13 w hw
  · rw [if_neg e, i_neT (by omega) (by omega) (by omega), X_move (n := mkN (gN_tc n) (gN_hb n) (gN_x n) (gN_hg n) (gN_cc n) (gN_w n) (gN_r n) (gN_hd n) (gN_st n) (gN_ct n) (gN_tt n) (gN_ld n) (upd (gN_ca n) (4 * k + 3) (nI (M (317 + 4 * q + 3) - 1)))) (by omega) hq, Option.bind_some]
    dsimp only
    have g : ∀ j, j < 317 → uN M (317 + 4 * q + 3) (M (317 + 4 * q + 3) - 1) j = M j := fun j hj => uN_n (by omega)
    have key : ∀ ca : Nat → Int32, (∀ j, j < 4 * q → ca j = nI (M (317 + j))) → (∀ r, r < 4 → ca (4 * q + r) = nI (uN M (317 + 4 * q + 3) (M (317 + 4 * q + 3) - 1) (317 + 4 * q + r))) → (∀ j, 4 * k + 4 ≤ j → ca j = gN_ca n j) → RE b (k + 1) (q + 1) (uN M (317 + 4 * q + 3) (M (317 + 4 * q + 3) - 1)) (mkN (gN_tc n) (gN_hb n) (gN_x n) (gN_hg n) (gN_cc n) (gN_w n) (gN_r n) (gN_hd n) (gN_st n) (gN_ct n) (gN_tt n) (gN_ld n) ca) := by
      intro ca ha hr ho
      refine ⟨r1.trans (congrArg nI (g 0 (by omega)).symm), r2.trans (congrArg nI (g 1 (by omega)).symm), r3.trans (congrArg nI (g 2 (by omega)).symm), r4.trans (congrArg nI (g 3 (by omega)).symm), r5, r6.eq (fun j hj => g _ (by omega)), r7.eq (fun j hj => g _ (by omega)), r8.eq (fun j hj => g _ (by omega)), ?_, r10.eq (fun j hj => g _ (by omega)), ?_, ?_, ?_, ?_⟩
      · intro w c hw hc
        rw [g _ (by omega)]
        exact r9 w c hw hc
      · intro j hj
        by_cases ej : j < 4 * q
        · rw [uN_n (by omega)]; exact ha j ej
        · have := hr (j - 4 * q) (by omega)
          rw [show 4 * q + (j - 4 * q) = j by omega, show 317 + 4 * q + (j - 4 * q) = 317 + j by omega] at this
          exact this
      · intro j hj
        rw [uN_n (by omega), show 317 + 4 * (q + 1) + j = 317 + 4 * q + (4 + j) by omega, ← rb (4 + j) (by omega), show 4 * (k + 1) + j = 4 * k + (4 + j) by omega]
        exact ho _ (by omega)
      · intro c hc
        rw [g 4 (by omega), hC_eq3 (fun i hi => ⟨uN_n (by omega), uN_n (by omega), uN_n (by omega)⟩)]
        exact r12 c hc
      · intro w hw
        rw [sC_eq (fun i hi => g _ (by omega))]
        exact r13 w hw
    have hr : ∀ r, r < 4 → upd (gN_ca n) (4 * k + 3) (nI (M (317 + 4 * q + 3) - 1)) (4 * k + r) = nI (uN M (317 + 4 * q + 3) (M (317 + 4 * q + 3) - 1) (317 + 4 * q + r)) := by
      intro r hr
      unfold upd
      by_cases e3 : r = 3
      · subst e3; rw [if_pos rfl, uN_s]
      · rw [if_neg (by omega), uN_n (by omega)]
        exact rb r (by omega)
    by_cases eq : q = k
    · rw [if_pos eq]
      refine ⟨_, rfl, key _ (fun j hj => (if_neg (by omega)).trans (ra j hj)) (fun r h4 => ?_) (fun j hj => if_neg (by omega))⟩
      have := hr r h4
      rw [← eq] at this ⊢
      exact this
    · rw [if_neg eq]
      refine ⟨_, rfl, key _ (fun j hj => ?_) (fun r h4 => ?_) (fun j hj => ?_)⟩
      · exact (if_neg (by omega)).trans ((if_neg (by omega)).trans (ra j hj))
      · show va_cpy _ _ (4 * k) (4 * q) 4 (4 * q + r) = _
        unfold va_cpy
        rw [if_pos ⟨by omega, by omega⟩, show 4 * k + (4 * q + r - 4 * q) = 4 * k + r by omega]
        exact hr r h4
      · exact (if_neg (by omega)).trans (if_neg (by omega))
theorem RC.eh (hW : WF B N) (hR : RC n N) : ∃ n', F_X0_endHour n = some (nI (N 4 - (sEh N).1), n') ∧ RC n' (sEh N).2 := by
  have h06 := hW.1.2
  have h80 : N 4 ≤ 80 := hW.2.2.2.2.1
  obtain ⟨r1, r2, r3, r4, r5, r6, r7, r8, r9, r10, r11, r12, r13⟩ := hR
  have hloop : ∃ z, mWh (fun x => B_X0_endHour_9 (gN_cc n) x.1 x.2.1 x.2.2) fuel0 (nI 0, nI 0, n) = some z ∧ (z.1 = nI (eH N (N 4)).1 ∧ RE (N 4) (N 4) (eH N (N 4)).1 (eH N (N 4)).2 z.2) := by
    refine q_inv0 (I := fun k (x : Int32 × Int32 × NetS) => x.1 = nI (eH N k).1 ∧ x.2.1 = nI k ∧ RE (N 4) k (eH N k).1 (eH N k).2 x.2.2) (X := fun z : Int32 × NetS => z.1 = nI (eH N (N 4)).1 ∧ RE (N 4) (N 4) (eH N (N 4)).1 (eH N (N 4)).2 z.2) (N 4) (by omega) ⟨rfl, rfl, r1, r2, r3, r4, r5, r6, r7, r8, r9, r10, fun j hj => absurd hj (by show ¬ j < 4 * 0; omega), fun j hj => by
      show gN_ca n (4 * 0 + j) = nI (N (317 + 4 * 0 + j))
      rw [Nat.mul_zero, Nat.zero_add, Nat.add_zero]
      exact r11 j (by omega), r12, r13⟩ ?_ ?_
    · rintro k ⟨x1, x2, x3⟩ hk ⟨h1, h2, h3⟩
      dsimp only at h1 h2 h3
      subst h1 h2
      obtain ⟨i1, i2, i3, i4, i5⟩ := eH_inv hW.2.2.2.2.2.2.2.2.2.1 (show k ≤ N 4 by omega)
      have hck : cOk (eH N k).2 (eH N k).1 := cOk_tr (i3 0 (by omega) (by omega)) (fun r hr => by
        have := i5 0 r hr (by omega)
        simp only [Nat.add_zero] at this
        exact this) (hW.2.2.2.2.2.2.2.2.2.1 k hk)
      obtain ⟨n', e1, e2⟩ := RE.step h80 hk i1 i2 (by rw [i3 0 (by omega) (by omega)]; exact h06) hck h3
      refine ⟨(nI (eH N (k + 1)).1, nI (k + 1), n'), ?_, rfl, rfl, e2⟩
      dsimp only
      rw [r5]
      exact e1
    · rintro ⟨x1, x2, x3⟩ ⟨h1, h2, h3⟩
      dsimp only at h1 h2 h3
      subst h1 h2
      refine ⟨(nI (eH N (N 4)).1, x3), ?_, rfl, h3⟩
      dsimp only
      rw [r5]
      unfold B_X0_endHour_9
      rw [i_leT (Nat.le_refl _) (by omega)]
  obtain ⟨z, hz, hz1, hz2⟩ := hloop
  obtain ⟨i1, i2, i3, i4, i5⟩ := eH_inv hW.2.2.2.2.2.2.2.2.2.1 (Nat.le_refl (N 4))
  obtain ⟨s1, s2, s3, s4, s5, s6, s7, s8, s9, s10, sa, sb, s12, s13⟩ := hz2
  have i2' : (eH N (N 4)).2 4 = (eH N (N 4)).1 := by omega
  unfold F_X0_endHour
  rw [hz, Option.bind_some, hz1, r5, q_sub i1]
  refine ⟨_, rfl, s1, s2, s3, s4, congrArg nI i2'.symm, s6, s7, s8, s9, s10, ?_, s12, s13⟩
  intro j hj
  have hj : j < 4 * (eH N (N 4)).1 := by
    have : (sEh N).2 4 = (eH N (N 4)).1 := i2'
    omega
  exact sa j hj
end
