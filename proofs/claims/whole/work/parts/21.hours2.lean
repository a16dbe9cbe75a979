/-! plans, hours, ends, copies, beginnings: the class's net -/
def sPa (N : Nat → Nat) : Nat := sX (N 2) / 65536 % N 0
def sPb (N : Nat → Nat) : Nat := if sX (N 2) / 1024 % N 0 = sX (N 2) / 65536 % N 0 then (sX (N 2) / 1024 % N 0 + 1) % N 0 else sX (N 2) / 1024 % N 0
def sPh (N : Nat → Nat) : Nat := 1 + sX (N 2) / 4096 % 6
def sPl (N : Nat → Nat) : Nat → Nat := (sAsk (sPa N) (sPb N) (sPh N) (uN N 2 (sX (N 2)))).2
def sPm (N : Nat → Nat) : Nat → Nat → Nat
  | 0 => N
  | m + 1 => sPl (sPm N m)
def sHl (N : Nat → Nat) : Nat := (sEh N).2 (293 + ((sEh N).2 3 + 1) % 24)
def sHo (N : Nat → Nat) : Nat × (Nat → Nat) := (N 4 - (sEh N).1, sPm (uN (sEh N).2 3 ((sEh N).2 3 + 1)) (sHl N))
def sHs (N : Nat → Nat) : Nat → Nat × (Nat → Nat)
  | 0 => (0, N)
  | m + 1 => ((sHs N m).1 + (sHo (sHs N m).2).1, (sHo (sHs N m).2).2)
theorem sPb_ok {N : Nat → Nat} (h : 3 ≤ N 0) : sPa N < N 0 ∧ sPb N < N 0 ∧ sPa N ≠ sPb N := by
  unfold sPa sPb
  have h1 : sX (N 2) / 65536 % N 0 < N 0 := Nat.mod_lt _ (by omega)
  have h2 : sX (N 2) / 1024 % N 0 < N 0 := Nat.mod_lt _ (by omega)
  generalize sX (N 2) / 65536 % N 0 = a at h1
  generalize sX (N 2) / 1024 % N 0 = b at h2
  refine ⟨h1, ?_, ?_⟩
  · split
    · exact Nat.mod_lt _ (by omega)
    · exact h2
  · by_cases e : b = a
    · rw [if_pos e]
      subst e
      by_cases e2 : b + 1 < N 0
      · rw [Nat.mod_eq_of_lt e2]; omega
      · rw [show b + 1 = N 0 by omega, Nat.mod_self]; omega
    · rw [if_neg e]; exact fun q => e q.symm
theorem sPh_ok {N : Nat → Nat} : 1 ≤ sPh N ∧ sPh N ≤ 24 := by
  have : sX (N 2) / 4096 % 6 < 6 := Nat.mod_lt _ (by omega)
  unfold sPh
  omega
theorem nx_xor (a b : Nat) : nI a ^^^ nI b = nI (a ^^^ b) := by
  apply Int32.toBitVec_inj.1
  show BitVec.ofNat 32 a ^^^ BitVec.ofNat 32 b = BitVec.ofNat 32 (a ^^^ b)
  apply BitVec.eq_of_getLsbD_eq
  intro i hi
  simp [hi]
theorem X_fmod {h : Nat} (hh : h < 2147483648) : F_J9_floorMod_7cf53 (nI h) (nI 24) = some (nI (h % 24)) := by
  have hx : h ^^^ 24 < 2147483648 := Nat.xor_lt_two_pow (n := 31) (by omega) (by omega)
  unfold F_J9_floorMod_7cf53
  rw [q_gZ (by omega) (by omega), nx_xor, i_leT (Nat.zero_le _) hx, q_div hh (by omega) (by omega), q_rem hh (by omega) (by omega)]
section
variable {B : Nat} {N : Nat → Nat} {n : NetS}
theorem WF.x (hW : WF B N) {y : Nat} (hy : y < 2147483648) : WF B (uN N 2 y) := by
  obtain ⟨h0, h1, h2, h3, h4, w1, w2, w3, w4, w5, w6⟩ := hW
  have e : ∀ j, j ≠ 2 → uN N 2 y j = N j := fun j hj => uN_n hj
  refine ⟨by rw [e 0 (by omega)]; exact h0, by rw [e 1 (by omega)]; exact h1, by rw [uN_s]; exact hy, by rw [e 3 (by omega)]; exact h3, by rw [e 4 (by omega)]; exact h4, ?_, ?_, ?_, ?_, ?_, ?_⟩
  · intro c hc; rw [e _ (by omega)]; exact w1 c hc
  · intro c hc; rw [e _ (by omega)]; exact w2 c hc
  · intro a b ha hb hab
    rw [e 0 (by omega)] at ha hb ⊢
    rw [e _ (by omega)]
    exact w3 a b ha hb hab
  · intro h hh; rw [e _ (by omega)]; exact w4 h hh
  · intro k hk
    rw [e 4 (by omega)] at hk
    exact cOk_eq (e 0 (by omega)) (fun j _ => e _ (by omega)) (w5 k hk)
  · intro w hw
    rw [sC_eq (fun i hi => e _ (by omega))]
    exact w6 w hw
theorem WF.h (hW : WF B N) : WF (B + 1) (uN N 3 (N 3 + 1)) := by
  obtain ⟨h0, h1, h2, h3, h4, w1, w2, w3, w4, w5, w6⟩ := hW
  have e : ∀ j, j ≠ 3 → uN N 3 (N 3 + 1) j = N j := fun j hj => uN_n hj
  refine ⟨by rw [e 0 (by omega)]; exact h0, by rw [e 1 (by omega)]; exact h1, by rw [e 2 (by omega)]; exact h2, by rw [uN_s]; omega, by rw [e 4 (by omega)]; exact h4, ?_, ?_, ?_, ?_, ?_, ?_⟩
  · intro c hc; rw [e _ (by omega)]; exact w1 c hc
  · intro c hc; rw [e _ (by omega)]; exact w2 c hc
  · intro a b ha hb hab
    rw [e 0 (by omega)] at ha hb ⊢
    rw [e _ (by omega)]
    exact w3 a b ha hb hab
  · intro h hh; rw [e _ (by omega)]; exact w4 h hh
  · intro k hk
    rw [e 4 (by omega)] at hk
    exact cOk_eq (e 0 (by omega)) (fun j _ => e _ (by omega)) (w5 k hk)
  · intro w hw
    rw [sC_eq (fun i hi => e _ (by omega))]
    exact Nat.le_trans (w6 w hw) (by omega)
theorem WF.pl (hW : WF B N) : WF (B + 3) (sPl N) := by
  obtain ⟨p1, p2, p3⟩ := sPb_ok hW.1.1
  have h0 : uN N 2 (sX (N 2)) 0 = N 0 := uN_n (by omega)
  exact (hW.x (sX_lt _)).ask (by rw [h0]; exact p1) (by rw [h0]; exact p2) p3 sPh_ok.1 sPh_ok.2
theorem WF.pm (hW : WF B N) : ∀ m, WF (B + 3 * m) (sPm N m)
  | 0 => hW
  | m + 1 => (WF.pm hW m).pl.mono (by omega)
theorem WF.ho (hW : WF B N) : WF (B + 28) (sHo N).2 ∧ sHl N ≤ 9 := by
  have h1 := hW.eh
  have hl : sHl N ≤ 9 := h1.1.2.2.2.2.2.2.2.2.1 _ (Nat.mod_lt _ (by omega))
  exact ⟨(h1.1.h.pm _).mono (by omega), hl⟩
theorem WF.hs (hW : WF B N) : ∀ m, WF (B + 28 * m) (sHs N m).2
  | 0 => hW
  | m + 1 => (WF.hs hW m).ho.1.mono (by omega)
theorem RC.pl (hB : B + 8 < 1073741824) (hW : WF B N) (hR : RC n N) : ∃ n', F_X0_askByPlan n = some n' ∧ RC n' (sPl N) := by
  have h0 := hW.1
  obtain ⟨n1, e1, hR1⟩ := hR.adv (by omega) hW
  have hW1 := hW.x (sX_lt (N 2))
  have g0 : uN N 2 (sX (N 2)) 0 = N 0 := uN_n (by omega)
  have g1 : gN_tc n1 = nI (N 0) := by rw [← g0]; exact hR1.1
  have g2 : gN_x n1 = nI (sX (N 2)) := hR1.2.2.1.trans (congrArg nI uN_s)
  obtain ⟨p1, p2, p3⟩ := sPb_ok h0.1
  have hx := sX_lt (N 2)
  have hJ : ∃ n', J_X0_askByPlan_45 (nI (sPa N)) (nI (sPb N)) n1 = some n' ∧ RC n' (sPl N) := by
    unfold J_X0_askByPlan_45
    obtain ⟨n2, e2, hR2⟩ := hR1.ask (a := sPa N) (b := sPb N) (h := sPh N) (by omega) hW1 (by rw [g0]; exact p1) (by rw [g0]; exact p2) p3
    rw [q_gZ (by omega) (by omega), q_gZ (by omega) (by omega), g2, q_div hx (by omega) (by omega), q_div (by omega) (by omega) (by omega), q_rem (by omega) (by omega) (by omega), q_add, show 1 + sX (N 2) / 4096 % 6 = sPh N from rfl, e2, Option.bind_some]
    exact ⟨n2, rfl, hR2⟩
  have hb : sX (N 2) / 1024 % N 0 < N 0 := Nat.mod_lt _ (by omega)
  unfold F_X0_askByPlan
  rw [e1, Option.bind_some, g1, g2, q_gZ (by omega) (by omega), q_gZ (by omega) (by omega), q_gZ (by omega) (by omega), q_gZ (by omega) (by omega), q_div hx (by omega) (by omega), q_div hx (by omega) (by omega), q_div (by omega) (by omega) (by omega), q_div (by omega) (by omega) (by omega), q_rem (by omega) (by omega) (by omega), q_rem (by omega) (by omega) (by omega), q_add, q_gZ (by omega) (by omega), q_div (by omega) (by omega) (by omega), q_rem (by omega) (by omega) (by omega)]
  unfold sPb sPa at hJ
  by_cases e : sX (N 2) / 1024 % N 0 = sX (N 2) / 65536 % N 0
  · rw [i_neF e]
    rw [if_pos e] at hJ
    exact hJ
  · rw [i_neT e (by omega) (Nat.lt_of_lt_of_le (Nat.mod_lt _ (by omega)) (show N 0 ≤ 4294967296 by omega))]
    rw [if_neg e] at hJ
    exact hJ
theorem RC.hg (hR : RC n N) {y : Nat} : RC (mkN (gN_tc n) (gN_hb n) (gN_x n) (nI y) (gN_cc n) (gN_w n) (gN_r n) (gN_hd n) (gN_st n) (gN_ct n) (gN_tt n) (gN_ld n) (gN_ca n)) (uN N 3 y) := by
  obtain ⟨r1, r2, r3, r4, r5, r6, r7, r8, r9, r10, r11, r12, r13⟩ := hR
  refine ⟨r1.trans (congrArg nI (uN_n (by omega)).symm), r2.trans (congrArg nI (uN_n (by omega)).symm), r3.trans (congrArg nI (uN_n (by omega)).symm), congrArg nI uN_s.symm, r5.trans (congrArg nI (uN_n (by omega)).symm), r6.off (by omega), r7.off (by omega), r8.off (by omega), ?_, r10.off (by omega), ?_, ?_, ?_⟩
  · intro w' c' hw' hc'
    rw [uN_n (by omega)]
    exact r9 w' c' hw' hc'
  · rw [uN_n (by omega)]; exact r11.off (by omega)
  · intro c' hc'
    rw [uN_n (show (4 : Nat) ≠ 3 by omega), hC_eq (fun j hj => uN_n (by omega))]
    exact r12 c' hc'
  · intro w' hw'
    rw [sC_eq (fun i hi => uN_n (by omega))]
    exact r13 w' hw'
theorem RC.pm (hB : B + 100 < 1073741824) (hW : WF B N) (hR : RC n N) {x1 x2 x3 : Int32} {m : Nat} (hm : m ≤ 9) : ∃ n', mWh (fun x => B_X0_passHours_45 x1 x2 x3 (nI m) x.1 x.2) fuel0 (nI 0, n) = some n' ∧ RC n' (sPm N m) := by
  refine q_inv0 (I := fun k (x : Int32 × NetS) => x.1 = nI k ∧ RC x.2 (sPm N k)) (X := fun n' => RC n' (sPm N m)) m (by omega) ⟨rfl, hR⟩ ?_ ?_
  · rintro k ⟨x, nk⟩ hk ⟨h1, h2⟩
    dsimp only at h1 h2
    subst h1
    obtain ⟨n', e1, e2⟩ := h2.pl (by omega) (hW.pm k)
    refine ⟨(nI (k + 1), n'), ?_, rfl, e2⟩
    dsimp only
    unfold B_X0_passHours_45
    rw [i_leF hk (by omega), e1, Option.bind_some, q_add]
  · rintro ⟨x, nk⟩ ⟨h1, h2⟩
    dsimp only at h1 h2
    subst h1
    refine ⟨nk, ?_, h2⟩
    dsimp only
    unfold B_X0_passHours_45
    rw [i_leT (Nat.le_refl _) (by omega)]
theorem RC.ho (hB : B + 200 < 1073741824) (hW : WF B N) (hR : RC n N) {m k s : Nat} (hk : k < m) (hm : m < 1000) : ∃ n', B_X0_passHours_4 (nI m) (nI s) (nI k) n = some (.inl (nI (s + (sHo N).1), nI (k + 1), n')) ∧ RC n' (sHo N).2 := by
  obtain ⟨n1, e1, hR1⟩ := hR.eh hW
  obtain ⟨w1, w2, w3, w4⟩ := hW.eh
  have hg := hR1.2.2.2.1
  have h3 := w1.2.2.2.1
  have hl := hW.ho.2
  obtain ⟨n2, e2, hR2⟩ := (hR1.hg (y := (sEh N).2 3 + 1)).pm (x1 := nI m) (x2 := nI s + nI (N 4 - (sEh N).1)) (x3 := nI k) (B := B + 1) (by omega) w1.h hl
  unfold B_X0_passHours_4
  rw [i_leF hk (by omega), e1, Option.bind_some]
  dsimp only
  rw [hg, q_add, X_fmod (by omega), Option.bind_some, q_gI (Nat.mod_lt _ (by omega)) (by omega), q_cl (Nat.lt_trans (Nat.mod_lt _ (by omega)) (show 24 < 2147483648 by omega)), hR1.2.2.2.2.2.2.2.2.2.1 _ (Nat.mod_lt _ (by omega))]
  rw [show (sEh N).2 (293 + ((sEh N).2 3 + 1) % 24) = sHl N from rfl, e2, Option.bind_some, q_add, q_add]
  exact ⟨n2, rfl, hR2⟩
theorem RC.hs (hW : WF B N) (hR : RC n N) {m : Nat} (hm : m < 1000) (hB : B + 28 * m + 200 < 1073741824) : ∃ n', F_X0_passHours (nI m) n = some (nI (sHs N m).1, n') ∧ RC n' (sHs N m).2 := by
  have : ∃ z, mWh (fun x => B_X0_passHours_4 (nI m) x.1 x.2.1 x.2.2) fuel0 (nI 0, nI 0, n) = some z ∧ (z.1 = nI (sHs N m).1 ∧ RC z.2 (sHs N m).2) := by
    refine q_inv0 (I := fun k (x : Int32 × Int32 × NetS) => x.1 = nI (sHs N k).1 ∧ x.2.1 = nI k ∧ RC x.2.2 (sHs N k).2) (X := fun z : Int32 × NetS => z.1 = nI (sHs N m).1 ∧ RC z.2 (sHs N m).2) m (by omega) ⟨rfl, rfl, hR⟩ ?_ ?_
    · rintro k ⟨x1, x2, nk⟩ hk ⟨h1, h2, h3⟩
      dsimp only at h1 h2 h3
      subst h1 h2
      have hWk := hW.hs k
      obtain ⟨n', e1, e2⟩ := RC.ho (s := (sHs N k).1) (m := m) (by omega) hWk h3 hk hm
      exact ⟨_, e1, rfl, rfl, e2⟩
    · rintro ⟨x1, x2, nk⟩ ⟨h1, h2, h3⟩
      dsimp only at h1 h2 h3
      subst h1 h2
      refine ⟨(nI (sHs N m).1, nk), ?_, rfl, h3⟩
      dsimp only
      unfold B_X0_passHours_4
      rw [i_leT (Nat.le_refl _) (by omega)]
  obtain ⟨⟨z1, z2⟩, e1, e2, e3⟩ := this
  unfold F_X0_passHours
  rw [e1, Option.bind_some]
  dsimp only at e2 e3 ⊢
  rw [e2]
  exact ⟨z2, rfl, e3⟩
theorem WF.lg (hW : WF B N) {k : Nat} (hk : k < N 4) : WF B (sLg k N) := by
  obtain ⟨h0, h1, h2, h3, h4, w1, w2, w3, w4, w5, w6⟩ := hW
  have e : ∀ j, j < 317 → j ≠ 4 → sLg k N j = N j := fun j hj h4 => sLg_lo (by omega) h4
  refine ⟨by rw [e 0 (by omega) (by omega)]; exact h0, by rw [e 1 (by omega) (by omega)]; exact h1, by rw [e 2 (by omega) (by omega)]; exact h2, by rw [e 3 (by omega) (by omega)]; exact h3, by rw [sLg_4]; omega, ?_, ?_, ?_, ?_, ?_, ?_⟩
  · intro c hc; rw [e _ (by omega) (by omega)]; exact w1 c hc
  · intro c hc; rw [e _ (by omega) (by omega)]; exact w2 c hc
  · intro a b ha hb hab
    rw [e 0 (by omega) (by omega)] at ha hb ⊢
    rw [e _ (by omega) (by omega)]
    exact w3 a b ha hb hab
  · intro h hh; rw [e _ (by omega) (by omega)]; exact w4 h hh
  · intro i hi
    rw [sLg_4] at hi
    by_cases ei : i < k
    · exact cOk_eq (e 0 (by omega) (by omega)) (fun j _ => sLg_lo (by omega) (by omega)) (w5 i (by omega))
    · exact cOk_tr (k := i + 1) (e 0 (by omega) (by omega)) (fun j _ => by rw [sLg_hi (by omega), show 317 + 4 * i + j + 4 = 317 + 4 * (i + 1) + j by omega]) (w5 (i + 1) (by omega))
  · intro w hw
    rw [sC_eq (fun i hi => e _ (by omega) (by omega))]
    exact w6 w hw
theorem RC.lg (hW : WF B N) (hR : RC n N) {k : Nat} (hk : k < N 4) : ∃ n', F_X0_endCall (nI k) n = some n' ∧ RC n' (sLg k N) := by
  have h06 := hW.1.2
  have h80 : N 4 ≤ 80 := hW.2.2.2.2.1
  obtain ⟨c1, c2, c3, c4⟩ := cOk_lt h06 (hW.2.2.2.2.2.2.2.2.2.1 k hk)
  obtain ⟨r1, r2, r3, r4, r5, r6, r7, r8, r9, r10, r11, r12, r13⟩ := hR
  unfold F_X0_endCall
  rw [q_mul, Nat.mul_comm k 4, q_n1, X_hold (k := k) (by omega) c1 c2 (c4.imp id (fun z => z.1)) (r11 _ (by omega)) (r11 _ (by omega)) (r11 _ (by omega)), Option.bind_some, r5, q_sub (by omega), q_sub (by omega), q_mul, q_add, q_cpy (p := 0) (show 4 * k + 4 + (N 4 - k - 1) * 4 ≤ 320 by omega) (show 4 * k + (N 4 - k - 1) * 4 ≤ 320 by omega) (by omega) (by omega), q_cl (by omega), q_cl (by omega), q_cl (by omega)]
  have g : ∀ j, j < 317 → j ≠ 4 → sLg k N j = N j := fun j hj hj4 => sLg_lo (by omega) hj4
  refine ⟨_, rfl, r1.trans (congrArg nI (g 0 (by omega) (by omega)).symm), r2.trans (congrArg nI (g 1 (by omega) (by omega)).symm), r3.trans (congrArg nI (g 2 (by omega) (by omega)).symm), r4.trans (congrArg nI (g 3 (by omega) (by omega)).symm), ?_, r6.eq (fun j hj => g _ (by omega) (by omega)), r7.eq (fun j hj => g _ (by omega) (by omega)), r8.eq (fun j hj => g _ (by omega) (by omega)), ?_, r10.eq (fun j hj => g _ (by omega) (by omega)), ?_, ?_, ?_⟩
  · show gN_cc n - nI 1 = _
    rw [r5, q_sub (by omega), sLg_4]
  · intro w c hw hc
    rw [g _ (by omega) (by omega)]
    exact r9 w c hw hc
  · rw [sLg_4]
    intro j hj
    show va_cpy _ _ (4 * k + 4) (4 * k) ((N 4 - k - 1) * 4) j = _
    unfold va_cpy
    by_cases ej : j < 4 * k
    · rw [if_neg (by omega), sLg_lo (by omega) (by omega)]
      exact r11 j (by omega)
    · rw [if_pos (by omega), sLg_hi (by omega), show 317 + j + 4 = 317 + (4 * k + 4 + (j - 4 * k)) by omega]
      exact r11 _ (by omega)
  · intro c hc
    rw [sLg_4]
    refine hdU_sub (H := fun c => hC (sLg k N) c (N 4 - 1)) c1 c2 c3 c4 (fun c hc => ?_) c hc
    rw [r12 c hc, hC_lg (q := k) hk]
  · intro w hw
    rw [sC_eq (fun i hi => g _ (by omega) (by omega))]
    exact r13 w hw
theorem q_cp0 {f g : Nat → Int32} {m j : Nat} (h : j < m) : va_cpy f g 0 0 m j = f j := by
  unfold va_cpy
  rw [if_pos ⟨by omega, by omega⟩]
  congr 1
  omega
theorem RC.cp (h80 : N 4 ≤ 80) (hR : RC n N) (s : NetS) : ∃ n', F_X0_copyFrom n s = some n' ∧ RC n' N := by
  obtain ⟨r1, r2, r3, r4, r5, r6, r7, r8, r9, r10, r11, r12, r13⟩ := hR
  unfold F_X0_copyFrom
  rw [r5, q_mul, q_cpy (p := 0) (by omega) (by omega) (by omega) (by omega), q_cpy (p := 0) (by omega) (by omega) (by omega) (by omega), q_cpy (p := 0) (by omega) (by omega) (by omega) (by omega), q_cpy (p := 0) (by omega) (by omega) (by omega) (by omega), q_cpy (p := 0) (by omega) (by omega) (by omega) (by omega), q_cpy (p := 0) (by omega) (by omega) (by omega) (by omega), q_cpy (p := 0) (by omega) (by omega) (by omega) (by omega), q_cpy (p := 0) (by omega) (by omega) (by omega) (by omega), q_cl (by omega), q_cl (by omega), q_cl (by omega), q_cl (by omega), q_cl (by omega), q_cl (by omega)]
  refine ⟨_, rfl, r1, r2, r3, r4, rfl, ?_, ?_, ?_, ?_, ?_, ?_, ?_, ?_⟩
  · intro j hj; exact (q_cp0 hj).trans (r6 j hj)
  · intro j hj; exact (q_cp0 hj).trans (r7 j hj)
  · intro j hj; exact (q_cp0 hj).trans (r8 j hj)
  · intro w c hw hc; exact (q_cp0 (by omega)).trans (r9 w c hw hc)
  · intro j hj; exact (q_cp0 hj).trans (r10 j hj)
  · intro j hj; exact (q_cp0 (by omega)).trans (r11 j hj)
  · intro j hj; exact (q_cp0 hj).trans (r12 j hj)
  · intro j hj; exact (q_cp0 hj).trans (r13 j hj)
theorem X_fill {v : Int32} {m : Nat} {g : Nat → Int32} (hm : m < 4000) : ∃ g', F_X0_fill v m g = some g' ∧ ∀ j, j < m → g' j = v := by
  have : ∃ z, mWh (fun x => B_X0_fill_2 v x.1 m x.2) fuel0 (nI 0, g) = some z ∧ ∀ j, j < m → z j = v := by
    refine q_inv0 (I := fun k (x : Int32 × (Nat → Int32)) => x.1 = nI k ∧ ∀ j, j < k → x.2 j = v) (X := fun z : Nat → Int32 => ∀ j, j < m → z j = v) m hm ⟨rfl, fun j hj => absurd hj (Nat.not_lt_zero j)⟩ ?_ ?_
    · rintro k ⟨x, f⟩ hk ⟨h1, h2⟩
      dsimp only at h1 h2
      subst h1
      refine ⟨(nI (k + 1), upd f k v), ?_, rfl, ?_⟩
      · dsimp only
        unfold B_X0_fill_2
        rw [i_leF hk (by omega), q_gI hk (by omega), q_add, q_cl (by omega)]
      · intro j hj
        show upd f k v j = v
        unfold upd
        by_cases e : j = k
        · rw [if_pos e]
        · rw [if_neg e]; exact h2 j (by omega)
    · rintro ⟨x, f⟩ ⟨h1, h2⟩
      dsimp only at h1 h2
      subst h1
      refine ⟨f, ?_, h2⟩
      dsimp only
      unfold B_X0_fill_2
      rw [i_leT (Nat.le_refl _) (by omega)]
  obtain ⟨z, e1, e2⟩ := this
  unfold F_X0_fill
  rw [e1, Option.bind_some]
  exact ⟨z, rfl, e2⟩
end
