/-! the reference's hours -/
section
variable {B : Nat} {N : Nat → Nat} {s : ModS}
theorem Y_pl (hW : WF B N) (hR : RM (gM_nw s) N) {x1 x2 x3 : Int32} {m k : Nat} (hk : k < m) (hm : m < 100) : ∃ f', B_X3_passes_111 x1 x2 x3 (nI m) (nI k) s = some (.inl (nI (k + 1), sNw s f')) ∧ RM f' (sPl N) := by
  have h0 := hW.1
  obtain ⟨f1, e1, hR1⟩ := Y_draws hW hR
  have hR1' : RM (gM_nw (sNw s f1)) (uN N 2 (sX (N 2))) := hR1
  have hW1 := hW.x (sX_lt (N 2))
  have g0 : uN N 2 (sX (N 2)) 0 = N 0 := uN_n (by omega)
  have g2 : uN N 2 (sX (N 2)) 2 = sX (N 2) := uN_s
  have q0 : gM_nw (sNw s f1) 0 = nI (N 0) := by rw [hR1'.g (by omega), g0]
  have q2 : gM_nw (sNw s f1) 2 = nI (sX (N 2)) := by rw [hR1'.g (by omega), g2]
  obtain ⟨p1, p2, p3⟩ := sPb_ok h0.1
  have hx := sX_lt (N 2)
  have hJ : ∃ f', J_X3_passes_185 x1 x2 x3 (nI m) (nI k) (nI (sPb N)) (nI (sPa N)) (sNw s f1) = some (.inl (nI (k + 1), sNw s f')) ∧ RM f' (sPl N) := by
    unfold J_X3_passes_185
    obtain ⟨f2, e2, hR2⟩ := Y_ask (h := sPh N) hW1 hR1' (a := sPa N) (b := sPb N) (by rw [g0]; exact p1) (by rw [g0]; exact p2) p3
    rw [q_gI (by omega) (by omega), q_gZ (by omega) (by omega), q_gZ (by omega) (by omega), q_cl (by omega), q2, q_div hx (by omega) (by omega), q_div (by omega) (by omega) (by omega), q_rem (by omega) (by omega) (by omega), q_add, show 1 + sX (N 2) / 4096 % 6 = sPh N from rfl, e2, Option.bind_some, q_add]
    exact ⟨f2, rfl, hR2⟩
  have hb : sX (N 2) / 1024 % N 0 < N 0 := Nat.mod_lt _ (by omega)
  have ha : sX (N 2) / 65536 % N 0 < N 0 := Nat.mod_lt _ (by omega)
  unfold B_X3_passes_111
  rw [i_leF hk (by omega), e1, Option.bind_some, q_gI (by omega) (by omega), q_gZ (by omega) (by omega), q_gI (by omega) (by omega), q_cl (by omega), q_cl (by omega), q0, q2, q_gZ (by omega) (by omega), q_gI (by omega) (by omega), q_gZ (by omega) (by omega), q_gI (by omega) (by omega), q_gZ (by omega) (by omega), q_div hx (by omega) (by omega), q_div hx (by omega) (by omega), q_div (by omega) (by omega) (by omega), q_div (by omega) (by omega) (by omega), q_rem (by omega) (by omega) (by omega), q_rem (by omega) (by omega) (by omega), q_add, q_gI (by omega) (by omega), q_gZ (by omega) (by omega), q_div (by omega) (by omega) (by omega), q_rem (by omega) (by omega) (by omega)]
  unfold sPb sPa at hJ
  by_cases e : sX (N 2) / 1024 % N 0 = sX (N 2) / 65536 % N 0
  · rw [i_neF e.symm]
    rw [if_pos e] at hJ
    exact hJ
  · rw [i_neT (fun q => e q.symm) (by omega) (by omega)]
    rw [if_neg e] at hJ
    exact hJ
theorem Y_pm (hW : WF B N) (hR : RM (gM_nw s) N) {x1 x2 x3 : Int32} {m : Nat} (hm : m ≤ 9) : ∃ f', mWh (fun x : Int32 × ModS => B_X3_passes_111 x1 x2 x3 (nI m) x.1 x.2) fuel0 (nI 0, s) = some (sNw s f') ∧ RM f' (sPm N m) := by
  have : ∃ z, mWh (fun x : Int32 × ModS => B_X3_passes_111 x1 x2 x3 (nI m) x.1 x.2) fuel0 (nI 0, s) = some z ∧ ∃ f, z = sNw s f ∧ RM f (sPm N m) := by
    refine q_inv0 (I := fun k (x : Int32 × ModS) => x.1 = nI k ∧ ∃ f, x.2 = sNw s f ∧ RM f (sPm N k)) (X := fun z => ∃ f, z = sNw s f ∧ RM f (sPm N m)) m (by omega) ⟨rfl, gM_nw s, rfl, hR⟩ ?_ ?_
    · rintro k ⟨x, sk⟩ hk ⟨h1, f, h2, h3⟩
      dsimp only at h1 h2
      subst h1 h2
      obtain ⟨f', e1, e2⟩ := Y_pl (s := sNw s f) (hW.pm k) h3 (x1 := x1) (x2 := x2) (x3 := x3) hk (by omega)
      exact ⟨_, e1, rfl, f', rfl, e2⟩
    · rintro ⟨x, sk⟩ ⟨h1, f, h2, h3⟩
      dsimp only at h1 h2
      subst h1 h2
      refine ⟨sNw s f, ?_, f, rfl, h3⟩
      dsimp only
      unfold B_X3_passes_111
      rw [i_leT (Nat.le_refl _) (by omega)]
  obtain ⟨z, e1, f, rfl, h⟩ := this
  exact ⟨f, e1, h⟩
theorem Y_es {q e : Nat} {M : Nat → Nat} {x1 x3 : Int32} (h80 : M 4 ≤ 80) (hR : RM (gM_nw s) M) (hq : q < M 4) (hc : cOk M q) : ∃ f', B_X3_passes_12 x1 x3 (nI e) (nI q) s = some (.inl (nI (if M (317 + 4 * q + 3) = 1 then e + 1 else e), nI (eS (q, M)).1, sNw s f')) ∧ RM f' (eS (q, M)).2 := by
  have hlf := hc.2.2.2.2
  unfold B_X3_passes_12
  rw [q_gI (by omega) (by omega), q_cl (by omega), hR.g (by omega), i_leF hq (by omega), q_mul, q_add, q_add, q_gI (by omega) (by omega), q_gI (by omega) (by omega), q_gI (by omega) (by omega), q_cl (by omega), hR.g (by omega), q_sub (by omega), show (upd (gM_nw s) (317 + 4 * q + 3) (nI (M (317 + 4 * q + 3) - 1))) (317 + 4 * q + 3) = nI (M (317 + 4 * q + 3) - 1) from if_pos rfl, q_add, q_add]
  have hR1 : RM (upd (gM_nw s) (317 + 4 * q + 3) (nI (M (317 + 4 * q + 3) - 1))) (uN M (317 + 4 * q + 3) (M (317 + 4 * q + 3) - 1)) := hR.put (by omega)
  have k4 : uN M (317 + 4 * q + 3) (M (317 + 4 * q + 3) - 1) 4 = M 4 := uN_n (by omega)
  unfold eS
  dsimp only
  by_cases e1 : M (317 + 4 * q + 3) = 1
  · rw [if_pos e1, if_pos e1, i_neF (by omega)]
    obtain ⟨f2, e2, hR2⟩ := Y_lg (s := sNw s (upd (gM_nw s) (317 + 4 * q + 3) (nI (M (317 + 4 * q + 3) - 1)))) (k := q) (by rw [k4]; exact h80) hR1 (by rw [k4]; exact hq)
    rw [show F_X3_letsGo (nI q) (mkM (gM_ss s) (gM_ty s) (gM_at s) (gM_ft s) (gM_mn s) (gM_bd s) (gM_no s) (gM_fu s) (upd (gM_nw s) (317 + 4 * q + 3) (nI (M (317 + 4 * q + 3) - 1))) (gM_as s) (gM_pa s) (gM_tx s) (gM_od s)) = _ from e2, Option.bind_some]
    rw [show M (317 + 4 * q + 3) - 1 = 0 by omega] at hR2
    exact ⟨f2, rfl, hR2⟩
  · rw [if_neg e1, if_neg e1, i_neT (by omega) (by omega) (by omega)]
    exact ⟨_, rfl, hR1⟩
theorem eS_fst (p : Nat × (Nat → Nat)) : (eS p).1 = if p.2 (317 + 4 * p.1 + 3) = 1 then p.1 else p.1 + 1 := by
  unfold eS
  split <;> rfl
theorem Y_eh (hW : WF B N) (hR : RM (gM_nw s) N) {x1 x3 : Int32} {e : Nat} : ∃ f', mWh (fun x : Int32 × Int32 × ModS => B_X3_passes_12 x1 x3 x.1 x.2.1 x.2.2) fuel0 (nI e, nI 0, s) = some (nI (e + (N 4 - (sEh N).1)), sNw s f') ∧ RM f' (sEh N).2 := by
  have h80 : N 4 ≤ 80 := hW.2.2.2.2.1
  have hcs := hW.2.2.2.2.2.2.2.2.2.1
  have : ∃ z, mWh (fun x : Int32 × Int32 × ModS => B_X3_passes_12 x1 x3 x.1 x.2.1 x.2.2) fuel0 (nI e, nI 0, s) = some z ∧ ∃ f, z = (nI (e + (N 4 - (sEh N).1)), sNw s f) ∧ RM f (sEh N).2 := by
    refine q_inv0 (I := fun k (x : Int32 × Int32 × ModS) => x.1 = nI (e + (k - (eH N k).1)) ∧ x.2.1 = nI (eH N k).1 ∧ ∃ f, x.2.2 = sNw s f ∧ RM f (eH N k).2) (X := fun z => ∃ f, z = (nI (e + (N 4 - (sEh N).1)), sNw s f) ∧ RM f (sEh N).2) (N 4) (by omega) ⟨rfl, rfl, gM_nw s, rfl, hR⟩ ?_ ?_
    · rintro k ⟨x, y, sk⟩ hk ⟨h1, h2, f, h3, h4⟩
      dsimp only at h1 h2 h3
      subst h1 h2 h3
      obtain ⟨i1, i2, i3, i4, i5⟩ := eH_inv hcs (show k ≤ N 4 by omega)
      have hck : cOk (eH N k).2 (eH N k).1 := cOk_tr (i3 0 (by omega) (by omega)) (fun r hr => by
        have := i5 0 r hr (by omega)
        simp only [Nat.add_zero] at this
        exact this) (hcs k hk)
      obtain ⟨f', e1, e2⟩ := Y_es (s := sNw s f) (q := (eH N k).1) (M := (eH N k).2) (e := e + (k - (eH N k).1)) (x1 := x1) (x3 := x3) (by omega) h4 (by omega) hck
      refine ⟨_, e1, ?_, rfl, f', rfl, e2⟩
      dsimp only
      rw [show eH N (k + 1) = eS (eH N k) from rfl, eS_fst]
      by_cases q : (eH N k).2 (317 + 4 * (eH N k).1 + 3) = 1
      · rw [if_pos q, if_pos q]; congr 1; omega
      · rw [if_neg q, if_neg q]; congr 1; omega
    · rintro ⟨x, y, sk⟩ ⟨h1, h2, f, h3, h4⟩
      dsimp only at h1 h2 h3
      subst h1 h2 h3
      obtain ⟨i1, i2, i3, i4, i5⟩ := eH_inv hcs (Nat.le_refl (N 4))
      refine ⟨(nI (e + (N 4 - (sEh N).1)), sNw s f), ?_, f, rfl, h4⟩
      dsimp only
      unfold B_X3_passes_12
      have h4' : RM (gM_nw (sNw s f)) (eH N (N 4)).2 := h4
      rw [q_gI (by omega) (by omega), q_cl (by omega), h4'.g (by omega), i_leT (by omega) (by omega)]
      rfl
  obtain ⟨z, e1, f, rfl, h⟩ := this
  exact ⟨f, e1, h⟩
theorem Y_ho (hB : B + 200 < 1073741824) (hW : WF B N) (hR : RM (gM_nw s) N) {m k e : Nat} (hk : k < m) (hm : m < 1000) : ∃ f', B_X3_passes_4 (nI m) (nI e) (nI k) s = some (.inl (nI (e + (sHo N).1), nI (k + 1), sNw s f')) ∧ RM f' (sHo N).2 := by
  obtain ⟨f1, e1, hR1⟩ := Y_eh hW hR (x1 := nI m) (x3 := nI k) (e := e)
  obtain ⟨w1, w2, w3, w4⟩ := hW.eh
  have h3 := w1.2.2.2.1
  have hl := hW.ho.2
  have hR1' : RM (gM_nw (sNw s f1)) (sEh N).2 := hR1
  have hR2 : RM (upd f1 3 (nI ((sEh N).2 3 + 1))) (uN (sEh N).2 3 ((sEh N).2 3 + 1)) := RM.put hR1 (by omega)
  obtain ⟨f2, e2, hR3⟩ := Y_pm (s := sNw s (upd f1 3 (nI ((sEh N).2 3 + 1)))) (x1 := nI m) (x2 := nI (e + (N 4 - (sEh N).1))) (x3 := nI k) w1.h hR2 hl
  have hmod : ((sEh N).2 3 + 1) % 24 < 24 := Nat.mod_lt _ (by omega)
  unfold B_X3_passes_4
  rw [i_leF hk (by omega), e1, Option.bind_some]
  dsimp only
  rw [q_gI (by omega) (by omega), q_gI (by omega) (by omega), q_gI (by omega) (by omega), q_gZ (by omega) (by omega), q_cl (by omega), hR1'.g (by omega), q_add, show (upd (gM_nw (sNw s f1)) 3 (nI ((sEh N).2 3 + 1))) 3 = nI ((sEh N).2 3 + 1) from if_pos rfl, q_div (by omega) (by omega) (by omega), q_rem (by omega) (by omega) (by omega), q_add, q_gI (by omega) (by omega), q_cl (by omega), show (upd (gM_nw (sNw s f1)) 3 (nI ((sEh N).2 3 + 1))) (293 + ((sEh N).2 3 + 1) % 24) = nI (sHl N) from (if_neg (by omega)).trans (hR1.g (by omega))]
  rw [show mWh (fun x : Int32 × ModS => B_X3_passes_111 (nI m) (nI (e + (N 4 - (sEh N).1))) (nI k) (nI (sHl N)) x.1 x.2) fuel0 (nI 0, mkM (gM_ss (sNw s f1)) (gM_ty (sNw s f1)) (gM_at (sNw s f1)) (gM_ft (sNw s f1)) (gM_mn (sNw s f1)) (gM_bd (sNw s f1)) (gM_no (sNw s f1)) (gM_fu (sNw s f1)) (upd (gM_nw (sNw s f1)) 3 (nI ((sEh N).2 3 + 1))) (gM_as (sNw s f1)) (gM_pa (sNw s f1)) (gM_tx (sNw s f1)) (gM_od (sNw s f1))) = _ from e2, Option.bind_some, q_add]
  exact ⟨f2, rfl, hR3⟩
theorem Y_hs (hW : WF B N) (hR : RM (gM_nw s) N) {m : Nat} (hm : m < 1000) (hB : B + 28 * m + 200 < 1073741824) : ∃ f', F_X3_passes (nI m) s = some (nI (sHs N m).1, sNw s f') ∧ RM f' (sHs N m).2 := by
  have : ∃ z, mWh (fun x : Int32 × Int32 × ModS => B_X3_passes_4 (nI m) x.1 x.2.1 x.2.2) fuel0 (nI 0, nI 0, s) = some z ∧ ∃ f, z = (nI (sHs N m).1, sNw s f) ∧ RM f (sHs N m).2 := by
    refine q_inv0 (I := fun k (x : Int32 × Int32 × ModS) => x.1 = nI (sHs N k).1 ∧ x.2.1 = nI k ∧ ∃ f, x.2.2 = sNw s f ∧ RM f (sHs N k).2) (X := fun z => ∃ f, z = (nI (sHs N m).1, sNw s f) ∧ RM f (sHs N m).2) m (by omega) ⟨rfl, rfl, gM_nw s, rfl, hR⟩ ?_ ?_
    · rintro k ⟨x, y, sk⟩ hk ⟨h1, h2, f, h3, h4⟩
      dsimp only at h1 h2 h3
      subst h1 h2 h3
      obtain ⟨f', e1, e2⟩ := Y_ho (s := sNw s f) (e := (sHs N k).1) (m := m) (by omega) (hW.hs k) h4 hk hm
      exact ⟨_, e1, rfl, rfl, f', rfl, e2⟩
    · rintro ⟨x, y, sk⟩ ⟨h1, h2, f, h3, h4⟩
      dsimp only at h1 h2 h3
      subst h1 h2 h3
      refine ⟨(nI (sHs N m).1, sNw s f), ?_, f, rfl, h4⟩
      dsimp only
      unfold B_X3_passes_4
      rw [i_leT (Nat.le_refl _) (by omega)]
  obtain ⟨z, e1, f, rfl, h⟩ := this
  unfold F_X3_passes
  rw [e1, Option.bind_some]
  exact ⟨f, rfl, h⟩
end
