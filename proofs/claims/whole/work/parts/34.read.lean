/-! reading a text: class and reference side by side -/
def pT (t : TextS) (oc pl ft : Int32) (od : Nat → Int32) : TextS := mkT (gT_ln t) oc (gT_tn t) pl ft (gT_by t) od
def pM (m : ModS) (aa ft mn : Int32) (od : Nat → Int32) : ModS := mkM (gM_ss m) (gM_ty m) aa ft mn (gM_bd m) (gM_no m) (gM_fu m) (gM_nw m) (gM_as m) (gM_pa m) (gM_tx m) od
section
variable {t : TextS} {m : ModS} {oc pl ft aa mn : Int32} {od od' : Nat → Int32}
theorem pT_ln : gT_ln (pT t oc pl ft od) = gT_ln t := rfl
theorem pT_oc : gT_oc (pT t oc pl ft od) = oc := rfl
theorem pT_tn : gT_tn (pT t oc pl ft od) = gT_tn t := rfl
theorem pT_pl : gT_pl (pT t oc pl ft od) = pl := rfl
theorem pT_ft : gT_ft (pT t oc pl ft od) = ft := rfl
theorem pT_by : gT_by (pT t oc pl ft od) = gT_by t := rfl
theorem pT_od : gT_od (pT t oc pl ft od) = od := rfl
theorem pT_mk : mkT (gT_ln t) oc (gT_tn t) pl ft (gT_by t) od = pT t oc pl ft od := rfl
theorem pM_ss : gM_ss (pM m aa ft mn od) = gM_ss m := rfl
theorem pM_ty : gM_ty (pM m aa ft mn od) = gM_ty m := rfl
theorem pM_at : gM_at (pM m aa ft mn od) = aa := rfl
theorem pM_ft : gM_ft (pM m aa ft mn od) = ft := rfl
theorem pM_mn : gM_mn (pM m aa ft mn od) = mn := rfl
theorem pM_bd : gM_bd (pM m aa ft mn od) = gM_bd m := rfl
theorem pM_no : gM_no (pM m aa ft mn od) = gM_no m := rfl
theorem pM_fu : gM_fu (pM m aa ft mn od) = gM_fu m := rfl
theorem pM_nw : gM_nw (pM m aa ft mn od) = gM_nw m := rfl
theorem pM_as : gM_as (pM m aa ft mn od) = gM_as m := rfl
theorem pM_pa : gM_pa (pM m aa ft mn od) = gM_pa m := rfl
theorem pM_tx : gM_tx (pM m aa ft mn od) = gM_tx m := rfl
theorem pM_od : gM_od (pM m aa ft mn od) = od := rfl
theorem pM_mk : mkM (gM_ss m) (gM_ty m) aa ft mn (gM_bd m) (gM_no m) (gM_fu m) (gM_nw m) (gM_as m) (gM_pa m) (gM_tx m) od = pM m aa ft mn od := rfl
theorem q_nf {f : Nat} (h : f ≤ 1000) : ¬ nI f = -nI 1 := by rw [q_n1, q_eq (by omega) (by omega)]; omega
end
def TX (ln : Nat) (T : Nat → Nat) (t : TextS) (m : ModS) : Prop := ln ≤ 120 ∧ gT_ln t = nI ln ∧ gM_ty m = nI ln ∧ ∀ j, j < ln → T j ≤ 127 ∧ gT_by t j = nI (T j) ∧ gM_tx m j = nI (T j)
section
variable {ln : Nat} {T : Nat → Nat} {t : TextS} {m : ModS} {oc ft ft' mn : Int32} {od od' : Nat → Int32}
theorem t_sb (h : TX ln T t m) : ∀ (k p n : Nat), p + k = ln → k < n → ∃ q, p ≤ q ∧ q ≤ ln ∧ (q = ln ∨ T q ≠ 32) ∧ (∀ oc ft od, mWh (fun x => B_X1_skipBlanks_0 x) n (pT t oc (nI p) ft od) = some (pT t oc (nI q) ft od)) ∧ (∀ ft mn od, mWh (fun x => B_X3_sign_0 x) n (pM m (nI p) ft mn od) = some (pM m (nI q) ft mn od))
  | 0, p, n + 1, hk, hn => by
    have ⟨h1, h2, h3, h4⟩ := h
    have hp : p = ln := by omega
    subst hp
    refine ⟨p, Nat.le_refl _, Nat.le_refl _, Or.inl rfl, fun oc ft od => q_whr ?_, fun ft mn od => q_whr ?_⟩
    · unfold B_X1_skipBlanks_0
      rw [pT_ln, pT_pl, h2, i_leT (Nat.le_refl _) (by omega)]
    · unfold B_X3_sign_0
      rw [pM_ty, pM_at, h3, i_leT (Nat.le_refl _) (by omega)]
  | k + 1, p, n + 1, hk, hn => by
    have ⟨h1, h2, h3, h4⟩ := h
    obtain ⟨g1, g2, g3⟩ := h4 p (by omega)
    by_cases e : T p = 32
    · obtain ⟨q, q1, q2, q3, q4, q5⟩ := t_sb h k (p + 1) n (by omega) (by omega)
      refine ⟨q, by omega, q2, q3, fun oc ft od => ?_, fun ft mn od => ?_⟩
      · rw [q_whl (y := pT t oc (nI (p + 1)) ft od) (by
          unfold B_X1_skipBlanks_0
          rw [pT_ln, pT_pl, pT_by, h2, i_leF (by omega) (by omega), q_gI (by omega) (by omega), q_cl (by omega), g2, i_neF e, q_add, ← h2]
          rfl)]
        exact q4 oc ft od
      · rw [q_whl (y := pM m (nI (p + 1)) ft mn od) (by
          unfold B_X3_sign_0
          rw [pM_ty, pM_at, pM_tx, h3, i_leF (by omega) (by omega), q_gI (by omega) (by omega), q_cl (by omega), g3, i_neF e, q_add, ← h3]
          rfl)]
        exact q5 ft mn od
    · refine ⟨p, Nat.le_refl _, by omega, Or.inr e, fun oc ft od => q_whr ?_, fun ft mn od => q_whr ?_⟩
      · unfold B_X1_skipBlanks_0
        rw [pT_ln, pT_pl, pT_by, h2, i_leF (by omega) (by omega), q_gI (by omega) (by omega), q_cl (by omega), g2, i_neT e (by omega) (by omega)]
      · unfold B_X3_sign_0
        rw [pM_ty, pM_at, pM_tx, h3, i_leF (by omega) (by omega), q_gI (by omega) (by omega), q_cl (by omega), g3, i_neT e (by omega) (by omega)]
/-- the sign at q -/
def cAt (ln : Nat) (T : Nat → Nat) (q : Nat) : Int32 := if q < ln then nI (T q) else -nI 1
theorem t_bl (h : TX ln T t m) {p : Nat} (hp : p ≤ ln) : ∃ q, p ≤ q ∧ q ≤ ln ∧ (q = ln ∨ T q ≠ 32) ∧ (∀ oc ft od, F_X1_skipBlanks (pT t oc (nI p) ft od) = some (pT t oc (nI q) ft od)) ∧ (∀ ft mn od, F_X3_sign (pM m (nI p) ft mn od) = some (cAt ln T q, pM m (nI q) ft mn od)) := by
  have ⟨h1, h2, h3, h4⟩ := h
  obtain ⟨q, q1, q2, q3, q4, q5⟩ := t_sb h (ln - p) p fuel0 (by omega) (by unfold fuel0; omega)
  refine ⟨q, q1, q2, q3, fun oc ft od => ?_, fun ft mn od => ?_⟩
  · unfold F_X1_skipBlanks
    rw [q4, Option.bind_some]
  · unfold F_X3_sign
    rw [q5, Option.bind_some, pM_ty, pM_at, pM_tx, h3]
    unfold cAt
    by_cases e : q < ln
    · rw [i_leF e (by omega), q_gI (by omega) (by omega), q_cl (by omega), (h4 q e).2.2, if_pos e]
    · rw [i_leT (by omega) (by omega), if_neg e]
theorem t_sg (h : TX ln T t m) {p : Nat} (hp : p ≤ ln) (hs : p = ln ∨ T p ≠ 32) : ∀ ft mn od, F_X3_sign (pM m (nI p) ft mn od) = some (cAt ln T p, pM m (nI p) ft mn od) := by
  obtain ⟨q, q1, q2, q3, q4, q5⟩ := t_bl h hp
  have ⟨h1, h2, h3, h4⟩ := h
  intro ft mn od
  unfold F_X3_sign
  rw [show mWh (fun x => B_X3_sign_0 x) fuel0 (pM m (nI p) ft mn od) = some (pM m (nI p) ft mn od) from q_whr (n := 3999) (by
    unfold B_X3_sign_0
    rw [pM_ty, pM_at, pM_tx, h3]
    by_cases e : p < ln
    · rw [i_leF e (by omega), q_gI (by omega) (by omega), q_cl (by omega), (h4 p e).2.2, i_neT (by rcases hs with q | q <;> omega) (by have := (h4 p e).1; omega) (by omega)]
    · rw [i_leT (by omega) (by omega)]), Option.bind_some, pM_ty, pM_at, pM_tx, h3]
  unfold cAt
  by_cases e : p < ln
  · rw [i_leF e (by omega), q_gI (by omega) (by omega), q_cl (by omega), (h4 p e).2.2, if_pos e]
  · rw [i_leT (by omega) (by omega), if_neg e]
theorem t_isf (c : Nat) (hc : c < 2147483648) : F_X1_isFigure (nI c) = some (if 48 ≤ c ∧ c ≤ 57 then nI 1 else nI 0) ∧ F_X3_isFigure (nI c) = some (if 48 ≤ c ∧ c ≤ 57 then nI 1 else nI 0) := by
  unfold F_X1_isFigure F_X3_isFigure F_X3_in
  by_cases e1 : c < 48
  · rw [i_ltT e1 (by omega), if_neg (by omega)]
    exact ⟨rfl, rfl⟩
  · rw [i_ltF (by omega) (by omega)]
    by_cases e2 : 57 < c
    · rw [i_ltT e2 (by omega), if_neg (by omega)]
      exact ⟨rfl, rfl⟩
    · rw [i_ltF (by omega) (by omega), if_pos (by omega)]
      exact ⟨rfl, rfl⟩
theorem t_isn : F_X3_isFigure (-nI 1) = some (nI 0) := by decide +kernel
theorem Y_fails {p : Int32} {aa mn : Int32} {od : Nat → Int32} : F_X3_fails p (pM m aa (-nI 1) mn od) = some (pM m aa p mn od) := by
  unfold F_X3_fails
  exact if_neg (fun q => q rfl)
theorem Y_failf {p : Int32} {aa mn : Int32} {od : Nat → Int32} {f : Nat} (hf : f ≤ 1000) : F_X3_fails p (pM m aa (nI f) mn od) = some (pM m aa (nI f) mn od) := by
  unfold F_X3_fails
  exact if_pos (q_nf hf)
end
