section
variable {ln : Nat} {T : Nat → Nat} {t : TextS} {m : ModS} {oc ft ft' mn : Int32} {od od' : Nat → Int32}
theorem Y_f36 {aa : Int32} : J_X3_figure_36 (pM m aa (-nI 1) mn od) = some (nI 0, pM m aa aa mn od) := by
  unfold J_X3_figure_36
  rw [pM_at, Y_fails, Option.bind_some]
theorem Y_f36f {aa : Int32} {f : Nat} (hf : f ≤ 1000) : J_X3_figure_36 (pM m aa (nI f) mn od) = some (nI 0, pM m aa (nI f) mn od) := by
  unfold J_X3_figure_36
  rw [pM_at, Y_failf hf, Option.bind_some]
/-- a figure up to lm -/
theorem t_fig (h : TX ln T t m) {p lm : Nat} (hp : p ≤ ln) (hl : lm ≤ 9) : (∃ q v, p < q ∧ q ≤ ln ∧ v ≤ lm ∧ (∀ oc od, F_X1_readFigure (nI lm) (pT t oc (nI p) (-nI 1) od) = some (nI v, pT t oc (nI q) (-nI 1) od)) ∧ (∀ nt mn od, F_X3_figure (nI lm) nt (pM m (nI p) (-nI 1) mn od) = if nI v = nt then some (nI 0, pM m (nI (q - 1)) (nI (q - 1)) mn od) else some (nI v, pM m (nI q) (-nI 1) mn od))) ∨ (∃ q, q ≤ ln ∧ (∀ oc od, F_X1_readFigure (nI lm) (pT t oc (nI p) (-nI 1) od) = some (nI 0, pT t oc (nI q) (nI q) od)) ∧ (∀ nt mn od, F_X3_figure (nI lm) nt (pM m (nI p) (-nI 1) mn od) = some (nI 0, pM m (nI q) (nI q) mn od))) := by
  have ⟨h1, h2, h3, h4⟩ := h
  obtain ⟨q, q1, q2, q3, q4, q5⟩ := t_bl h hp
  by_cases e : q < ln
  · obtain ⟨g1, g2, g3⟩ := h4 q e
    have hc : cAt ln T q = nI (T q) := if_pos e
    by_cases c1 : 48 ≤ T q ∧ T q - 48 ≤ lm
    · left
      refine ⟨q + 1, T q - 48, by omega, by omega, c1.2, fun oc od => ?_, fun nt mn od => ?_⟩
      · unfold F_X1_readFigure
        rw [pT_ft, if_pos rfl, q4, Option.bind_some, pT_ln, pT_pl, pT_by, h2, i_leF e (by omega), q_gI (by omega) (by omega), q_cl (by omega), g2, q_sub c1.1]
        unfold J_X1_readFigure_41
        rw [i_ltF (by omega) (by omega), i_leT c1.2 (by omega), pT_pl, q_add]
        rfl
      · unfold F_X3_figure
        rw [q5, Option.bind_some]
        dsimp only
        rw [pM_ft, if_neg (fun z => z rfl), hc, (t_isf (T q) (by omega)).2, Option.bind_some, if_pos (show 48 ≤ T q ∧ T q ≤ 57 by omega), if_neg q_1n0, q_sub c1.1, i_ltF c1.2 (by omega), pM_at, q_add, Y_f36]
        by_cases e2 : nI (T q - 48) = nt
        · rw [if_neg (fun z => z e2), if_pos e2]
          rfl
        · rw [if_pos e2, if_neg e2]
          rfl
    · right
      refine ⟨q, q2, fun oc od => ?_, fun nt mn od => ?_⟩
      · unfold F_X1_readFigure
        rw [pT_ft, if_pos rfl, q4, Option.bind_some, pT_ln, pT_pl, pT_by, h2, i_leF e (by omega), q_gI (by omega) (by omega), q_cl (by omega), g2]
        unfold J_X1_readFigure_41
        by_cases c2 : T q < 48
        · rw [if_pos (q_neglt (by omega) (by omega) c2)]
          rfl
        · rw [q_sub (by omega), i_ltF (by omega) (by omega), i_leF (by omega) (by omega)]
          rfl
      · unfold F_X3_figure
        rw [q5, Option.bind_some]
        dsimp only
        rw [pM_ft, if_neg (fun z => z rfl), hc, (t_isf (T q) (by omega)).2, Option.bind_some]
        by_cases c2 : 48 ≤ T q ∧ T q ≤ 57
        · rw [if_pos c2, if_neg q_1n0, q_sub (by omega), i_ltT (by omega) (by omega), Y_f36]
        · rw [if_neg c2, if_pos rfl, Y_f36]
  · right
    have hq : q = ln := by omega
    subst hq
    have hc : cAt q T q = -nI 1 := if_neg e
    refine ⟨q, q2, fun oc od => ?_, fun nt mn od => ?_⟩
    · unfold F_X1_readFigure
      rw [pT_ft, if_pos rfl, q4, Option.bind_some, pT_ln, pT_pl, h2, i_leT (Nat.le_refl _) (by omega)]
      unfold J_X1_readFigure_41
      rw [if_pos (by rw [q_n1]; decide +kernel)]
      rfl
    · unfold F_X3_figure
      rw [q5, Option.bind_some]
      dsimp only
      rw [pM_ft, if_neg (fun z => z rfl), hc, t_isn, Option.bind_some, if_pos rfl, Y_f36]
theorem X_figf {x : Int32} {oc pl : Int32} {f : Nat} (hf : f ≤ 1000) : F_X1_readFigure x (pT t oc pl (nI f) od) = some (nI 0, pT t oc pl (nI f) od) := by
  unfold F_X1_readFigure
  rw [pT_ft, if_neg (q_nf hf)]
theorem X_townf {x : Int32} {oc pl : Int32} {f : Nat} (hf : f ≤ 1000) : F_X1_readTown x (pT t oc pl (nI f) od) = some (nI 0, pT t oc pl (nI f) od) := by
  unfold F_X1_readTown
  rw [X_figf hf, Option.bind_some]
  dsimp only
  rw [pT_ft, if_pos (q_nf hf)]
theorem X_numf {x y : Int32} {oc pl : Int32} {f : Nat} (hf : f ≤ 1000) : F_X1_readNumber x y (pT t oc pl (nI f) od) = some (nI 0, pT t oc pl (nI f) od) := by
  unfold F_X1_readNumber
  rw [pT_ft, if_neg (q_nf hf)]
theorem X_endf {oc pl : Int32} {f : Nat} (hf : f ≤ 1000) : F_X1_readEnd (pT t oc pl (nI f) od) = some (pT t oc pl (nI f) od) := by
  unfold F_X1_readEnd
  rw [pT_ft, if_neg (q_nf hf)]
theorem Y_figf (h : TX ln T t m) {x nt mn : Int32} {p f : Nat} (hp : p ≤ ln) (hf : f ≤ 1000) : ∃ q, q ≤ ln ∧ F_X3_figure x nt (pM m (nI p) (nI f) mn od) = some (nI 0, pM m (nI q) (nI f) mn od) := by
  obtain ⟨q, q1, q2, q3, q4, q5⟩ := t_bl h hp
  refine ⟨q, q2, ?_⟩
  unfold F_X3_figure
  rw [q5, Option.bind_some]
  dsimp only
  rw [pM_ft, if_pos (q_nf hf), Y_f36f hf]
/-- a town, not nt -/
theorem t_town (h : TX ln T t m) {p n : Nat} {nt : Int32} (hp : p ≤ ln) (hn : gT_tn t = nI n) (h1n : 1 ≤ n) (h2n : n ≤ 10) : (∃ q v, p < q ∧ q ≤ ln ∧ v < n ∧ nI v ≠ nt ∧ (∀ oc od, F_X1_readTown nt (pT t oc (nI p) (-nI 1) od) = some (nI v, pT t oc (nI q) (-nI 1) od)) ∧ (∀ mn od, F_X3_figure (nI (n - 1)) nt (pM m (nI p) (-nI 1) mn od) = some (nI v, pM m (nI q) (-nI 1) mn od))) ∨ (∃ f q w, f ≤ ln ∧ q ≤ ln ∧ (∀ oc od, F_X1_readTown nt (pT t oc (nI p) (-nI 1) od) = some (w, pT t oc (nI q) (nI f) od)) ∧ (∀ mn od, F_X3_figure (nI (n - 1)) nt (pM m (nI p) (-nI 1) mn od) = some (nI 0, pM m (nI f) (nI f) mn od))) := by
  have ⟨h1, h2, h3, h4⟩ := h
  rcases t_fig h hp (lm := n - 1) (by omega) with ⟨q, v, q1, q2, q3, q4, q5⟩ | ⟨q, q2, q4, q5⟩
  · by_cases e : nI v = nt
    · right
      refine ⟨q - 1, q, nI v, by omega, q2, fun oc od => ?_, fun mn od => ?_⟩
      · unfold F_X1_readTown
        rw [pT_tn, hn, q_sub h1n, q4, Option.bind_some]
        dsimp only
        rw [pT_ft, if_neg (fun z => z rfl), if_neg (fun z => z e), pT_pl, q_sub (by omega)]
        rfl
      · rw [q5, if_pos e]
    · left
      refine ⟨q, v, q1, q2, by omega, e, fun oc od => ?_, fun mn od => ?_⟩
      · unfold F_X1_readTown
        rw [pT_tn, hn, q_sub h1n, q4, Option.bind_some]
        dsimp only
        rw [pT_ft, if_neg (fun z => z rfl), if_pos e]
      · rw [q5, if_neg e]
  · right
    refine ⟨q, q, nI 0, q2, q2, fun oc od => ?_, fun mn od => q5 nt mn od⟩
    unfold F_X1_readTown
    rw [pT_tn, hn, q_sub h1n, q4, Option.bind_some]
    dsimp only
    rw [pT_ft, if_pos (q_nf (by omega))]
/-- a run of figures from p0 on -/
theorem t_run (h : TX ln T t m) {p0 : Nat} {lo hi : Int32} : ∀ (k i n : Nat) (w u : Int32), p0 + i + k = ln → k < n → (i ≤ 2 → ∃ V, w = nI V ∧ u = nI V ∧ (i = 0 → V = 0) ∧ (i = 1 → V ≤ 9) ∧ V ≤ 99) → (3 ≤ i → u = nI 1000) → ∃ j w' u', i ≤ j ∧ p0 + j ≤ ln ∧ (j ≤ 2 → ∃ V, w' = nI V ∧ u' = nI V ∧ V ≤ 99) ∧ (3 ≤ j → u' = nI 1000) ∧ (∀ oc ft od, mWh (fun x : Int32 × TextS => B_X1_readNumber_22 lo hi (nI p0) x.1 x.2) n (w, pT t oc (nI (p0 + i)) ft od) = some (w', pT t oc (nI (p0 + j)) ft od)) ∧ (∀ ft mn od, mWh (fun x : Int32 × ModS => B_X3_number_13 lo hi (nI p0) x.1 x.2) n (u, pM m (nI (p0 + i)) ft mn od) = some (u', pM m (nI (p0 + j)) ft mn od))
  | 0, i, n + 1, w, u, hk, hn, hv, hu => by
    have ⟨h1, h2, h3, h4⟩ := h
    refine ⟨i, w, u, Nat.le_refl _, by omega, fun hi => ?_, hu, fun oc ft od => q_whr ?_, fun ft mn od => q_whr ?_⟩
    · obtain ⟨V, v1, v2, _, _, v3⟩ := hv hi
      exact ⟨V, v1, v2, v3⟩
    · dsimp only
      unfold B_X1_readNumber_22
      rw [pT_ln, pT_pl, h2, i_leT (by omega) (by omega)]
    · dsimp only
      unfold B_X3_number_13
      rw [pM_ty, pM_at, h3, i_leT (by omega) (by omega)]
  | k + 1, i, n + 1, w, u, hk, hn, hv, hu => by
    have ⟨h1, h2, h3, h4⟩ := h
    obtain ⟨g1, g2, g3⟩ := h4 (p0 + i) (by omega)
    by_cases e : 48 ≤ T (p0 + i) ∧ T (p0 + i) ≤ 57
    · have hx : ∃ u1, (i ≤ 1 → u1 = nI 10 * u + nI (T (p0 + i)) - nI 48) ∧ (2 ≤ i → u1 = nI 1000) ∧ (∀ ft mn od, (fun x : Int32 × ModS => B_X3_number_13 lo hi (nI p0) x.1 x.2) (u, pM m (nI (p0 + i)) ft mn od) = some (.inl (u1, pM m (nI (p0 + i + 1)) ft mn od))) := by
        by_cases e2 : i ≤ 1
        · refine ⟨_, fun _ => rfl, fun q => absurd q (by omega), fun ft mn od => ?_⟩
          dsimp only
          unfold B_X3_number_13
          rw [pM_ty, pM_at, pM_tx, h3, i_leF (by omega) (by omega), q_gI (by omega) (by omega), q_cl (by omega), g3, (t_isf _ (by omega)).2, Option.bind_some, if_pos e, if_neg q_1n0, q_sub (by omega), i_leF (by omega) (by omega), q_gI (by omega) (by omega), q_add (p0 + i) 1, ← h3]
          rfl
        · refine ⟨_, fun q => absurd q e2, fun _ => rfl, fun ft mn od => ?_⟩
          dsimp only
          unfold B_X3_number_13
          rw [pM_ty, pM_at, pM_tx, h3, i_leF (by omega) (by omega), q_gI (by omega) (by omega), q_cl (by omega), g3, (t_isf _ (by omega)).2, Option.bind_some, if_pos e, if_neg q_1n0, q_sub (by omega), i_leT (by omega) (by omega), q_add (p0 + i) 1, ← h3]
          rfl
      obtain ⟨u1, ua, ub, uc⟩ := hx
      obtain ⟨j, w', u', j1, j2, j3, j4, j5, j6⟩ := t_run h (p0 := p0) (lo := lo) (hi := hi) k (i + 1) n (w * nI 10 + nI (T (p0 + i)) - nI 48) u1 (by omega) (by omega) (fun hi => by
        obtain ⟨V, v1, v2, v3, v4, v5⟩ := hv (by omega)
        refine ⟨10 * V + T (p0 + i) - 48, ?_, ?_, ?_, ?_, ?_⟩
        · rw [v1, q_mul, q_add, q_sub (by omega), Nat.mul_comm V 10]
        · rw [ua (by omega), v2, q_mul, q_add, q_sub (by omega)]
        · omega
        · intro hz
          have := v3 (by omega)
          omega
        · by_cases hz : i = 0
          · have := v3 hz
            omega
          · have := v4 (by omega)
            omega) (fun hz => ub (by omega))
      refine ⟨j, w', u', by omega, j2, j3, j4, fun oc ft od => ?_, fun ft mn od => ?_⟩
      · rw [q_whl (y := (w * nI 10 + nI (T (p0 + i)) - nI 48, pT t oc (nI (p0 + (i + 1))) ft od)) (by
          dsimp only
          unfold B_X1_readNumber_22
          rw [pT_ln, pT_pl, pT_by, h2, i_leF (by omega) (by omega), q_gI (by omega) (by omega), q_cl (by omega), g2, (t_isf _ (by omega)).1, Option.bind_some, if_pos e, if_neg q_1n0, q_gI (by omega) (by omega), q_add (p0 + i) 1, ← h2]
          rfl)]
        exact j5 oc ft od
      · rw [q_whl (uc ft mn od)]
        exact j6 ft mn od
    · refine ⟨i, w, u, Nat.le_refl _, by omega, fun hi => ?_, hu, fun oc ft od => q_whr ?_, fun ft mn od => q_whr ?_⟩
      · obtain ⟨V, v1, v2, _, _, v3⟩ := hv hi
        exact ⟨V, v1, v2, v3⟩
      · dsimp only
        unfold B_X1_readNumber_22
        rw [pT_ln, pT_pl, pT_by, h2, i_leF (by omega) (by omega), q_gI (by omega) (by omega), q_cl (by omega), g2, (t_isf _ (by omega)).1, Option.bind_some, if_neg e, if_pos rfl]
      · dsimp only
        unfold B_X3_number_13
        rw [pM_ty, pM_at, pM_tx, h3, i_leF (by omega) (by omega), q_gI (by omega) (by omega), q_cl (by omega), g3, (t_isf _ (by omega)).2, Option.bind_some, if_neg e, if_pos rfl]
theorem Y_n106 {x3 x4 aa : Int32} : J_X3_number_106 x3 x4 (pM m aa (-nI 1) mn od) = some (x4, pM m aa x3 mn od) := by
  unfold J_X3_number_106
  rw [Y_fails, Option.bind_some]
/-- a number -/
theorem t_num (h : TX ln T t m) {p lo hi : Nat} (hp : p ≤ ln) (hl : lo ≤ hi) (hh : hi ≤ 99) : (∃ q v, p < q ∧ q ≤ ln ∧ lo ≤ v ∧ v ≤ hi ∧ (∀ oc od, F_X1_readNumber (nI lo) (nI hi) (pT t oc (nI p) (-nI 1) od) = some (nI v, pT t oc (nI q) (-nI 1) od)) ∧ (∀ mn od, F_X3_number (nI lo) (nI hi) (pM m (nI p) (-nI 1) mn od) = some (nI v, pM m (nI q) (-nI 1) mn od))) ∨ (∃ f q w u, f ≤ ln ∧ q ≤ ln ∧ (∀ oc od, F_X1_readNumber (nI lo) (nI hi) (pT t oc (nI p) (-nI 1) od) = some (w, pT t oc (nI q) (nI f) od)) ∧ (∀ mn od, F_X3_number (nI lo) (nI hi) (pM m (nI p) (-nI 1) mn od) = some (u, pM m (nI q) (nI f) mn od))) := by
  have ⟨h1, h2, h3, h4⟩ := h
  obtain ⟨p0, q1, q2, q3, q4, q5⟩ := t_bl h hp
  obtain ⟨j, w, u, j1, j2, j3, j4, j5, j6⟩ := t_run h (p0 := p0) (lo := nI lo) (hi := nI hi) (ln - p0) 0 fuel0 (nI 0) (nI 0) (by omega) (by unfold fuel0; omega) (fun _ => ⟨0, rfl, rfl, fun _ => rfl, fun _ => by omega, by omega⟩) (fun q => absurd q (by omega))
  have hX : ∀ oc od, F_X1_readNumber (nI lo) (nI hi) (pT t oc (nI p) (-nI 1) od) = if nI j < nI 1 then some (w, pT t oc (nI (p0 + j)) (nI p0) od) else if nI 2 < nI j then some (w, pT t oc (nI (p0 + j)) (nI p0) od) else if w < nI lo then some (w, pT t oc (nI (p0 + j)) (nI p0) od) else if w ≤ nI hi then some (w, pT t oc (nI (p0 + j)) (-nI 1) od) else some (w, pT t oc (nI (p0 + j)) (nI p0) od) := by
    intro oc od
    unfold F_X1_readNumber
    rw [pT_ft, if_pos rfl, q4, Option.bind_some, pT_pl]
    have := j5 oc (-nI 1) od
    rw [Nat.add_zero] at this
    rw [this, Option.bind_some]
    dsimp only
    rw [pT_pl, q_sub (by omega), show p0 + j - p0 = j by omega]
    rfl
  have hY : ∀ mn od, F_X3_number (nI lo) (nI hi) (pM m (nI p) (-nI 1) mn od) = if nI (p0 + j) = nI p0 then some (u, pM m (nI (p0 + j)) (nI p0) mn od) else (F_X3_in u (nI lo) (nI hi)).bind (fun v15 => if ¬ v15 = (nI 0) then (some ((u, pM m (nI (p0 + j)) (-nI 1) mn od))) else some (u, pM m (nI (p0 + j)) (nI p0) mn od)) := by
    intro mn od
    unfold F_X3_number
    rw [q5, Option.bind_some]
    dsimp only
    have := j6 (-nI 1) mn od
    rw [Nat.add_zero] at this
    rw [pM_at, this, Option.bind_some]
    dsimp only
    rw [pM_at, Y_n106]
  by_cases e0 : j = 0
  · right
    subst e0
    refine ⟨p0, p0, w, u, q2, q2, fun oc od => ?_, fun mn od => ?_⟩
    · rw [hX, i_ltT (by omega) (by omega)]
      rfl
    · rw [hY, i_eqT (by omega)]
      rfl
  by_cases e3 : 3 ≤ j
  · right
    refine ⟨p0, p0 + j, w, u, q2, j2, fun oc od => ?_, fun mn od => ?_⟩
    · rw [hX, i_ltF (by omega) (by omega), i_ltT (by omega) (by omega)]
    · rw [hY, i_eqF (by omega) (by omega) (by omega), j4 e3]
      unfold F_X3_in
      rw [i_ltF (by omega) (by omega), i_ltT (by omega) (by omega), Option.bind_some, i_neF rfl]
  have hj1 : 1 ≤ j := by omega
  have hj2 : j ≤ 2 := by omega
  obtain ⟨V, v1, v2, v3⟩ := j3 hj2
  clear j3 j4 j5 j6
  subst v1
  subst v2
  by_cases e : lo ≤ V ∧ V ≤ hi
  · left
    refine ⟨p0 + j, V, by omega, j2, e.1, e.2, fun oc od => ?_, fun mn od => ?_⟩
    · rw [hX, i_ltF hj1 (by omega), i_ltF hj2 (by omega), i_ltF e.1 (by omega), i_leT e.2 (by omega)]
    · rw [hY, i_eqF (by omega) (by omega) (by omega)]
      unfold F_X3_in
      rw [i_ltF e.1 (by omega), i_ltF e.2 (by omega), Option.bind_some, if_pos q_1n0]
  · right
    refine ⟨p0, p0 + j, nI V, nI V, q2, j2, fun oc od => ?_, fun mn od => ?_⟩
    · rw [hX, i_ltF hj1 (by omega), i_ltF hj2 (by omega)]
      by_cases c : V < lo
      · rw [i_ltT c (by omega)]
      · rw [i_ltF (by omega) (by omega), i_leF (by omega) (by omega)]
    · rw [hY, i_eqF (by omega) (by omega) (by omega)]
      unfold F_X3_in
      by_cases c : V < lo
      · rw [i_ltT c (by omega), Option.bind_some, i_neF rfl]
      · rw [i_ltF (by omega) (by omega), i_ltT (by omega) (by omega), Option.bind_some, i_neF rfl]
end
