def w4 (od : Nat → Int32) (k : Nat) (a b c d : Int32) : Nat → Int32 := upd (upd (upd (upd od k a) (k + 1) b) (k + 2) c) (k + 3) d
def wO (s : ModS) (k : Nat) (v : Int32) : ModS := mkM (gM_ss s) (gM_ty s) (gM_at s) (gM_ft s) (gM_mn s) (gM_bd s) (gM_no s) (gM_fu s) (gM_nw s) (gM_as s) (gM_pa s) (gM_tx s) (upd (gM_od s) k v)
theorem wO_p {m : ModS} {aa ft mn : Int32} {od : Nat → Int32} {k : Nat} {v : Int32} : wO (pM m aa ft mn od) k v = pM m aa ft mn (upd od k v) := rfl
/-- an order: both read it, or both fail at f -/
def OdR (ln : Nat) (t : TextS) (m : ModS) (oc : Int32) (i e : Nat) (x : Option TextS) (y : Option ModS) (P : (Nat → Int32) → (Nat → Int32) → Prop) : Prop := (∃ q od1 od2, e ≤ q ∧ q ≤ ln ∧ x = some (pT t oc (nI q) (-nI 1) od1) ∧ y = some (pM m (nI q) (-nI 1) (nI (i + 1)) od2) ∧ P od1 od2) ∨ (∃ f pl aa mn od1 od2, f ≤ ln ∧ pl ≤ ln ∧ x = some (pT t oc (nI pl) (nI f) od1) ∧ y = some (pM m aa (nI f) mn od2))
section
variable {ln : Nat} {T : Nat → Nat} {t : TextS} {m : ModS} {oc ft ft' mn : Int32} {od od' : Nat → Int32} {P : (Nat → Int32) → (Nat → Int32) → Prop}
theorem OdR.le {i e e' : Nat} {x : Option TextS} {y : Option ModS} (h : OdR ln t m oc i e x y P) (he : e' ≤ e) : OdR ln t m oc i e' x y P := by
  rcases h with ⟨q, od1, od2, h1, h2⟩ | h
  · exact Or.inl ⟨q, od1, od2, by omega, h2⟩
  · exact Or.inr h
theorem X_172 {x2 x3 x4 x5 : Int32} {s s' : TextS} {k : Nat} (hk : k + 3 < 160) (h : F_X1_readEnd s = some s') : J_X1_readOrder_172 (nI k) x2 x3 x4 x5 s = some (mkT (gT_ln s') (gT_oc s') (gT_tn s') (gT_pl s') (gT_ft s') (gT_by s') (w4 (gT_od s') k x5 x2 x3 x4)) := by
  unfold J_X1_readOrder_172
  rw [h, Option.bind_some, q_add, q_add, q_add, q_add, q_gI (by omega) (by omega), q_gI (by omega) (by omega), q_gI (by omega) (by omega), q_gI (by omega) (by omega), q_cl (by omega), q_cl (by omega), q_cl (by omega), q_cl (by omega)]
  rfl
theorem Y_360 {aa mn : Int32} : J_X3_order_360 (pM m aa ft mn od) = some (pM m (aa + nI 1) ft (mn + nI 1) od) := rfl
theorem t_ef {i e k pl f : Nat} {x2 x3 x4 x5 aa : Int32} (hln : ln ≤ 120) (hk : k + 3 < 160) (hf : f ≤ ln) (hp : pl ≤ ln) : OdR ln t m oc i e (J_X1_readOrder_172 (nI k) x2 x3 x4 x5 (pT t oc (nI pl) (nI f) od)) (J_X3_order_335 (pM m aa (nI f) mn od')) P := by
  right
  refine ⟨f, pl, aa + nI 1, mn + nI 1, w4 od k x5 x2 x3 x4, od', hf, hp, X_172 hk (X_endf (by omega)), ?_⟩
  unfold J_X3_order_335
  rw [pM_ft, if_pos (q_nf (by omega)), Y_360]
theorem t_e (h : TX ln T t m) {i k p : Nat} {x2 x3 x4 x5 : Int32} (hk : k + 3 < 160) (hp : p ≤ ln) (hP : P (w4 od k x5 x2 x3 x4) od') : OdR ln t m oc i (p + 1) (J_X1_readOrder_172 (nI k) x2 x3 x4 x5 (pT t oc (nI p) (-nI 1) od)) (J_X3_order_335 (pM m (nI p) (-nI 1) (nI i) od')) P := by
  have ⟨h1, h2, h3, h4⟩ := h
  obtain ⟨q, q1, q2, q3, q4, q5⟩ := t_bl h hp
  by_cases e : q < ln
  · obtain ⟨g1, g2, g3⟩ := h4 q e
    have hc : cAt ln T q = nI (T q) := if_pos e
    by_cases c : T q = 59
    · left
      refine ⟨q + 1, _, _, by omega, by omega, X_172 hk (s' := pT t oc (nI (q + 1)) (-nI 1) od) ?_, ?_, hP⟩
      · unfold F_X1_readEnd
        rw [pT_ft, if_pos rfl, q4, Option.bind_some, pT_ln, pT_pl, pT_by, h2, i_leF e (by omega), q_gI (by omega) (by omega), q_cl (by omega), g2, i_neF c, q_add, ← h2]
        rfl
      · unfold J_X3_order_335
        rw [pM_ft, if_neg (fun z => z rfl), q5, Option.bind_some]
        dsimp only
        rw [hc, i_eqT c, Y_360, q_add, q_add]
    · right
      refine ⟨q, q, nI (q + 1), nI (i + 1), w4 od k x5 x2 x3 x4, od', q2, q2, X_172 hk (s' := pT t oc (nI q) (nI q) od) ?_, ?_⟩
      · unfold F_X1_readEnd
        rw [pT_ft, if_pos rfl, q4, Option.bind_some, pT_ln, pT_pl, pT_by, h2, i_leF e (by omega), q_gI (by omega) (by omega), q_cl (by omega), g2, i_neT c (by omega) (by omega), ← h2]
        rfl
      · unfold J_X3_order_335
        rw [pM_ft, if_neg (fun z => z rfl), q5, Option.bind_some]
        dsimp only
        rw [hc, i_eqF c (by omega) (by omega), pM_at, Y_fails, Option.bind_some, Y_360, q_add, q_add]
  · right
    have hq : q = ln := by omega
    subst hq
    have hc : cAt q T q = -nI 1 := if_neg e
    refine ⟨q, q, nI (q + 1), nI (i + 1), w4 od k x5 x2 x3 x4, od', q2, q2, X_172 hk (s' := pT t oc (nI q) (nI q) od) ?_, ?_⟩
    · unfold F_X1_readEnd
      rw [pT_ft, if_pos rfl, q4, Option.bind_some, pT_ln, pT_pl, h2, i_leT (Nat.le_refl _) (by omega), ← h2]
      rfl
    · unfold J_X3_order_335
      rw [pM_ft, if_neg (fun z => z rfl), q5, Option.bind_some]
      dsimp only
      rw [hc, q_n1, i_eqF (show (4294967295 : Nat) ≠ 59 by omega) (by omega) (by omega), ← q_n1, pM_at, Y_fails, Option.bind_some, Y_360, q_add, q_add]
/-- a kind, one number -/
theorem k_num (h : TX ln T t m) {i p hi : Nat} {kc : Int32} (hi4 : i < 40) (hp : p ≤ ln) (hh : hi ≤ 99) (hP : ∀ v, v ≤ hi → P (w4 od (4 * i) kc (nI 0) (nI 0) (nI v)) (upd od' (4 * i + 1) (nI v))) : OdR ln t m oc i (p + 2) ((F_X1_readNumber (nI 0) (nI hi) (pT t oc (nI p) (-nI 1) od)).bind (fun v4 => J_X1_readOrder_172 (nI (4 * i)) (nI 0) (nI 0) v4.1 kc v4.2)) ((F_X3_number (nI 0) (nI hi) (pM m (nI p) (-nI 1) (nI i) od')).bind (fun v45 => gI (nI (4 * i) + nI 1) 240 (J_X3_order_335 (wO v45.2 (Int32.toNatClampNeg (nI (4 * i) + nI 1)) v45.1)))) P := by
  rcases t_num h hp (lo := 0) (hi := hi) (by omega) hh with ⟨q, v, q1, q2, q3, q4, q5, q6⟩ | ⟨f, q, w, u, q1, q2, q5, q6⟩
  · rw [q5, q6, Option.bind_some, Option.bind_some]
    dsimp only
    rw [q_add, q_gI (by omega) (by omega), q_cl (by omega), wO_p]
    exact (t_e h (by omega) q2 (hP v q4)).le (by omega)
  · rw [q5, q6, Option.bind_some, Option.bind_some]
    dsimp only
    rw [q_add, q_gI (by omega) (by omega), q_cl (by omega), wO_p]
    exact t_ef h.1 (by omega) q1 q2
/-- x -/
theorem k_fig (h : TX ln T t m) {i p : Nat} {kc : Int32} (hi4 : i < 40) (hp : p ≤ ln) (hP : ∀ v, v ≤ 1 → P (w4 od (4 * i) kc (nI 0) (nI 0) (nI v)) (upd od' (4 * i + 1) (nI v))) : OdR ln t m oc i (p + 2) ((F_X1_readFigure (nI 1) (pT t oc (nI p) (-nI 1) od)).bind (fun v4 => J_X1_readOrder_172 (nI (4 * i)) (nI 0) (nI 0) v4.1 kc v4.2)) ((F_X3_figure (nI 1) (-nI 1) (pM m (nI p) (-nI 1) (nI i) od')).bind (fun v45 => gI (nI (4 * i) + nI 1) 240 (J_X3_order_335 (wO v45.2 (Int32.toNatClampNeg (nI (4 * i) + nI 1)) v45.1)))) P := by
  rcases t_fig h hp (lm := 1) (by omega) with ⟨q, v, q1, q2, q4, q5, q6⟩ | ⟨q, q2, q5, q6⟩
  · rw [q5, q6, if_neg (q_nf (by omega)), Option.bind_some, Option.bind_some]
    dsimp only
    rw [q_add, q_gI (by omega) (by omega), q_cl (by omega), wO_p]
    exact (t_e h (by omega) q2 (hP v q4)).le (by omega)
  · rw [q5, q6, Option.bind_some, Option.bind_some]
    dsimp only
    rw [q_add, q_gI (by omega) (by omega), q_cl (by omega), wO_p]
    exact t_ef h.1 (by omega) q2 q2
theorem Y_290 {v aa : Int32} {k : Nat} (hk : k < 240) : J_X3_order_290 v (nI k) (pM m aa ft mn od) = J_X3_order_335 (pM m aa ft mn (upd od k v)) := by
  unfold J_X3_order_290
  rw [q_gI hk (by omega), q_cl (by omega)]
  rfl
theorem Y_229 {v aa : Int32} {k : Nat} (hk : k < 240) : J_X3_order_229 v (nI k) (pM m aa ft mn od) = J_X3_order_335 (pM m aa ft mn (upd od k v)) := by
  unfold J_X3_order_229
  rw [q_gI hk (by omega), q_cl (by omega)]
  rfl
/-- p -/
theorem k_two (h : TX ln T t m) {i p : Nat} {kc : Int32} (hi4 : i < 40) (hp : p ≤ ln) (hP : ∀ a v, a ≤ 23 → v ≤ 9 → P (w4 od (4 * i) kc (nI a) (nI 0) (nI v)) (upd (upd od' (4 * i + 1) (nI a)) (4 * i + 2) (nI v))) : OdR ln t m oc i (p + 3) ((F_X1_readNumber (nI 0) (nI 23) (pT t oc (nI p) (-nI 1) od)).bind (fun v20 => (F_X1_readNumber (nI 0) (nI 9) v20.2).bind (fun v22 => J_X1_readOrder_172 (nI (4 * i)) v20.1 (nI 0) v22.1 kc v22.2))) ((F_X3_number (nI 0) (nI 23) (pM m (nI p) (-nI 1) (nI i) od')).bind (fun v38 => gI (nI (4 * i) + nI 1) 240 (if ¬ (gM_ft v38.2) = (-nI 1) then (J_X3_order_290 (nI 0) (nI (4 * i) + (nI 2)) (wO v38.2 (Int32.toNatClampNeg (nI (4 * i) + nI 1)) v38.1)) else ((F_X3_number (nI 0) (nI 9) (wO v38.2 (Int32.toNatClampNeg (nI (4 * i) + nI 1)) v38.1)).bind (fun v43 => J_X3_order_290 v43.1 (nI (4 * i) + (nI 2)) v43.2))))) P := by
  rcases t_num h hp (lo := 0) (hi := 23) (by omega) (by omega) with ⟨q, v, q1, q2, q3, q4, q5, q6⟩ | ⟨f, q, w, u, q1, q2, q5, q6⟩
  · rw [q5, q6, Option.bind_some, Option.bind_some]
    dsimp only
    rw [q_add (4 * i) 1, q_add (4 * i) 2, q_gI (by omega) (by omega), q_cl (by omega), pM_ft, if_neg (fun z => z rfl), wO_p]
    rcases t_num h q2 (lo := 0) (hi := 9) (by omega) (by omega) with ⟨z, y, z1, z2, z3, z4, z5, z6⟩ | ⟨f, z, w, u, z1, z2, z5, z6⟩
    · rw [z5, z6, Option.bind_some, Option.bind_some]
      dsimp only
      rw [Y_290 (by omega)]
      exact (t_e h (by omega) z2 (hP v y q4 z4)).le (by omega)
    · rw [z5, z6, Option.bind_some, Option.bind_some]
      dsimp only
      rw [Y_290 (by omega)]
      exact t_ef h.1 (by omega) z1 z2
  · have hl := h.1
    rw [q5, q6, Option.bind_some, Option.bind_some]
    dsimp only
    rw [X_numf (by omega), Option.bind_some, q_add (4 * i) 1, q_add (4 * i) 2, q_gI (by omega) (by omega), q_cl (by omega), pM_ft, if_pos (q_nf (by omega)), wO_p, Y_290 (by omega)]
    exact t_ef h.1 (by omega) q1 q2
/-- two towns and a number -/
theorem k_tt (h : TX ln T t m) {i p n lo hi : Nat} {kc x3 : Int32} (hi4 : i < 40) (hp : p ≤ ln) (hn : gT_tn t = nI n) (h1n : 1 ≤ n) (h2n : n ≤ 10) (hl : lo ≤ hi) (hh : hi ≤ 99) (hx : x3 = nI (n - 1)) (hP : ∀ a b v, a < n → b < n → a ≠ b → lo ≤ v → v ≤ hi → P (w4 od (4 * i) kc (nI a) (nI b) (nI v)) (upd (upd (upd od' (4 * i + 1) (nI a)) (4 * i + 2) (nI b)) (4 * i + 3) (nI v))) : OdR ln t m oc i (p + 3) ((F_X1_readTown (-nI 1) (pT t oc (nI p) (-nI 1) od)).bind (fun v25 => (F_X1_readTown v25.1 v25.2).bind (fun v27 => (F_X1_readNumber (nI lo) (nI hi) v27.2).bind (fun v29 => J_X1_readOrder_172 (nI (4 * i)) v25.1 v27.1 v29.1 kc v29.2)))) ((F_X3_figure x3 (-nI 1) (pM m (nI p) (-nI 1) (nI i) od')).bind (fun v13 => gI (nI (4 * i) + (nI 1)) 240 (gI (nI (4 * i) + (nI 1)) 240 ((F_X3_figure x3 ((upd (gM_od v13.2) (Int32.toNatClampNeg (nI (4 * i) + (nI 1))) v13.1) (Int32.toNatClampNeg (nI (4 * i) + (nI 1)))) (wO v13.2 (Int32.toNatClampNeg (nI (4 * i) + (nI 1))) v13.1)).bind (fun v17 => gI (nI (4 * i) + (nI 2)) 240 (if ¬ (gM_ft v17.2) = (-nI 1) then (J_X3_order_229 (nI 0) (nI (4 * i) + (nI 3)) (wO v17.2 (Int32.toNatClampNeg (nI (4 * i) + (nI 2))) v17.1)) else ((F_X3_number (nI lo) (nI hi) (wO v17.2 (Int32.toNatClampNeg (nI (4 * i) + (nI 2))) v17.1)).bind (fun v28 => J_X3_order_229 v28.1 (nI (4 * i) + (nI 3)) v28.2)))))))) P := by
  subst hx
  have hln := h.1
  rcases t_town h hp hn h1n h2n (nt := -nI 1) with ⟨q, a, q1, q2, q3, q4, q5, q6⟩ | ⟨f, q, w, f1, q2, q5, q6⟩
  · rw [q5, q6, Option.bind_some, Option.bind_some]
    dsimp only
    rw [q_add (4 * i) 1, q_gI (by omega) (by omega), q_gI (by omega) (by omega), q_cl (by omega), wO_p, pM_od, show upd od' (4 * i + 1) (nI a) (4 * i + 1) = nI a from if_pos rfl]
    rcases t_town h q2 hn h1n h2n (nt := nI a) with ⟨z, b, z1, z2, z3, z4, z5, z6⟩ | ⟨f, z, w, f1, z2, z5, z6⟩
    · have hab : a ≠ b := fun q => z4 (by rw [q])
      rw [z5, z6, Option.bind_some, Option.bind_some]
      dsimp only
      rw [q_add (4 * i) 2, q_add (4 * i) 3, q_gI (by omega) (by omega), q_cl (by omega), pM_ft, if_neg (fun z => z rfl), wO_p]
      rcases t_num h z2 (lo := lo) (hi := hi) hl hh with ⟨y, v, y1, y2, y3, y4, y5, y6⟩ | ⟨f, y, w, u, y1, y2, y5, y6⟩
      · rw [y5, y6, Option.bind_some, Option.bind_some]
        dsimp only
        rw [Y_229 (by omega)]
        exact (t_e h (by omega) y2 (hP a b v q3 z3 hab y3 y4)).le (by omega)
      · rw [y5, y6, Option.bind_some, Option.bind_some]
        dsimp only
        rw [Y_229 (by omega)]
        exact t_ef h.1 (by omega) y1 y2
    · rw [z5, z6, Option.bind_some, Option.bind_some]
      dsimp only
      rw [X_numf (by omega), Option.bind_some, q_add (4 * i) 2, q_add (4 * i) 3, q_gI (by omega) (by omega), q_cl (by omega), pM_ft, if_pos (q_nf (by omega)), wO_p, Y_229 (by omega)]
      exact t_ef h.1 (by omega) f1 z2
  · rw [q5, q6, Option.bind_some, Option.bind_some]
    dsimp only
    rw [X_townf (by omega), Option.bind_some, X_numf (by omega), Option.bind_some, q_add (4 * i) 1, q_gI (by omega) (by omega), q_gI (by omega) (by omega), q_cl (by omega), wO_p]
    obtain ⟨g, g1, g2⟩ := Y_figf h (x := nI (n - 1)) (nt := (upd (gM_od (pM m (nI f) (nI f) (nI i) od')) (4 * i + 1) (nI 0)) (4 * i + 1)) (mn := nI i) (od := upd od' (4 * i + 1) (nI 0)) f1 (f := f) (by omega)
    rw [g2, Option.bind_some]
    dsimp only
    rw [q_add (4 * i) 2, q_add (4 * i) 3, q_gI (by omega) (by omega), q_cl (by omega), pM_ft, if_pos (q_nf (by omega)), wO_p, Y_229 (by omega)]
    exact t_ef h.1 (by omega) f1 q2
end
