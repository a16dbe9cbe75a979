section
variable {m : ModS}
/-- keeping a state leaves the orders -/
theorem Y_keep_od {len : Nat} (hlen : len ≤ 5) (hs : gM_ss m = nI len) : ∀ m1, F_X3_keeps m = some m1 → gM_od m1 = gM_od m ∧ gM_mn m1 = gM_mn m := by
  intro m1 h
  unfold F_X3_keeps at h
  rw [hs] at h
  by_cases e : len = 5
  · subst e
    rw [i_neF rfl, Y_k10, Option.bind_some] at h
    rw [show gM_ss (mkM (gM_ss m) (gM_ty m) (gM_at m) (gM_ft m) (gM_mn m) (gM_bd m) (gM_no m) (gM_fu m) (gM_nw m) (gM_as m) (fun k => if k < 2548 then gM_pa m (k + 637) else gM_pa m k) (gM_tx m) (gM_od m)) - nI 1 = nI 4 from by
      show gM_ss m - nI 1 = nI 4
      rw [hs, q_sub (by omega)], Y_k51 (l := 4) (by omega) rfl] at h
    have h := Option.some.inj h
    subst h
    exact ⟨rfl, rfl⟩
  · rw [i_neT e (by omega) (by omega), Y_k51 (l := len) (by omega) hs] at h
    have h := Option.some.inj h
    subst h
    exact ⟨rfl, rfl⟩
end
section
variable {ln : Nat} {T : Nat → Nat} {t : TextS} {m : ModS} {od od' : Nat → Int32}
/-- the orders one after another -/
theorem t_rds (h : TX ln T t m) {n : Nat} (hn : gT_tn t = nI n) (hw : gM_nw m 0 = nI n) (h1n : 1 ≤ n) (h2n : n ≤ 10) : ∀ (fu i p : Nat) (od od' : Nat → Int32), p < ln → T p ≠ 32 → 3 * i ≤ p → ln - p + 1 < fu → (∀ j, j < i → OD n od od' (4 * j)) → (∃ c od1 od2, c ≤ 40 ∧ mWh (fun x : Int32 × TextS => B_X1_read_45 x.1 x.2) fu (nI i, pT t (nI i) (nI p) (-nI 1) od) = some (pT t (nI c) (nI ln) (-nI 1) od1) ∧ mWh (fun x : ModS => B_X3_does_15 x) fu (pM m (nI p) (-nI 1) (nI i) od') = some (pM m (nI ln) (-nI 1) (nI c) od2) ∧ ∀ j, j < c → OD n od1 od2 (4 * j)) ∨ (∃ f oc pl aa mn od1 od2, f ≤ ln ∧ mWh (fun x : Int32 × TextS => B_X1_read_45 x.1 x.2) fu (nI i, pT t (nI i) (nI p) (-nI 1) od) = some (pT t oc pl (nI f) od1) ∧ mWh (fun x : ModS => B_X3_does_15 x) fu (pM m (nI p) (-nI 1) (nI i) od') = some (pM m aa (nI f) mn od2))
  | 0, i, p, od, od', hp, hT, h3, hf, hO => by omega
  | fu + 1, i, p, od, od', hp, hT, h3, hf, hO => by
    have ⟨h1, h2, h3', h4⟩ := h
    have hX : ∀ {s7 s9 : TextS}, F_X1_readOrder (nI (4 * i)) (pT t (nI i) (nI p) (-nI 1) od) = some s7 → F_X1_skipBlanks s7 = some s9 → (fun x : Int32 × TextS => B_X1_read_45 x.1 x.2) (nI i, pT t (nI i) (nI p) (-nI 1) od) = some (.inl (nI (i + 1), mkT (gT_ln s9) (gT_oc s9 + nI 1) (gT_tn s9) (gT_pl s9) (gT_ft s9) (gT_by s9) (gT_od s9))) := by
      intro s7 s9 e7 e9
      dsimp only
      unfold B_X1_read_45
      rw [i_leF (by omega) (by omega), pT_ft, if_neg (fun z => z rfl), pT_ln, pT_pl, h2, i_leF hp (by omega), q_mul, Nat.mul_comm i 4, e7, Option.bind_some, e9, Option.bind_some, q_add]
    rcases t_ord h (i := i) (p := p) (oc := nI i) (od := od) (od' := od') (by omega) hp hT hn hw h1n h2n with ⟨q, od1, od2, a1, a2, a3, a4, a5, a6, a7⟩ | ⟨f, pl, aa, mn, od1, od2, a1, a2, a3, a4⟩
    · obtain ⟨z, z1, z2, z3, z4, z5⟩ := t_bl h a2
      have e1 := hX a3 (z4 _ _ _)
      rw [show mkT (gT_ln (pT t (nI i) (nI z) (-nI 1) od1)) (gT_oc (pT t (nI i) (nI z) (-nI 1) od1) + nI 1) (gT_tn (pT t (nI i) (nI z) (-nI 1) od1)) (gT_pl (pT t (nI i) (nI z) (-nI 1) od1)) (gT_ft (pT t (nI i) (nI z) (-nI 1) od1)) (gT_by (pT t (nI i) (nI z) (-nI 1) od1)) (gT_od (pT t (nI i) (nI z) (-nI 1) od1)) = pT t (nI i + nI 1) (nI z) (-nI 1) od1 from rfl, q_add] at e1
      rw [q_whl e1]
      have hO' : ∀ j, j < i + 1 → OD n od1 od2 (4 * j) := by
        intro j hj
        by_cases e : j = i
        · subst e; exact a7
        · exact (hO j (by omega)).eq (fun k hk => a5 _ (by omega)) (fun k hk => a6 _ (by omega))
      by_cases e : z < ln
      · rw [q_whl (y := pM m (nI z) (-nI 1) (nI (i + 1)) od2) (by
          unfold B_X3_does_15
          rw [a4, Option.bind_some, pM_ft, if_neg (fun z => z rfl), z5, Option.bind_some]
          dsimp only
          rw [show cAt ln T z = nI (T z) from if_pos e, if_pos (q_nf (by have := (h4 z e).1; omega))])]
        exact t_rds h hn hw h1n h2n fu (i + 1) z od1 od2 e (by rcases z3 with q | q <;> omega) (by omega) (by omega) hO'
      · left
        have hz : z = ln := by omega
        subst hz
        refine ⟨i + 1, od1, od2, by omega, ?_, q_whr ?_, hO'⟩
        · obtain ⟨fu', rfl⟩ : ∃ k, fu = k + 1 := ⟨fu - 1, by omega⟩
          refine q_whr ?_
          dsimp only
          unfold B_X1_read_45
          by_cases e4 : 40 ≤ i + 1
          · rw [i_leT e4 (by omega)]
          · rw [i_leF (by omega) (by omega), pT_ft, if_neg (fun z => z rfl), pT_ln, pT_pl, h2, i_leT (Nat.le_refl _) (by omega)]
        · unfold B_X3_does_15
          rw [a4, Option.bind_some, pM_ft, if_neg (fun z => z rfl), z5, Option.bind_some]
          dsimp only
          rw [show cAt z T z = -nI 1 from if_neg e, if_neg (fun z => z rfl)]
    · right
      obtain ⟨z, z1, z2, z3, z4, z5⟩ := t_bl h a2
      have e1 := hX a3 (z4 _ _ _)
      rw [show mkT (gT_ln (pT t (nI i) (nI z) (nI f) od1)) (gT_oc (pT t (nI i) (nI z) (nI f) od1) + nI 1) (gT_tn (pT t (nI i) (nI z) (nI f) od1)) (gT_pl (pT t (nI i) (nI z) (nI f) od1)) (gT_ft (pT t (nI i) (nI z) (nI f) od1)) (gT_by (pT t (nI i) (nI z) (nI f) od1)) (gT_od (pT t (nI i) (nI z) (nI f) od1)) = pT t (nI i + nI 1) (nI z) (nI f) od1 from rfl, q_add] at e1
      refine ⟨f, nI (i + 1), nI z, aa, mn, od1, od2, a1, ?_, q_whr ?_⟩
      · rw [q_whl e1]
        obtain ⟨fu', rfl⟩ : ∃ k, fu = k + 1 := ⟨fu - 1, by omega⟩
        refine q_whr ?_
        dsimp only
        unfold B_X1_read_45
        by_cases e4 : 40 ≤ i + 1
        · rw [i_leT e4 (by omega)]
        · rw [i_leF (by omega) (by omega), pT_ft, if_pos (q_nf (by omega))]
      · unfold B_X3_does_15
        rw [a4, Option.bind_some, pM_ft, if_pos (q_nf (by omega))]
/-- the text is read -/
theorem t_read (h : TX ln T t m) {n : Nat} (hw : gM_nw m 0 = nI n) (h1n : 1 ≤ n) (h2n : n ≤ 10) : ∃ s1 : TextS, gT_ln s1 = gT_ln t ∧ gT_by s1 = gT_by t ∧ ((∃ c od2, c ≤ 40 ∧ F_X1_read (nI n) t = some (-nI 1, s1) ∧ gT_oc s1 = nI c ∧ mWh (fun x : ModS => B_X3_does_15 x) fuel0 (pM m (nI 0) (-nI 1) (nI 0) (gM_od m)) = some (pM m (nI ln) (-nI 1) (nI c) od2) ∧ ∀ j, j < c → OD n (gT_od s1) od2 (4 * j)) ∨ (∃ f aa mn od2, f ≤ ln ∧ F_X1_read (nI n) t = some (nI f, s1) ∧ mWh (fun x : ModS => B_X3_does_15 x) fuel0 (pM m (nI 0) (-nI 1) (nI 0) (gM_od m)) = some (pM m aa (nI f) mn od2))) := by
  have ⟨h1, h2, h3, h4⟩ := h
  have ht : TX ln T (mkT (gT_ln t) (nI 0) (nI n) (nI 0) (-nI 1) (gT_by t) (gT_od t)) m := h
  obtain ⟨q, q1, q2, q3, q4, q5⟩ := t_bl ht (p := 0) (by omega)
  have q4' := q4 (nI 0) (-nI 1) (gT_od t)
  have hY : ∀ fu, mWh (fun x : ModS => B_X3_does_15 x) (fu + 1) (pM m (nI 0) (-nI 1) (nI 0) (gM_od m)) = mWh (fun x : ModS => B_X3_does_15 x) (fu + 1) (pM m (nI q) (-nI 1) (nI 0) (gM_od m)) := by
    intro fu
    have : B_X3_does_15 (pM m (nI 0) (-nI 1) (nI 0) (gM_od m)) = B_X3_does_15 (pM m (nI q) (-nI 1) (nI 0) (gM_od m)) := by
      unfold B_X3_does_15 F_X3_order
      rw [q5, t_sg ht q2 q3]
      rfl
    rw [q_wh, q_wh, this]
  have hR : F_X1_read (nI n) t = if nI q < nI ln then J_X1_read_43 (pT (mkT (gT_ln t) (nI 0) (nI n) (nI 0) (-nI 1) (gT_by t) (gT_od t)) (nI 0) (nI q) (-nI 1) (gT_od t)) else J_X1_read_43 (pT (mkT (gT_ln t) (nI 0) (nI n) (nI 0) (-nI 1) (gT_by t) (gT_od t)) (nI 0) (nI q) (nI ln) (gT_od t)) := by
    unfold F_X1_read
    rw [show mkT (gT_ln t) (nI 0) (nI n) (nI 0) (-nI 1) (gT_by t) (gT_od t) = pT (mkT (gT_ln t) (nI 0) (nI n) (nI 0) (-nI 1) (gT_by t) (gT_od t)) (nI 0) (nI 0) (-nI 1) (gT_od t) from rfl, show F_X1_skipBlanks (pT (mkT (gT_ln t) (nI 0) (nI n) (nI 0) (-nI 1) (gT_by t) (gT_od t)) (nI 0) (nI 0) (-nI 1) (gT_od t)) = _ from q4', Option.bind_some, ← h2]
    rfl
  by_cases e : q < ln
  · rw [hR, i_ltT e (by omega), show fuel0 = 3999 + 1 from rfl, hY]
    unfold J_X1_read_43
    rcases t_rds ht (n := n) rfl hw h1n h2n fuel0 0 q (gT_od t) (gM_od m) e (by rcases q3 with z | z <;> omega) (by omega) (by unfold fuel0; omega) (fun j hj => absurd hj (by omega)) with ⟨c, od1, od2, c1, c2, c3, c4⟩ | ⟨f, oc, pl, aa, mn, od1, od2, c1, c2, c3⟩
    · refine ⟨pT (mkT (gT_ln t) (nI 0) (nI n) (nI 0) (-nI 1) (gT_by t) (gT_od t)) (nI c) (nI ln) (-nI 1) od1, rfl, rfl, Or.inl ⟨c, od2, c1, ?_, rfl, c3, c4⟩⟩
      rw [c2, Option.bind_some]
      rfl
    · refine ⟨pT (mkT (gT_ln t) (nI 0) (nI n) (nI 0) (-nI 1) (gT_by t) (gT_od t)) oc pl (nI f) od1, rfl, rfl, Or.inr ⟨f, aa, mn, od2, c1, ?_, c3⟩⟩
      rw [c2, Option.bind_some]
      rfl
  · have hq : q = ln := by omega
    subst hq
    obtain ⟨aa, mn, od2, o1⟩ := t_orn h (od' := gM_od m) (i := 0) (by omega) hw h1n
    refine ⟨pT (mkT (gT_ln t) (nI 0) (nI n) (nI 0) (-nI 1) (gT_by t) (gT_od t)) (nI 0) (nI q) (nI q) (gT_od t), rfl, rfl, Or.inr ⟨q, aa, mn, od2, Nat.le_refl _, ?_, ?_⟩⟩
    · rw [hR, i_ltF (by omega) (by omega)]
      unfold J_X1_read_43
      rw [show mWh (fun x : Int32 × TextS => B_X1_read_45 x.1 x.2) fuel0 (nI 0, pT (mkT (gT_ln t) (nI 0) (nI n) (nI 0) (-nI 1) (gT_by t) (gT_od t)) (nI 0) (nI q) (nI q) (gT_od t)) = some (pT (mkT (gT_ln t) (nI 0) (nI n) (nI 0) (-nI 1) (gT_by t) (gT_od t)) (nI 0) (nI q) (nI q) (gT_od t)) from q_whr (n := 3999) (by
        dsimp only
        unfold B_X1_read_45
        rw [i_leF (by omega) (by omega), pT_ft, if_pos (q_nf (by omega))]), Option.bind_some]
      rfl
    · rw [show fuel0 = 3999 + 1 from rfl, hY]
      refine q_whr ?_
      unfold B_X3_does_15
      rw [o1, Option.bind_some, pM_ft, if_pos (q_nf (by omega))]
end
section
variable {B : Nat} {N : Nat → Nat} {len ns ln : Nat} {L : Nat → Nat → Nat} {T : Nat → Nat} {r : RouS} {m : ModS}
/-- does -/
theorem op_does (hB : B + 130000 < 1073741824) (h : TRp B N len ns L ln T r m) : OpR (B + 115000) (F_X2_does r) (F_X3_does m) := by
  have ⟨hW, hR, hM, hS, hx, b1, b2, b3⟩ := h
  have h06 := hW.1
  have hw : gM_nw m 0 = nI (N 0) := hM.g (by omega)
  obtain ⟨s1, s2, s3, hh⟩ := t_read (t := gR_txt r) (m := m) hx hw (by omega) (by omega)
  have hx1 : RX ln T (mkR (gR_sc r) (gR_ns r) (gR_bd r) (gR_no r) (gR_fu r) (gR_now r) (gR_tri r) (gR_s0 r) (gR_s1 r) (gR_s2 r) (gR_s3 r) (gR_s4 r) s1) m := ⟨hx.1, s2.trans hx.2.1, hx.2.2.1, fun j hj => ⟨(hx.2.2.2 j hj).1, (congrFun s3 j).trans (hx.2.2.2 j hj).2.1, (hx.2.2.2 j hj).2.2⟩⟩
  unfold F_X2_does F_X3_does
  rw [hR.1]
  rcases hh with ⟨c, od2, c1, c2, c3, c4, c5⟩ | ⟨f, aa, mn, od2, c1, c2, c3⟩
  · have hp : TRp B N len ns L ln T (mkR (gR_sc r) (gR_ns r) (gR_bd r) (gR_no r) (gR_fu r) (gR_now r) (gR_tri r) (gR_s0 r) (gR_s1 r) (gR_s2 r) (gR_s3 r) (gR_s4 r) s1) (pM m (nI ln) (-nI 1) (nI c) od2) := ⟨hW, hR, hM, hS, hx1, b1, b2, b3⟩
    have k6 := Y_keep_od (m := pM m (nI ln) (-nI 1) (nI c) od2) hS.1 hS.2.2.2.1
    obtain ⟨r1, m1, len', ns', L', k1, k2, hk, k3, k4, k5⟩ := hp.keep
    obtain ⟨k7, k8⟩ := k6 m1 k2
    rw [c2, Option.bind_some, show mkM (gM_ss m) (gM_ty m) (nI 0) (-nI 1) (nI 0) (gM_bd m) (gM_no m) (gM_fu m) (gM_nw m) (gM_as m) (gM_pa m) (gM_tx m) (gM_od m) = pM m (nI 0) (-nI 1) (nI 0) (gM_od m) from rfl, c4, Option.bind_some]
    dsimp only
    rw [if_pos rfl, pM_ft, if_pos rfl, k1, k2, Option.bind_some, Option.bind_some]
    have hl : ∃ z z', mWh (fun x : Int32 × Int32 × RouS => B_X2_does_33 x.1 x.2.1 x.2.2) fuel0 (nI 0, nI 0, r1) = some z ∧ mWh (fun x : Int32 × Int32 × ModS => B_X3_does_59 x.1 x.2.1 x.2.2) fuel0 (nI 0, nI 0, m1) = some z' ∧ z.1 = z'.1 ∧ TR (B + 2800 * c) z.2 z'.2 := by
      refine q_two0 (I := fun j (x : Int32 × Int32 × RouS) (y : Int32 × Int32 × ModS) => x.1 = y.1 ∧ x.2.1 = nI j ∧ y.2.1 = nI (4 * j) ∧ gR_txt x.2.2 = s1 ∧ gM_od y.2.2 = od2 ∧ gM_mn y.2.2 = nI c ∧ ∃ N', N' 0 = N 0 ∧ TRp (B + 2800 * j) N' len' ns' L' ln T x.2.2 y.2.2) (X := fun (z : Int32 × RouS) (z' : Int32 × ModS) => z.1 = z'.1 ∧ TR (B + 2800 * c) z.2 z'.2) 0 c (by omega) (by omega) ⟨rfl, rfl, rfl, k5, k7, k8, N, rfl, hk⟩ ?_ ?_
      · rintro j ⟨x1, x2, x3⟩ ⟨y1, y2, y3⟩ hj ⟨e1, e2, e3, e4, e5, e6, N', e7, e8⟩
        dsimp only at e1 e2 e3 e4 e5 e6 e8
        subst e1
        subst e2
        subst e3
        have ⟨hW', hR', hM', _⟩ := e8
        have hO := c5 j hj
        rw [← e7, ← e5] at hO
        obtain ⟨e, N2, n2, f2, g1, g2, g3, g4, g5, g6, g7⟩ := t_do (g := gT_od s1) (by omega) hW' hR' hM' hj c1 hO e6
        refine ⟨(x1 + nI e, nI (j + 1), setN x3 n2), (x1 + nI e, nI (4 * (j + 1)), sNw y3 f2), ?_, g3 x1, rfl, rfl, rfl, e4, e5, e6, N2, g7.trans e7, TRp.now e8 (by omega) (g4.mono (by omega)) g5 g6⟩
        dsimp only
        unfold B_X2_does_33
        rw [e4, c3, i_leF hj (by omega), q_mul, Nat.mul_comm j 4, g2, Option.bind_some]
        dsimp only
        by_cases ez : e = 0
        · subst ez
          rw [if_pos rfl, q_a0, q_add, ← e4]
        · have e1 : e = 1 := by omega
          subst e1
          rw [if_neg q_1n0, q_add j 1, ← e4]
      · rintro ⟨x1, x2, x3⟩ ⟨y1, y2, y3⟩ ⟨e1, e2, e3, e4, e5, e6, N', e7, e8⟩
        dsimp only at e1 e2 e3 e4 e5 e6 e8
        subst e1
        subst e2
        subst e3
        refine ⟨(x1, x3), (x1, y3), ?_, ?_, rfl, TR.of e8⟩
        · dsimp only
          unfold B_X2_does_33
          rw [e4, c3, i_leT (Nat.le_refl _) (by omega)]
        · dsimp only
          unfold B_X3_does_59
          rw [e6, q_mul, i_leT (Nat.le_refl _) (by omega)]
    obtain ⟨z, z', l1, l2, l3, l4⟩ := hl
    rw [l1, l2, Option.bind_some, Option.bind_some]
    exact OpR.mk l3 (l4.mono (by omega))
  · rw [c2, Option.bind_some, show mkM (gM_ss m) (gM_ty m) (nI 0) (-nI 1) (nI 0) (gM_bd m) (gM_no m) (gM_fu m) (gM_nw m) (gM_as m) (gM_pa m) (gM_tx m) (gM_od m) = pM m (nI 0) (-nI 1) (nI 0) (gM_od m) from rfl, c3, Option.bind_some]
    dsimp only
    have h120 := hx.1
    rw [if_neg (q_nf (by omega)), pM_ft, if_neg (q_nf (by omega))]
    exact OpR.mk rfl (TR.mono (TR.of (⟨hW, hR, hM, hS, hx1, b1, b2, b3⟩ : TRp B N len ns L ln T (mkR (gR_sc r) (gR_ns r) (gR_bd r) (gR_no r) (gR_fu r) (gR_now r) (gR_tri r) (gR_s0 r) (gR_s1 r) (gR_s2 r) (gR_s3 r) (gR_s4 r) s1) (pM m aa (nI f) mn od2))) (by omega))
end
