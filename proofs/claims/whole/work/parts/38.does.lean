section
variable {B : Nat} {N : Nat → Nat}
theorem sPl_0 (hW : WF B N) : sPl N 0 = N 0 := by
  obtain ⟨p1, p2, p3⟩ := sPb_ok hW.1.1
  have h06 := hW.1
  unfold sPl
  rw [sAsk_0 (by omega) (by omega), uN_n (by omega)]
theorem sPm_0 (hW : WF B N) : ∀ m, sPm N m 0 = N 0
  | 0 => rfl
  | m + 1 => (sPl_0 (hW.pm m)).trans (sPm_0 hW m)
theorem sHo_0 (hW : WF B N) : (sHo N).2 0 = N 0 := by
  have h1 := hW.eh
  exact (sPm_0 h1.1.h _).trans ((uN_n (by omega)).trans (h1.2.2.2 0 (by omega) (by omega)))
theorem sHs_0 (hW : WF B N) : ∀ m, (sHs N m).2 0 = N 0
  | 0 => rfl
  | m + 1 => (sHo_0 (hW.hs m)).trans (sHs_0 hW m)
end
theorem q_a0 (v : Int32) : v + nI 0 = v := by rw [nI_0, Int32.add_zero]
section
variable {B : Nat} {N : Nat → Nat} {len ns ln : Nat} {L : Nat → Nat → Nat} {T : Nat → Nat} {r : RouS} {m : ModS} {g g' : Nat → Int32}
/-- an order is done: class and reference -/
theorem t_do (hB : B + 3000 < 1073741824) {n : NetS} (hW : WF B N) (hR : RC n N) (hM : RM (gM_nw m) N) {j c : Nat} (hj : j < c) (hc : c ≤ 40) (hO : OD (N 0) g (gM_od m) (4 * j)) (hmn : gM_mn m = nI c) : ∃ (e : Nat) (N' : Nat → Nat) (n' : NetS) (f' : Nat → Int32), e ≤ 1 ∧ F_X0_doOrder (nI (4 * j)) g n = some (nI e, n') ∧ (∀ x1, B_X3_does_59 x1 (nI (4 * j)) m = some (.inl (x1 + nI e, nI (4 * (j + 1)), sNw m f'))) ∧ WF (B + 2800) N' ∧ RC n' N' ∧ RM f' N' ∧ N' 0 = N 0 := by
  have h06 := hW.1
  have w1 := hW.2.2.2.2.2.1
  have w2 := hW.2.2.2.2.2.2.1
  have w4 := hW.2.2.2.2.2.2.2.2.1
  have hX : ∀ {q}, (if g (4 * j) = nI 43 then ((F_X0_passHours (g (4 * j + 3)) n).bind (fun v6 => some (((nI 0), v6.2)))) else (if g (4 * j) = nI 48 then ((F_X0_ask (g (4 * j + 1)) (g (4 * j + 2)) (g (4 * j + 3)) n).bind (fun v9 => if v9.1 = (-nI 5) then (some (((nI 0), v9.2))) else (some (((nI 1), v9.2))))) else (if g (4 * j) = nI 112 then (gI (g (4 * j + 1)) 24 (some (((nI 0), (mkN (gN_tc n) (gN_hb n) (gN_x n) (gN_hg n) (gN_cc n) (gN_w n) (gN_r n) (gN_hd n) (gN_st n) (gN_ct n) (gN_tt n) (upd (gN_ld n) (Int32.toNatClampNeg (g (4 * j + 1))) (g (4 * j + 3))) (gN_ca n)))))) else (if g (4 * j) = nI 114 then ((F_X0_linkCell (g (4 * j + 1)) (g (4 * j + 2))).bind (fun v15 => gI v15 36 (some (((nI 0), (mkN (gN_tc n) (gN_hb n) (gN_x n) (gN_hg n) (gN_cc n) (gN_w n) (upd (gN_r n) (Int32.toNatClampNeg v15) (g (4 * j + 3))) (gN_hd n) (gN_st n) (gN_ct n) (gN_tt n) (gN_ld n) (gN_ca n))))))) else (if g (4 * j) = nI 119 then ((F_X0_linkCell (g (4 * j + 1)) (g (4 * j + 2))).bind (fun v19 => gI v19 36 (some (((nI 0), (mkN (gN_tc n) (gN_hb n) (gN_x n) (gN_hg n) (gN_cc n) (upd (gN_w n) (Int32.toNatClampNeg v19) (g (4 * j + 3))) (gN_r n) (gN_hd n) (gN_st n) (gN_ct n) (gN_tt n) (gN_ld n) (gN_ca n))))))) else (some (((nI 0), (mkN (gN_tc n) (g (4 * j + 3)) (gN_x n) (gN_hg n) (gN_cc n) (gN_w n) (gN_r n) (gN_hd n) (gN_st n) (gN_ct n) (gN_tt n) (gN_ld n) (gN_ca n)))))))))) = some q → F_X0_doOrder (nI (4 * j)) g n = some q := by
    intro q hq
    unfold F_X0_doOrder
    rw [q_add, q_add, q_add, q_add, q_gI (by omega) (by omega), q_gI (by omega) (by omega), q_gI (by omega) (by omega), q_gI (by omega) (by omega), q_cl (by omega), q_cl (by omega), q_cl (by omega), q_cl (by omega)]
    exact hq
  have hY : ∀ x1, B_X3_does_59 x1 (nI (4 * j)) m = (if ¬ (gM_od m) (4 * j) = (nI 99) then (if ¬ (gM_od m) (4 * j) = (nI 43) then (if (gM_od m) (4 * j) = (nI 119) then (J_X3_does_162 x1 (nI (4 * j)) ((gM_od m) (4 * j)) ((gM_od m) (4 * j + 1)) ((gM_od m) (4 * j + 2)) m) else (if ¬ (gM_od m) (4 * j) = (nI 114) then (if ¬ (gM_od m) (4 * j) = (nI 112) then (gI (nI 1) 637 (some (.inl (x1, nI (4 * j + 4), (sNw m (upd (gM_nw m) (Int32.toNatClampNeg (nI 1)) ((gM_od m) (4 * j + 1)))))))) else (gI ((nI 293) + ((gM_od m) (4 * j + 1))) 637 (some (.inl (x1, nI (4 * j + 4), (sNw m (upd (gM_nw m) (Int32.toNatClampNeg ((nI 293) + ((gM_od m) (4 * j + 1)))) ((gM_od m) (4 * j + 2))))))))) else (J_X3_does_162 x1 (nI (4 * j)) ((gM_od m) (4 * j)) ((gM_od m) (4 * j + 1)) ((gM_od m) (4 * j + 2)) m))) else ((F_X3_passes ((gM_od m) (4 * j + 1)) m).bind (fun v28 => some (.inl (x1, nI (4 * j + 4), v28.2))))) else (gI (nI (4 * j + 3)) 240 ((F_X3_asks ((gM_od m) (4 * j + 1)) ((gM_od m) (4 * j + 2)) ((gM_od m) (Int32.toNatClampNeg (nI (4 * j + 3)))) m).bind (fun v31 => if ¬ v31.1 = (-nI 5) then (some (.inl ((x1 + (nI 1)), nI (4 * j + 4), v31.2))) else (some (.inl ((x1 + (nI 0)), nI (4 * j + 4), v31.2))))))) := by
    intro x1
    unfold B_X3_does_59
    rw [hmn, q_mul, i_leF (by omega) (by omega), q_add (4 * j) 1, q_add (4 * j) 2, q_add (4 * j) 3, q_add (4 * j) 4, q_gI (by omega) (by omega), q_gI (by omega) (by omega), q_gI (by omega) (by omega), q_cl (by omega), q_cl (by omega), q_cl (by omega), ← hmn]
  rcases hO with ⟨v, hv, a0, a3, b0, b1⟩ | ⟨a, b, v, ha, hb, hab, hv1, hv2, a0, a1, a2, a3, b0, b1, b2, b3⟩ | ⟨a, v, ha, hv, a0, a1, a3, b0, b1, b2⟩ | ⟨kk, a, b, v, hk, ha, hb, hab, hv, a0, a1, a2, a3, b0, b1, b2, b3⟩ | ⟨v, hv, a0, a3, b0, b1⟩
  · obtain ⟨n', x1, x2⟩ := RC.hs hW hR (m := v) (by omega) (by omega)
    obtain ⟨f', y1, y2⟩ := Y_hs hW hM (m := v) (by omega) (by omega)
    refine ⟨0, (sHs N v).2, n', f', by omega, hX ?_, fun z => ?_, (hW.hs v).mono (by omega), x2, y2, sHs_0 hW v⟩
    · rw [a0, a3, if_pos rfl, x1]
      rfl
    · rw [hY, b0, b1, i_neT (by omega) (by omega) (by omega), i_neF rfl, y1, q_a0]
      rfl
  · obtain ⟨n', x1, x2⟩ := RC.ask (by omega) hW hR (h := v) ha hb hab
    obtain ⟨f', y1, y2⟩ := Y_ask hW hM (h := v) ha hb hab
    refine ⟨if nI (sAsk a b v N).1 = -nI 5 then 0 else 1, (sAsk a b v N).2, n', f', by split <;> omega, hX ?_, fun z => ?_, (hW.ask ha hb hab hv1 hv2).mono (by omega), x2, y2, sAsk_0 (by omega) (by omega)⟩
    · rw [a0, a1, a2, a3, i_eqF (show (48 : Nat) ≠ 43 by omega) (by omega) (by omega), if_pos rfl, x1, Option.bind_some]
      by_cases e : nI (sAsk a b v N).1 = -nI 5
      · rw [if_pos e, if_pos e]
      · rw [if_neg e, if_neg e]
    · rw [hY, b0, b1, b2, i_neF rfl, q_gI (by omega) (by omega), q_cl (by omega), b3, y1, Option.bind_some]
      by_cases e : nI (sAsk a b v N).1 = -nI 5
      · rw [if_neg (fun q => q e), if_pos e]
        rfl
      · rw [if_pos e, if_neg e]
        rfl
  · refine ⟨0, uN N (293 + a) v, _, _, by omega, hX ?_, fun z => ?_, (hW.par (agr_u (by omega)) (by rw [uN_n (by omega)]; exact hW.2.1) (fun c hc => by rw [uN_n (by omega)]; exact w1 c hc) (fun c hc => by rw [uN_n (by omega)]; exact w2 c hc) (fun c hc => uN_le hv (w4 c hc))).mono (by omega), (hR.par (agr_u (by omega)) (hR.2.1.trans (congrArg nI (uN_n (by omega)).symm)) (hR.2.2.2.2.2.1.off (by omega)) (hR.2.2.2.2.2.2.1.off (by omega)) hR.2.2.2.2.2.2.2.2.2.1.put), (hM.put (by omega)), uN_n (by omega)⟩
    · rw [a0, a1, a3, i_eqF (show (112 : Nat) ≠ 43 by omega) (by omega) (by omega), i_eqF (show (112 : Nat) ≠ 48 by omega) (by omega) (by omega), if_pos rfl, q_gI (by omega) (by omega), q_cl (by omega)]
    · rw [hY, b0, b1, b2, i_neT (by omega) (by omega) (by omega), i_neT (by omega) (by omega) (by omega), i_eqF (show (112 : Nat) ≠ 119 by omega) (by omega) (by omega), i_neT (by omega) (by omega) (by omega), i_neF rfl, q_add 293 a, q_gI (by omega) (by omega), q_cl (by omega), q_a0]
      rfl
  · have hl := lk_lt (a := a) (b := b) (by omega) (by omega)
    rcases hk with rfl | rfl
    · refine ⟨0, uN N (41 + lk a b) v, _, _, by omega, hX ?_, fun z => ?_, (hW.par (agr_u (by omega)) (by rw [uN_n (by omega)]; exact hW.2.1) (fun c hc => by rw [uN_n (by omega)]; exact w1 c hc) (fun c hc => uN_le hv (w2 c hc)) (fun c hc => by rw [uN_n (by omega)]; exact w4 c hc)).mono (by omega), (hR.par (agr_u (by omega)) (hR.2.1.trans (congrArg nI (uN_n (by omega)).symm)) (hR.2.2.2.2.2.1.off (by omega)) hR.2.2.2.2.2.2.1.put (hR.2.2.2.2.2.2.2.2.2.1.off (by omega))), (hM.put (by omega)), uN_n (by omega)⟩
      · rw [a0, a1, a2, a3, i_eqF (show (114 : Nat) ≠ 43 by omega) (by omega) (by omega), i_eqF (show (114 : Nat) ≠ 48 by omega) (by omega) (by omega), i_eqF (show (114 : Nat) ≠ 112 by omega) (by omega) (by omega), if_pos rfl, X_link (by omega) (by omega), Option.bind_some, q_gI hl (by omega), q_cl (by omega)]
      · rw [hY, b0, b1, b2, i_neT (by omega) (by omega) (by omega), i_neT (by omega) (by omega) (by omega), i_eqF (show (114 : Nat) ≠ 119 by omega) (by omega) (by omega), i_neF rfl]
        unfold J_X3_does_162
        rw [i_neT (by omega) (by omega) (by omega)]
        unfold J_X3_does_178
        rw [Y_pair (by omega) (by omega), Option.bind_some, q_add (4 * j) 3, q_add 41, q_gI (by omega) (by omega), q_gI (by omega) (by omega), q_cl (by omega), q_cl (by omega), b3, q_a0, q_add (4 * j) 4]
        rfl
    · refine ⟨0, uN N (5 + lk a b) v, _, _, by omega, hX ?_, fun z => ?_, (hW.par (agr_u (by omega)) (by rw [uN_n (by omega)]; exact hW.2.1) (fun c hc => uN_le hv (w1 c hc)) (fun c hc => by rw [uN_n (by omega)]; exact w2 c hc) (fun c hc => by rw [uN_n (by omega)]; exact w4 c hc)).mono (by omega), (hR.par (agr_u (by omega)) (hR.2.1.trans (congrArg nI (uN_n (by omega)).symm)) hR.2.2.2.2.2.1.put (hR.2.2.2.2.2.2.1.off (by omega)) (hR.2.2.2.2.2.2.2.2.2.1.off (by omega))), (hM.put (by omega)), uN_n (by omega)⟩
      · rw [a0, a1, a2, a3, i_eqF (show (119 : Nat) ≠ 43 by omega) (by omega) (by omega), i_eqF (show (119 : Nat) ≠ 48 by omega) (by omega) (by omega), i_eqF (show (119 : Nat) ≠ 112 by omega) (by omega) (by omega), i_eqF (show (119 : Nat) ≠ 114 by omega) (by omega) (by omega), if_pos rfl, X_link (by omega) (by omega), Option.bind_some, q_gI hl (by omega), q_cl (by omega)]
      · rw [hY, b0, b1, b2, i_neT (by omega) (by omega) (by omega), i_neT (by omega) (by omega) (by omega), if_pos rfl]
        unfold J_X3_does_162
        rw [i_neF rfl]
        unfold J_X3_does_178
        rw [Y_pair (by omega) (by omega), Option.bind_some, q_add (4 * j) 3, q_add 5, q_gI (by omega) (by omega), q_gI (by omega) (by omega), q_cl (by omega), q_cl (by omega), b3, q_a0, q_add (4 * j) 4]
        rfl
  · refine ⟨0, uN N 1 v, _, _, by omega, hX ?_, fun z => ?_, (hW.par (agr_u (by omega)) (by rw [uN_s]; exact hv) (fun c hc => by rw [uN_n (by omega)]; exact w1 c hc) (fun c hc => by rw [uN_n (by omega)]; exact w2 c hc) (fun c hc => by rw [uN_n (by omega)]; exact w4 c hc)).mono (by omega), (hR.par (agr_u (by omega)) (by rw [uN_s]) (hR.2.2.2.2.2.1.off (by omega)) (hR.2.2.2.2.2.2.1.off (by omega)) (hR.2.2.2.2.2.2.2.2.2.1.off (by omega))), (hM.put (by omega)), uN_n (by omega)⟩
    · rw [a0, a3, i_eqF (show (120 : Nat) ≠ 43 by omega) (by omega) (by omega), i_eqF (show (120 : Nat) ≠ 48 by omega) (by omega) (by omega), i_eqF (show (120 : Nat) ≠ 112 by omega) (by omega) (by omega), i_eqF (show (120 : Nat) ≠ 114 by omega) (by omega) (by omega), i_eqF (show (120 : Nat) ≠ 119 by omega) (by omega) (by omega)]
    · rw [hY, b0, b1, i_neT (by omega) (by omega) (by omega), i_neT (by omega) (by omega) (by omega), i_eqF (show (120 : Nat) ≠ 119 by omega) (by omega) (by omega), i_neT (by omega) (by omega) (by omega), i_neT (by omega) (by omega) (by omega), q_gI (by omega) (by omega), q_cl (by omega), q_a0]
      rfl
end
