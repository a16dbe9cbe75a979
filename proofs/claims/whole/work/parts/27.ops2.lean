/-! more calls -/
section
variable {B : Nat} {N : Nat → Nat} {n : NetS}
theorem l2 (N : Nat → Nat) (c k : Nat) : (cO N c k = false ∧ N (317 + 4 * k + 2) = NV) ∨ (N (317 + 4 * k + 2) ≠ NV ∧ cO N c k = (decide (lk (N (317 + 4 * k)) (N (317 + 4 * k + 2)) = c) || decide (lk (N (317 + 4 * k + 2)) (N (317 + 4 * k + 1)) = c))) := by
  unfold cO
  by_cases e : N (317 + 4 * k + 2) = NV
  · left; simp [e]
  · right; simp [e]
theorem X_over (hW : WF B N) (hR : RC n N) {l : Nat} (hl : l < 36) : F_X0_callsOverLink (nI l) n = some (nI (oC N l (N 4))) := by
  have h80 : N 4 ≤ 80 := hW.2.2.2.2.1
  have hcc := hR.2.2.2.2.1
  have hca := hR.2.2.2.2.2.2.2.2.2.2.1
  have hff : (if (false = true) then 1 else 0 : Nat) = 0 := rfl
  have htt : (if (true = true) then 1 else 0 : Nat) = 1 := rfl
  have hl : mWh (fun x : Int32 × Int32 => B_X0_callsOverLink_4 (nI l) x.1 x.2 n) fuel0 (nI 0, nI 0) = some (nI (oC N l (N 4))) := q_for0 (b := fun x : Int32 × Int32 => B_X0_callsOverLink_4 (nI l) x.1 x.2 n) (S := fun k => (nI (oC N l k), nI k)) (N 4) (nI (oC N l (N 4))) (by omega) (fun k hk => by
    obtain ⟨c1, c2, c3, c4⟩ := cOk_lt hW.1.2 (hW.2.2.2.2.2.2.2.2.2.1 k hk)
    dsimp only
    unfold B_X0_callsOverLink_4
    have a0 := hca (4 * k) (by omega)
    have a1 : gN_ca n (4 * k + 1) = nI (N (317 + 4 * k + 1)) := hca (4 * k + 1) (by omega)
    have a2 : gN_ca n (4 * k + 2) = nI (N (317 + 4 * k + 2)) := hca (4 * k + 2) (by omega)
    rw [hcc, i_leF hk (by omega), q_mul, Nat.mul_comm k 4, q_add (4 * k) 2, q_add (4 * k) 0, q_add (4 * k) 1, Nat.add_zero (4 * k), q_gI (by omega) (by omega), q_gI (by omega) (by omega), q_gI (by omega) (by omega), q_cl (by omega), q_cl (by omega), q_cl (by omega), a0, a1, a2, q_n1]
    show _ = some (Sum.inl (nI (oC N l k + if cO N l k = true then 1 else 0), nI (k + 1)))
    rcases l2 N l k with ⟨e1, e2⟩ | ⟨e1, e2⟩
    · rw [i_eqT e2, e1, hff, Nat.add_zero, q_add]
    · have c6 : N (317 + 4 * k + 2) < 6 := (c4.resolve_left e1).1
      have l1 := lk_lt c1 c6
      have l3 := lk_lt c6 c2
      rw [i_eqF e1 (by omega) (show (4294967295 : Nat) < 4294967296 by omega), X_link c1 c6, Option.bind_some, X_link c6 c2, Option.bind_some, e2]
      by_cases e3 : lk (N (317 + 4 * k)) (N (317 + 4 * k + 2)) = l
      · rw [i_eqT e3, q_add, q_add]
        simp [e3]
      · rw [i_eqF e3 (by omega) (by omega)]
        by_cases e4 : lk (N (317 + 4 * k + 2)) (N (317 + 4 * k + 1)) = l
        · rw [i_neF e4, q_add, q_add]
          simp [e4]
        · rw [i_neT e4 (by omega) (by omega), q_add]
          simp [e3, e4]) (by
    dsimp only
    unfold B_X0_callsOverLink_4
    rw [hcc, i_leT (Nat.le_refl _) (by omega)])
  unfold F_X0_callsOverLink
  rw [hl, Option.bind_some]
theorem Y_sum {s : ModS} (hR : RM (gM_nw s) N) {w : Nat} (hw : w < 5) : F_X3_sumOf (nI w) s = some (nI (sC N w 36)) := by
  have hl : mWh (fun x : Int32 × Int32 => B_X3_sumOf_4 (nI w) x.1 x.2 s) fuel0 (nI 0, nI 0) = some (nI (sC N w 36)) := q_for0 (b := fun x : Int32 × Int32 => B_X3_sumOf_4 (nI w) x.1 x.2 s) (S := fun k => (nI (sC N w k), nI k)) 36 (nI (sC N w 36)) (by omega) (fun k hk => by
    dsimp only
    unfold B_X3_sumOf_4
    rw [i_leF hk (by omega), q_mul, q_add, q_add, q_gI (by omega) (by omega), q_cl (by omega), hR.g (by omega), q_add, q_add]
    rfl) (by
    dsimp only
    unfold B_X3_sumOf_4
    rw [i_leT (Nat.le_refl _) (by omega)])
  unfold F_X3_sumOf
  rw [hl, Option.bind_some]
end
/-- every link of one kind -/
def sLn (o v : Nat) (N : Nat → Nat) : Nat → Nat := fun j => if o ≤ j ∧ j < o + 36 then v else N j
theorem sLn_n {o v j : Nat} {N : Nat → Nat} (h : j < o ∨ o + 36 ≤ j) : sLn o v N j = N j := if_neg (by omega)
theorem sLn_i {o v j : Nat} {N : Nat → Nat} (h : j < 36) : sLn o v N (o + j) = v := if_pos (by omega)
theorem RM.row {f g : Nat → Int32} {N : Nat → Nat} {o c v : Nat} (h : RM f N) (h4 : 4 < o ∨ o + c ≤ 4) (hg : ∀ j, g j = if o ≤ j ∧ j < o + c then nI v else f j) : RM g (fun j => if o ≤ j ∧ j < o + c then v else N j) := by
  refine RM.of (fun j hj => ?_)
  rw [if_neg (show ¬ (o ≤ 4 ∧ 4 < o + c) by omega)] at hj
  rw [hg]
  by_cases e : o ≤ j ∧ j < o + c
  · rw [if_pos e, if_pos e]
  · rw [if_neg e, if_neg e]
    exact h.g hj
/-- a row of the reference's set to one value -/
theorem q_row {α : Type} {v : Int32} {f : Nat → Int32} {o i : Nat} (H : (Nat → Int32) → α) : H (upd (fun k => if o ≤ k ∧ k < o + i then v else f k) (o + i) v) = H (fun k => if o ≤ k ∧ k < o + (i + 1) then v else f k) := by
  congr 1
  funext k
  unfold upd
  by_cases e : k = o + i
  · rw [if_pos e, if_pos (by omega)]
  · rw [if_neg e]
    show (if o ≤ k ∧ k < o + i then v else f k) = _
    by_cases e2 : o ≤ k ∧ k < o + i
    · rw [if_pos e2, if_pos (by omega)]
    · rw [if_neg e2, if_neg (by omega)]
section
variable {B : Nat} {N : Nat → Nat} {len ns ln : Nat} {L : Nat → Nat → Nat} {T : Nat → Nat} {r : RouS} {m : ModS}
theorem Y_links {k : Nat} {v : Int32} (hk : k ≤ 1) : mWh (fun x : Int32 × ModS => B_X3_links_30 (nI k) v x.1 x.2) fuel0 (nI 0, m) = some (sNw m (fun j => if (if k = 0 then 5 else 41) ≤ j ∧ j < (if k = 0 then 5 else 41) + 36 then v else gM_nw m j)) := by
  generalize ho : (if k = 0 then 5 else 41 : Nat) = o
  have h0 : sNw m (fun j => if o ≤ j ∧ j < o + 0 then v else gM_nw m j) = m := by
    rw [show (fun j => if o ≤ j ∧ j < o + 0 then v else gM_nw m j) = gM_nw m from funext (fun j => if_neg (by omega))]
    rfl
  have hl := q_for0 (b := fun x : Int32 × ModS => B_X3_links_30 (nI k) v x.1 x.2) (S := fun i => (nI i, sNw m (fun j => if o ≤ j ∧ j < o + i then v else gM_nw m j))) 36 (sNw m (fun j => if o ≤ j ∧ j < o + 36 then v else gM_nw m j)) (by omega) (fun i hi => by
    dsimp only
    unfold B_X3_links_30
    rw [i_leF hi (by omega)]
    by_cases e : k = 0
    · rw [if_pos e] at ho
      subst e ho
      rw [i_neF rfl, q_add, q_gI (by omega) (by omega), q_cl (by omega), q_add]
      exact q_row (f := gM_nw m) (fun g => some (Sum.inl (nI (i + 1), sNw m g)))
    · rw [if_neg e] at ho
      subst ho
      rw [i_neT e (by omega) (by omega), q_add, q_gI (by omega) (by omega), q_cl (by omega), q_add]
      exact q_row (f := gM_nw m) (fun g => some (Sum.inl (nI (i + 1), sNw m g)))) (by
    dsimp only
    unfold B_X3_links_30
    rw [i_leT (Nat.le_refl _) (by omega)])
  rw [h0] at hl
  exact hl
/-- links -/
theorem op_links (h : TRp B N len ns L ln T r m) (p1 p2 : Int32) : OpR B (F_X2_links p1 p2 r) (F_X3_links p1 p2 m) := by
  unfold F_X2_links F_X3_links
  rcases in2 p1 (lo := 0) (hi := 1) (by omega) (by omega) with ⟨k, rfl, _, hk, e3, e4⟩ | ⟨e3, e4⟩
  rotate_left
  · rw [e3, e4, Option.bind_some, Option.bind_some, if_pos rfl, if_pos rfl]
    exact OpR.bad h
  rw [e3, e4, Option.bind_some, Option.bind_some, if_neg q_1n0, if_neg q_1n0]
  rcases in2 p2 (lo := 0) (hi := 30) (by omega) (by omega) with ⟨v, rfl, _, hv, e5, e6⟩ | ⟨e5, e6⟩
  rotate_left
  · rw [e5, e6, Option.bind_some, Option.bind_some, i_neF rfl, i_neF rfl]
    exact OpR.bad h
  obtain ⟨r1, m1, len', ns', L', k1, k2, h1, _, _, _⟩ := h.keep
  have ⟨hW, hR, hM, _⟩ := h1
  have h06 := hW.1
  have w1 := hW.2.2.2.2.2.1
  have w2 := hW.2.2.2.2.2.2.1
  have w4 := hW.2.2.2.2.2.2.2.2.1
  rw [e5, e6, Option.bind_some, Option.bind_some, if_pos q_1n0, if_pos q_1n0, k1, k2, Option.bind_some, Option.bind_some, Y_links hk, Option.bind_some, q_gI (by omega) (by omega), q_gI (by omega) (by omega), q_gZ (by omega) (by omega), q_cl (by omega)]
  obtain ⟨g, f1, f2⟩ := X_fill (v := nI v) (m := 36) (g := if k = 0 then gN_w (gR_now r1) else gN_r (gR_now r1)) (by omega)
  by_cases ek : k = 0
  · subst ek
    have hM' : RM (fun j => if 5 ≤ j ∧ j < 5 + 36 then nI v else gM_nw m1 j) (sLn 5 v N) := hM.row (by omega) (fun j => rfl)
    have ha : agr N (sLn 5 v N) := fun j hj => sLn_n (by omega)
    rw [i_neF rfl]
    unfold J_X2_links_51_2
    rw [if_pos rfl] at f1
    rw [f1, Option.bind_some, q_gZ (by omega) (by omega)]
    refine OpR.mk ?_ (TR.of (TRp.now h1 (Nat.le_refl _) (N' := sLn 5 v N) (hW.par ha (by rw [sLn_n (by omega)]; exact hW.2.1) (fun c hc => by rw [sLn_i hc]; exact hv) (fun c hc => by rw [sLn_n (by omega)]; exact w2 c hc) (fun c hc => by rw [sLn_n (by omega)]; exact w4 c hc)) (hR.par ha (hR.2.1.trans (congrArg nI (sLn_n (by omega)).symm)) (fun j hj => by rw [sLn_i hj]; exact f2 j hj) (hR.2.2.2.2.2.2.1.eq (fun j hj => sLn_n (by omega))) (hR.2.2.2.2.2.2.2.2.2.1.eq (fun j hj => sLn_n (by omega)))) hM'))
    show gN_tc (gR_now r1) * (gN_tc (gR_now r1) - nI 1) / nI 2 = gM_nw m1 0 * (gM_nw m1 0 - nI 1) / nI 2
    rw [hR.1, hM.g (by omega)]
  · have hM' : RM (fun j => if 41 ≤ j ∧ j < 41 + 36 then nI v else gM_nw m1 j) (sLn 41 v N) := hM.row (by omega) (fun j => rfl)
    have ha : agr N (sLn 41 v N) := fun j hj => sLn_n (by omega)
    rw [i_neT ek (by omega) (by omega)]
    unfold J_X2_links_51
    rw [if_neg ek] at f1
    rw [f1, Option.bind_some, q_gZ (by omega) (by omega), if_neg ek]
    refine OpR.mk ?_ (TR.of (TRp.now h1 (Nat.le_refl _) (N' := sLn 41 v N) (hW.par ha (by rw [sLn_n (by omega)]; exact hW.2.1) (fun c hc => by rw [sLn_n (by omega)]; exact w1 c hc) (fun c hc => by rw [sLn_i hc]; exact hv) (fun c hc => by rw [sLn_n (by omega)]; exact w4 c hc)) (hR.par ha (hR.2.1.trans (congrArg nI (sLn_n (by omega)).symm)) (hR.2.2.2.2.2.1.eq (fun j hj => sLn_n (by omega))) (fun j hj => by rw [sLn_i hj]; exact f2 j hj) (hR.2.2.2.2.2.2.2.2.2.1.eq (fun j hj => sLn_n (by omega)))) hM'))
    show gN_tc (gR_now r1) * (gN_tc (gR_now r1) - nI 1) / nI 2 = gM_nw m1 0 * (gM_nw m1 0 - nI 1) / nI 2
    rw [hR.1, hM.g (by omega)]
/-- of -/
theorem op_of (hB : B < 1073741824) (h : TRp B N len ns L ln T r m) (p1 p2 p3 : Int32) : OpR B (F_X2_of p1 p2 p3 r) (F_X3_of p1 p2 p3 m) := by
  have h06 := h.1.1
  unfold F_X2_of F_X3_of
  rcases pr2 h.1 h.2.1 h.2.2.1 p1 p2 with ⟨a, b, rfl, rfl, ha, hb, hab, e1, e2⟩ | ⟨e1, e2⟩
  rotate_left
  · rw [e1, e2, Option.bind_some, Option.bind_some, if_pos rfl, if_pos rfl]
    exact OpR.bad h
  rw [e1, e2, Option.bind_some, Option.bind_some, if_neg q_1n0, if_neg q_1n0]
  rcases in2 p3 (lo := 0) (hi := 3) (by omega) (by omega) with ⟨w, rfl, _, hw, e3, e4⟩ | ⟨e3, e4⟩
  rotate_left
  · rw [e3, e4, Option.bind_some, Option.bind_some, i_neF rfl, i_neF rfl]
    exact OpR.bad h
  have hl := lk_lt (a := a) (b := b) (by omega) (by omega)
  rw [e3, e4, Option.bind_some, Option.bind_some, if_pos q_1n0, if_pos q_1n0, X_link (by omega) (by omega), Option.bind_some, Y_pair (by omega) (by omega), Option.bind_some, Option.bind_some, q_add, q_add, q_gI hl (by omega), q_gI hl (by omega), q_gI (by omega) (by omega), q_gI (by omega) (by omega), q_cl (by omega), q_cl (by omega), q_cl (by omega), h.2.2.1.g (by omega), h.2.2.1.g (by omega), X_free hB h.1 h.2.1 hl, X_over h.1 h.2.1 hl, Y_free h.1 h.2.2.1 (by omega) (by omega), (Y_hold h.1 h.2.2.1 (a := a) (b := b) (by omega) (by omega)).2]
  simp only [Option.bind_some]
  have h4 : w = 0 ∨ w = 1 ∨ w = 2 ∨ w = 3 := by omega
  rcases h4 with rfl | rfl | rfl | rfl
  · rw [i_eqT rfl, i_neF rfl]
    exact OpR.mk (h.2.1.2.2.2.2.2.1 _ hl) (TR.of h)
  · rw [i_eqF (by omega) (by omega) (by omega), i_eqT rfl, i_neT (by omega) (by omega) (by omega), i_neF rfl]
    exact OpR.mk (h.2.1.2.2.2.2.2.2.1 _ hl) (TR.of h)
  · rw [i_eqF (by omega) (by omega) (by omega), i_eqF (by omega) (by omega) (by omega), i_eqT rfl, i_neT (by omega) (by omega) (by omega), i_neT (by omega) (by omega) (by omega), i_neF rfl]
    exact OpR.mk rfl (TR.of h)
  · rw [i_eqF (by omega) (by omega) (by omega), i_eqF (by omega) (by omega) (by omega), i_eqF (by omega) (by omega) (by omega), i_neT (by omega) (by omega) (by omega), i_neT (by omega) (by omega) (by omega), i_neT (by omega) (by omega) (by omega)]
    exact OpR.mk rfl (TR.of h)
/-- call -/
theorem op_call (hB : B + 5 < 1073741824) (h : TRp B N len ns L ln T r m) (p1 p2 p3 : Int32) : OpR (B + 3) (F_X2_call p1 p2 p3 r) (F_X3_call p1 p2 p3 m) := by
  have h80 : N 4 ≤ 80 := h.1.2.2.2.2.1
  unfold F_X2_call F_X3_call
  rcases pr2 h.1 h.2.1 h.2.2.1 p1 p2 with ⟨a, b, rfl, rfl, ha, hb, hab, e1, e2⟩ | ⟨e1, e2⟩
  rotate_left
  · rw [e1, e2, Option.bind_some, Option.bind_some, if_pos rfl, if_pos rfl]
    exact (OpR.bad h).mono (by omega)
  rw [e1, e2, Option.bind_some, Option.bind_some, if_neg q_1n0, if_neg q_1n0]
  rcases in2 p3 (lo := 1) (hi := 24) (by omega) (by omega) with ⟨w, rfl, hw1, hw, e3, e4⟩ | ⟨e3, e4⟩
  rotate_left
  · rw [e3, e4, Option.bind_some, Option.bind_some, i_neF rfl, i_neF rfl]
    exact (OpR.bad h).mono (by omega)
  rw [e3, e4, Option.bind_some, Option.bind_some, if_pos q_1n0, if_pos q_1n0, q_gI (by omega) (by omega), q_cl (by omega), h.2.2.1.g (by omega), h.2.1.2.2.2.2.1]
  by_cases e : N 4 = 80
  · rw [i_ltF (by omega) (by omega), i_neF e]
    obtain ⟨r', f1, f2⟩ := h.ful
    rw [f1, Option.bind_some]
    exact OpR.mk rfl ((TR.of f2).mono (by omega))
  · rw [i_ltT (by omega) (by omega), i_neT e (by omega) (by omega)]
    obtain ⟨r1, m1, len', ns', L', k1, k2, h1, _, _, _⟩ := h.keep
    have ⟨hW, hR, hM, _⟩ := h1
    obtain ⟨n', f1, f2⟩ := hR.ask hB hW (a := a) (b := b) (h := w) ha hb hab
    obtain ⟨f', g1, g2⟩ := Y_ask hW hM (a := a) (b := b) (h := w) ha hb hab
    rw [k1, k2, Option.bind_some, Option.bind_some, f1, g1, Option.bind_some, Option.bind_some]
    exact OpR.mk rfl (TR.of (TRp.now h1 (by omega) (hW.ask ha hb hab hw1 hw) f2 g2))
/-- hours -/
theorem op_hours (hB : B + 2000 < 1073741824) (h : TRp B N len ns L ln T r m) (p1 : Int32) : OpR (B + 1344) (F_X2_hours p1 r) (F_X3_hours p1 m) := by
  unfold F_X2_hours F_X3_hours
  rcases in2 p1 (lo := 1) (hi := 48) (by omega) (by omega) with ⟨k, rfl, hk1, hk, e1, e2⟩ | ⟨e1, e2⟩
  · obtain ⟨r1, m1, len', ns', L', k1, k2, h1, _, _, _⟩ := h.keep
    have ⟨hW, hR, hM, _⟩ := h1
    obtain ⟨n', f1, f2⟩ := RC.hs hW hR (m := k) (by omega) (by omega)
    obtain ⟨f', g1, g2⟩ := Y_hs hW hM (m := k) (by omega) (by omega)
    rw [e1, e2, Option.bind_some, Option.bind_some, if_pos q_1n0, if_pos q_1n0, k1, k2, Option.bind_some, Option.bind_some, f1, g1, Option.bind_some, Option.bind_some]
    exact OpR.mk rfl (TR.of (TRp.now h1 (by omega) ((hW.hs k).mono (by omega)) f2 g2))
  · rw [e1, e2, Option.bind_some, Option.bind_some, i_neF rfl, i_neF rfl]
    exact (OpR.bad h).mono (by omega)
/-- going -/
theorem op_going (h : TRp B N len ns L ln T r m) (p1 p2 : Int32) : OpR B (F_X2_going p1 p2 r) (F_X3_going p1 p2 m) := by
  have h80 : N 4 ≤ 80 := h.1.2.2.2.2.1
  unfold F_X2_going F_X3_going
  rcases i_sgn p1 with hn | ⟨k, hk, rfl⟩
  · rw [if_pos hn, if_pos hn]
    exact OpR.bad h
  rw [i_ltF (Nat.zero_le _) (by omega), i_ltF (Nat.zero_le _) (by omega)]
  rcases in2 p2 (lo := 0) (hi := 3) (by omega) (by omega) with ⟨w, rfl, _, hw, e3, e4⟩ | ⟨e3, e4⟩
  rotate_left
  · rw [e3, e4, Option.bind_some, Option.bind_some, i_neF rfl, i_neF rfl]
    exact OpR.bad h
  rw [e3, e4, Option.bind_some, Option.bind_some, if_pos q_1n0, if_pos q_1n0, q_gI (by omega) (by omega), q_cl (by omega), h.2.2.1.g (by omega), h.2.1.2.2.2.2.1]
  by_cases e : N 4 ≤ k
  · rw [i_leT e (by omega), i_leT e (by omega)]
    exact OpR.mk rfl (TR.of h)
  · rw [i_leF (by omega) (by omega), i_leF (by omega) (by omega), q_mul, q_add, q_mul, q_add, q_add, q_gI (by omega) (by omega), q_gI (by omega) (by omega), q_cl (by omega), q_cl (by omega), h.2.2.1.g (by omega)]
    refine OpR.mk ((h.2.1.2.2.2.2.2.2.2.2.2.2.1 _ (by omega)).trans ?_) (TR.of h)
    congr 2
    omega
/-- ends -/
theorem op_ends (h : TRp B N len ns L ln T r m) (p1 : Int32) : OpR B (F_X2_ends p1 r) (F_X3_ends p1 m) := by
  have h80 : N 4 ≤ 80 := h.1.2.2.2.2.1
  unfold F_X2_ends F_X3_ends
  rcases i_sgn p1 with hn | ⟨k, hk, rfl⟩
  · rw [if_neg (i_nle hn (by omega)), if_neg (i_nle hn (by omega))]
    exact OpR.bad h
  rw [i_leT (Nat.zero_le _) (by omega), i_leT (Nat.zero_le _) (by omega), q_gI (by omega) (by omega), q_cl (by omega), h.2.2.1.g (by omega), h.2.1.2.2.2.2.1]
  by_cases e : k < N 4
  · rw [i_ltT e (by omega), i_ltT e (by omega)]
    obtain ⟨r1, m1, len', ns', L', k1, k2, h1, _, _, _⟩ := h.keep
    have ⟨hW, hR, hM, _⟩ := h1
    obtain ⟨n', f1, f2⟩ := RC.lg hW hR (k := k) e
    obtain ⟨f', g1, g2⟩ := Y_lg h80 hM (k := k) e
    rw [k1, k2, Option.bind_some, Option.bind_some, f1, g1, Option.bind_some, Option.bind_some, q_gI (by omega) (by omega)]
    exact OpR.mk (f2.2.2.2.2.1.trans (g2.g (by omega)).symm) (TR.of (TRp.now h1 (Nat.le_refl _) (hW.lg e) f2 g2))
  · rw [i_ltF (by omega) (by omega), i_ltF (by omega) (by omega)]
    exact OpR.nob h
/-- all -/
theorem op_all (h : TRp B N len ns L ln T r m) (p1 : Int32) : OpR B (F_X2_all p1 r) (F_X3_all p1 m) := by
  unfold F_X2_all F_X3_all
  rcases in2 p1 (lo := 0) (hi := 4) (by omega) (by omega) with ⟨w, rfl, _, hw, e3, e4⟩ | ⟨e3, e4⟩
  · rw [e3, e4, Option.bind_some, Option.bind_some, if_neg q_1n0, if_neg q_1n0, q_gI (by omega) (by omega), q_cl (by omega), Y_sum h.2.2.1 (by omega), Option.bind_some]
    exact OpR.mk (h.2.1.2.2.2.2.2.2.2.2.2.2.2.2 w (by omega)) (TR.of h)
  · rw [e3, e4, Option.bind_some, Option.bind_some, if_pos rfl, if_pos rfl]
    exact OpR.bad h
end
