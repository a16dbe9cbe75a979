/-! calls: what both sides answer -/
theorem q_1n0 : ¬ nI 1 = nI 0 := nI_ne0 (by omega) (by omega)
theorem in2 (v : Int32) {lo hi : Nat} (hl : lo ≤ hi) (hh : hi < 2147483648) : (∃ k, v = nI k ∧ lo ≤ k ∧ k ≤ hi ∧ F_X2_within v (nI lo) (nI hi) = some (nI 1) ∧ F_X3_in v (nI lo) (nI hi) = some (nI 1)) ∨ (F_X2_within v (nI lo) (nI hi) = some (nI 0) ∧ F_X3_in v (nI lo) (nI hi) = some (nI 0)) := by
  have e : F_X2_within v (nI lo) (nI hi) = F_X3_in v (nI lo) (nI hi) := rfl
  rw [e]
  unfold F_X3_in
  rcases i_sgn v with h | ⟨k, hk, rfl⟩
  · right
    rw [if_pos (i_nlt h (by omega))]
    exact ⟨rfl, rfl⟩
  · by_cases h1 : k < lo
    · right
      rw [i_ltT h1 (by omega)]
      exact ⟨rfl, rfl⟩
    · by_cases h2 : hi < k
      · right
        rw [i_ltF (by omega) hk, i_ltT h2 hk]
        exact ⟨rfl, rfl⟩
      · left
        refine ⟨k, rfl, by omega, by omega, ?_⟩
        rw [i_ltF (by omega) hk, i_ltF (by omega) hh]
        exact ⟨rfl, rfl⟩
def OpR (B : Nat) (x : Option (Int32 × RouS)) (y : Option (Int32 × ModS)) : Prop := ∃ v r' m', x = some (v, r') ∧ y = some (v, m') ∧ TR B r' m'
theorem OpR.mk {B : Nat} {v w : Int32} {r : RouS} {m : ModS} (hv : v = w) (h : TR B r m) : OpR B (some (v, r)) (some (w, m)) := by
  subst hv
  exact ⟨v, r, m, rfl, rfl, h⟩
theorem TR.of {B : Nat} {N : Nat → Nat} {len ns ln : Nat} {L : Nat → Nat → Nat} {T : Nat → Nat} {r : RouS} {m : ModS} (h : TRp B N len ns L ln T r m) : TR B r m := ⟨N, len, ns, L, ln, T, h⟩
theorem TR.mono {B B' : Nat} {r : RouS} {m : ModS} (h : TR B r m) (hb : B ≤ B') : TR B' r m := by
  obtain ⟨N, len, ns, L, ln, T, h1, h2, h3, h4, h5⟩ := h
  exact ⟨N, len, ns, L, ln, T, h1.mono hb, h2, h3, h4.mono hb, h5⟩
theorem OpR.mono {B B' : Nat} {x : Option (Int32 × RouS)} {y : Option (Int32 × ModS)} (h : OpR B x y) (hb : B ≤ B') : OpR B' x y := by
  obtain ⟨v, r', m', h1, h2, h3⟩ := h
  exact ⟨v, r', m', h1, h2, h3.mono hb⟩
/-- the same, off the settings -/
def agr (N N' : Nat → Nat) : Prop := ∀ j, j = 0 ∨ (2 ≤ j ∧ j < 5) ∨ (77 ≤ j ∧ j < 293) ∨ 317 ≤ j → N' j = N j
theorem WF.par {B : Nat} {N N' : Nat → Nat} (h : WF B N) (ha : agr N N') (h1 : N' 1 ≤ 1) (hw : ∀ c, c < 36 → N' (5 + c) ≤ 30) (hr : ∀ c, c < 36 → N' (41 + c) ≤ 30) (hl : ∀ c, c < 24 → N' (293 + c) ≤ 9) : WF B N' := by
  obtain ⟨h0, _, h2, h3, h4, w1, w2, w3, w4, w5, w6⟩ := h
  refine ⟨by rw [ha 0 (by omega)]; exact h0, h1, by rw [ha 2 (by omega)]; exact h2, by rw [ha 3 (by omega)]; exact h3, by rw [ha 4 (by omega)]; exact h4, hw, hr, ?_, hl, ?_, ?_⟩
  · intro a b h5 h6 h7
    rw [ha 0 (by omega)] at h5 h6 ⊢
    rw [ha _ (by omega)]
    exact w3 a b h5 h6 h7
  · intro k hk
    rw [ha 4 (by omega)] at hk
    exact cOk_eq (ha 0 (by omega)) (fun j _ => ha _ (by omega)) (w5 k hk)
  · intro w hw
    rw [sC_eq (fun i hi => ha _ (by omega))]
    exact w6 w hw
theorem RC.par {n : NetS} {N N' : Nat → Nat} {hb : Int32} {w r ld : Nat → Int32} (h : RC n N) (ha : agr N N') (h1 : hb = nI (N' 1)) (hw : aR w N' 5 36) (hr : aR r N' 41 36) (hl : aR ld N' 293 24) : RC (mkN (gN_tc n) hb (gN_x n) (gN_hg n) (gN_cc n) w r (gN_hd n) (gN_st n) (gN_ct n) (gN_tt n) ld (gN_ca n)) N' := by
  obtain ⟨r1, r2, r3, r4, r5, r6, r7, r8, r9, r10, r11, r12, r13⟩ := h
  refine ⟨r1.trans (congrArg nI (ha _ (by omega)).symm), h1, r3.trans (congrArg nI (ha _ (by omega)).symm), r4.trans (congrArg nI (ha _ (by omega)).symm), r5.trans (congrArg nI (ha _ (by omega)).symm), hw, hr, r8.eq (fun j hj => ha _ (by omega)), ?_, hl, ?_, ?_, ?_⟩
  · intro w' c' hw' hc'
    rw [ha _ (by omega)]
    exact r9 w' c' hw' hc'
  · rw [ha 4 (by omega)]
    exact r11.eq (fun j hj => ha _ (by omega))
  · intro c' hc'
    rw [ha 4 (by omega), hC_eq (fun j hj => ha _ (by omega))]
    exact r12 c' hc'
  · intro w' hw'
    rw [sC_eq (fun i hi => ha _ (by omega))]
    exact r13 w' hw'
theorem uN_le {N : Nat → Nat} {k v j M : Nat} (h : v ≤ M) (h2 : N j ≤ M) : uN N k v j ≤ M := by
  unfold uN
  split
  · exact h
  · exact h2
theorem agr_u {N : Nat → Nat} {j v : Nat} (h : j = 1 ∨ (5 ≤ j ∧ j < 77) ∨ (293 ≤ j ∧ j < 317)) : agr N (uN N j v) := fun k hk => uN_n (by omega)
section
variable {B : Nat} {N : Nat → Nat} {len ns ln : Nat} {L : Nat → Nat → Nat} {T : Nat → Nat} {r : RouS} {m : ModS}
theorem OpR.bad (h : TRp B N len ns L ln T r m) : OpR B ((F_X2_refuse (-nI 2) r).bind (fun v => some (v.1, v.2))) ((F_X3_bads m).bind (fun v => some (v.1, v.2))) := by
  obtain ⟨r', m', e1, e2, h'⟩ := h.bad
  rw [e1, e2]
  exact OpR.mk rfl (TR.of h')
theorem OpR.nob (h : TRp B N len ns L ln T r m) : OpR B ((F_X2_refuse (-nI 3) r).bind (fun v => some (v.1, v.2))) ((F_X3_nos m).bind (fun v => some (v.1, v.2))) := by
  obtain ⟨r', m', e1, e2, h'⟩ := h.nob
  rw [e1, e2]
  exact OpR.mk rfl (TR.of h')
theorem Y_town (hW : WF B N) (hM : RM (gM_nw m) N) (p : Int32) : F_X3_isTown p m = F_X3_in p (nI 0) (nI (N 0 - 1)) := by
  have h0 := hW.1
  unfold F_X3_isTown
  rw [q_gI (by omega) (by omega), q_cl (by omega), hM.g (by omega), q_sub (by omega)]
  rcases in2 p (lo := 0) (hi := N 0 - 1) (by omega) (by omega) with ⟨k, rfl, h1, h2, e1, e2⟩ | ⟨e1, e2⟩
  · rw [e2, Option.bind_some]
    exact if_pos (Or.inr rfl)
  · rw [e2, Option.bind_some]
    exact if_pos (Or.inl rfl)
theorem pr2 (hW : WF B N) (hR : RC (gR_now r) N) (hM : RM (gM_nw m) N) (p1 p2 : Int32) : (∃ a b, p1 = nI a ∧ p2 = nI b ∧ a < N 0 ∧ b < N 0 ∧ a ≠ b ∧ F_X2_isPair p1 p2 r = some (nI 1) ∧ F_X3_areTowns p1 p2 m = some (nI 1)) ∨ (F_X2_isPair p1 p2 r = some (nI 0) ∧ F_X3_areTowns p1 p2 m = some (nI 0)) := by
  have h0 := hW.1
  unfold F_X2_isPair F_X3_areTowns
  rw [hR.1, q_sub (by omega), Y_town hW hM, Y_town hW hM]
  by_cases e : p1 = p2
  · right
    refine ⟨if_pos e, ?_⟩
    subst e
    rcases in2 p1 (lo := 0) (hi := N 0 - 1) (by omega) (by omega) with ⟨k, rfl, h1, h2, e1, e2⟩ | ⟨e1, e2⟩
    · rw [e2, Option.bind_some, if_neg q_1n0, Option.bind_some, if_neg q_1n0, if_pos rfl]
    · rw [e2, Option.bind_some, if_pos rfl]
  · rw [if_neg e]
    rcases in2 p1 (lo := 0) (hi := N 0 - 1) (by omega) (by omega) with ⟨k, rfl, h1, h2, e1, e2⟩ | ⟨e1, e2⟩
    · rcases in2 p2 (lo := 0) (hi := N 0 - 1) (by omega) (by omega) with ⟨j, rfl, h3, h4, e3, e4⟩ | ⟨e3, e4⟩
      · left
        refine ⟨k, j, rfl, rfl, by omega, by omega, fun q => e (by rw [q]), ?_, ?_⟩
        · rw [e1, Option.bind_some, if_neg q_1n0, e3, Option.bind_some, if_neg q_1n0]
        · rw [e2, Option.bind_some, if_neg q_1n0, e4, Option.bind_some, if_neg q_1n0, if_neg e]
      · right
        refine ⟨?_, ?_⟩
        · rw [e1, Option.bind_some, if_neg q_1n0, e3, Option.bind_some, if_pos rfl]
        · rw [e2, Option.bind_some, if_neg q_1n0, e4, Option.bind_some, if_pos rfl]
    · right
      refine ⟨?_, ?_⟩
      · rw [e1, Option.bind_some, if_pos rfl]
      · rw [e2, Option.bind_some, if_pos rfl]
/-- back -/
theorem op_back (h : TRp B N len ns L ln T r m) (p1 : Int32) : OpR B (F_X2_back p1 r) (F_X3_back p1 m) := by
  unfold F_X2_back F_X3_back
  rcases in2 p1 (lo := 0) (hi := 1) (by omega) (by omega) with ⟨k, rfl, _, hk, e1, e2⟩ | ⟨e1, e2⟩
  · obtain ⟨r1, m1, len', ns', L', k1, k2, h1, _, _, _⟩ := h.keep
    have ⟨hW, hR, hM, _⟩ := h1
    rw [e1, e2, Option.bind_some, Option.bind_some, if_pos q_1n0, if_pos q_1n0, k1, k2, Option.bind_some, Option.bind_some, q_gI (by omega) (by omega), q_gI (by omega) (by omega), q_cl (by omega), hM.g (by omega)]
    exact OpR.mk hR.2.1 (TR.of (TRp.now h1 (Nat.le_refl _) (N' := uN N 1 k) (hW.par (agr_u (by omega)) (by rw [uN_s]; exact hk) (fun c hc => by rw [uN_n (by omega)]; exact hW.2.2.2.2.2.1 c hc) (fun c hc => by rw [uN_n (by omega)]; exact hW.2.2.2.2.2.2.1 c hc) (fun c hc => by rw [uN_n (by omega)]; exact hW.2.2.2.2.2.2.2.2.1 c hc)) (hR.par (agr_u (by omega)) (by rw [uN_s]) (hR.2.2.2.2.2.1.off (by omega)) (hR.2.2.2.2.2.2.1.off (by omega)) (hR.2.2.2.2.2.2.2.2.2.1.off (by omega))) (hM.put (by omega))))
  · rw [e1, e2, Option.bind_some, Option.bind_some, i_neF rfl, i_neF rfl]
    exact OpR.bad h
/-- link -/
theorem op_link (h : TRp B N len ns L ln T r m) (p1 p2 p3 p4 : Int32) : OpR B (F_X2_link p1 p2 p3 p4 r) (F_X3_link p1 p2 p3 p4 m) := by
  unfold F_X2_link F_X3_link
  rcases pr2 h.1 h.2.1 h.2.2.1 p1 p2 with ⟨a, b, rfl, rfl, ha, hb, hab, e1, e2⟩ | ⟨e1, e2⟩
  rotate_left
  · rw [e1, e2, Option.bind_some, Option.bind_some, if_pos rfl, if_pos rfl]
    exact OpR.bad h
  rw [e1, e2, Option.bind_some, Option.bind_some, if_neg q_1n0, if_neg q_1n0]
  rcases in2 p3 (lo := 0) (hi := 1) (by omega) (by omega) with ⟨k, rfl, _, hk, e3, e4⟩ | ⟨e3, e4⟩
  rotate_left
  · rw [e3, e4, Option.bind_some, Option.bind_some, if_pos rfl, if_pos rfl]
    exact OpR.bad h
  rw [e3, e4, Option.bind_some, Option.bind_some, if_neg q_1n0, if_neg q_1n0]
  rcases in2 p4 (lo := 0) (hi := 30) (by omega) (by omega) with ⟨v, rfl, _, hv, e5, e6⟩ | ⟨e5, e6⟩
  rotate_left
  · rw [e5, e6, Option.bind_some, Option.bind_some, i_neF rfl, i_neF rfl]
    exact OpR.bad h
  obtain ⟨r1, m1, len', ns', L', k1, k2, h1, _, _, _⟩ := h.keep
  have ⟨hW, hR, hM, _⟩ := h1
  have h06 := hW.1
  have hl := lk_lt (a := a) (b := b) (by omega) (by omega)
  have w1 := hW.2.2.2.2.2.1
  have w2 := hW.2.2.2.2.2.2.1
  have w4 := hW.2.2.2.2.2.2.2.2.1
  rw [e5, e6, Option.bind_some, Option.bind_some, if_pos q_1n0, if_pos q_1n0, k1, k2, Option.bind_some, Option.bind_some]
  by_cases ek : k = 0
  · subst ek
    rw [i_neF rfl, i_neF rfl]
    unfold J_X2_link_61_2 J_X3_link_48
    rw [X_link (by omega) (by omega), Y_pair (by omega) (by omega), Option.bind_some, Option.bind_some, q_add, q_gI hl (by omega), q_gI hl (by omega), q_gI (by omega) (by omega), q_gI (by omega) (by omega), q_cl (by omega), q_cl (by omega), hM.g (by omega)]
    exact OpR.mk (hR.2.2.2.2.2.1 _ hl) (TR.of (TRp.now h1 (Nat.le_refl _) (N' := uN N (5 + lk a b) v) (hW.par (agr_u (by omega)) (by rw [uN_n (by omega)]; exact hW.2.1) (fun c hc => uN_le hv (w1 c hc)) (fun c hc => by rw [uN_n (by omega)]; exact w2 c hc) (fun c hc => by rw [uN_n (by omega)]; exact w4 c hc)) (hR.par (agr_u (by omega)) (hR.2.1.trans (congrArg nI (uN_n (by omega)).symm)) hR.2.2.2.2.2.1.put (hR.2.2.2.2.2.2.1.off (by omega)) (hR.2.2.2.2.2.2.2.2.2.1.off (by omega))) (hM.put (by omega))))
  · rw [i_neT ek (by omega) (by omega), i_neT ek (by omega) (by omega)]
    unfold J_X2_link_61 J_X3_link_48
    rw [X_link (by omega) (by omega), Y_pair (by omega) (by omega), Option.bind_some, Option.bind_some, q_add, q_gI hl (by omega), q_gI hl (by omega), q_gI (by omega) (by omega), q_gI (by omega) (by omega), q_cl (by omega), q_cl (by omega), hM.g (by omega)]
    exact OpR.mk (hR.2.2.2.2.2.2.1 _ hl) (TR.of (TRp.now h1 (Nat.le_refl _) (N' := uN N (41 + lk a b) v) (hW.par (agr_u (by omega)) (by rw [uN_n (by omega)]; exact hW.2.1) (fun c hc => by rw [uN_n (by omega)]; exact w1 c hc) (fun c hc => uN_le hv (w2 c hc)) (fun c hc => by rw [uN_n (by omega)]; exact w4 c hc)) (hR.par (agr_u (by omega)) (hR.2.1.trans (congrArg nI (uN_n (by omega)).symm)) (hR.2.2.2.2.2.1.off (by omega)) hR.2.2.2.2.2.2.1.put (hR.2.2.2.2.2.2.2.2.2.1.off (by omega))) (hM.put (by omega))))
/-- load -/
theorem op_load (h : TRp B N len ns L ln T r m) (p1 p2 : Int32) : OpR B (F_X2_load p1 p2 r) (F_X3_load p1 p2 m) := by
  unfold F_X2_load F_X3_load
  rcases in2 p1 (lo := 0) (hi := 23) (by omega) (by omega) with ⟨k, rfl, _, hk, e3, e4⟩ | ⟨e3, e4⟩
  rotate_left
  · rw [e3, e4, Option.bind_some, Option.bind_some, if_pos rfl, if_pos rfl]
    exact OpR.bad h
  rw [e3, e4, Option.bind_some, Option.bind_some, if_neg q_1n0, if_neg q_1n0]
  rcases in2 p2 (lo := 0) (hi := 9) (by omega) (by omega) with ⟨v, rfl, _, hv, e5, e6⟩ | ⟨e5, e6⟩
  rotate_left
  · rw [e5, e6, Option.bind_some, Option.bind_some, i_neF rfl, i_neF rfl]
    exact OpR.bad h
  obtain ⟨r1, m1, len', ns', L', k1, k2, h1, _, _, _⟩ := h.keep
  have ⟨hW, hR, hM, _⟩ := h1
  have w1 := hW.2.2.2.2.2.1
  have w2 := hW.2.2.2.2.2.2.1
  have w4 := hW.2.2.2.2.2.2.2.2.1
  rw [e5, e6, Option.bind_some, Option.bind_some, if_pos q_1n0, if_pos q_1n0, k1, k2, Option.bind_some, Option.bind_some, q_add, q_gI (by omega) (by omega), q_gI (by omega) (by omega), q_gI (by omega) (by omega), q_gI (by omega) (by omega), q_cl (by omega), q_cl (by omega), hM.g (by omega)]
  exact OpR.mk (hR.2.2.2.2.2.2.2.2.2.1 _ (by omega)) (TR.of (TRp.now h1 (Nat.le_refl _) (N' := uN N (293 + k) v) (hW.par (agr_u (by omega)) (by rw [uN_n (by omega)]; exact hW.2.1) (fun c hc => by rw [uN_n (by omega)]; exact w1 c hc) (fun c hc => by rw [uN_n (by omega)]; exact w2 c hc) (fun c hc => uN_le hv (w4 c hc))) (hR.par (agr_u (by omega)) (hR.2.1.trans (congrArg nI (uN_n (by omega)).symm)) (hR.2.2.2.2.2.1.off (by omega)) (hR.2.2.2.2.2.2.1.off (by omega)) hR.2.2.2.2.2.2.2.2.2.1.put) (hM.put (by omega))))
/-- seed -/
theorem op_seed (h : TRp B N len ns L ln T r m) (p1 : Int32) : OpR B (F_X2_seed p1 r) (F_X3_seed p1 m) := by
  unfold F_X2_seed F_X3_seed
  rcases in2 p1 (lo := 0) (hi := 999999) (by omega) (by omega) with ⟨k, rfl, _, hk, e1, e2⟩ | ⟨e1, e2⟩
  · obtain ⟨r1, m1, len', ns', L', k1, k2, h1, _, _, _⟩ := h.keep
    have ⟨hW, hR, hM, _⟩ := h1
    rw [e1, e2, Option.bind_some, Option.bind_some, if_pos q_1n0, if_pos q_1n0, k1, k2, Option.bind_some, Option.bind_some, q_gI (by omega) (by omega), q_cl (by omega)]
    exact OpR.mk rfl (TR.of (TRp.now h1 (Nat.le_refl _) (N' := uN N 2 k) (hW.x (by omega)) hR.x (hM.put (by omega))))
  · rw [e1, e2, Option.bind_some, Option.bind_some, i_neF rfl, i_neF rfl]
    exact OpR.bad h
/-- sticky -/
theorem op_sticky (h : TRp B N len ns L ln T r m) (p1 p2 : Int32) : OpR B (F_X2_sticky p1 p2 r) (F_X3_sticky p1 p2 m) := by
  have h06 := h.1.1
  unfold F_X2_sticky F_X3_sticky
  rcases pr2 h.1 h.2.1 h.2.2.1 p1 p2 with ⟨a, b, rfl, rfl, ha, hb, hab, e1, e2⟩ | ⟨e1, e2⟩
  · rw [e1, e2, Option.bind_some, Option.bind_some, if_neg q_1n0, if_neg q_1n0, X_pair, Option.bind_some, q_gI (by omega) (by omega), q_mul, q_add, q_add, q_gI (by omega) (by omega), q_cl (by omega), q_cl (by omega), h.2.2.1.g (by omega)]
    refine OpR.mk ((h.2.1.2.2.2.2.2.2.2.1 _ (by omega)).trans ?_) (TR.of h)
    rw [Nat.add_assoc]
  · rw [e1, e2, Option.bind_some, Option.bind_some, if_pos rfl, if_pos rfl]
    exact OpR.bad h
/-- pair -/
theorem op_pair (h : TRp B N len ns L ln T r m) (p1 p2 p3 : Int32) : OpR B (F_X2_pair p1 p2 p3 r) (F_X3_pair p1 p2 p3 m) := by
  have h06 := h.1.1
  unfold F_X2_pair F_X3_pair
  rcases pr2 h.1 h.2.1 h.2.2.1 p1 p2 with ⟨a, b, rfl, rfl, ha, hb, hab, e1, e2⟩ | ⟨e1, e2⟩
  rotate_left
  · rw [e1, e2, Option.bind_some, Option.bind_some, if_pos rfl, if_pos rfl]
    exact OpR.bad h
  rw [e1, e2, Option.bind_some, Option.bind_some, if_neg q_1n0, if_neg q_1n0]
  rcases in2 p3 (lo := 0) (hi := 4) (by omega) (by omega) with ⟨w, rfl, _, hw, e3, e4⟩ | ⟨e3, e4⟩
  rotate_left
  · rw [e3, e4, Option.bind_some, Option.bind_some, i_neF rfl, if_pos rfl]
    exact OpR.bad h
  rw [e3, e4, Option.bind_some, Option.bind_some, if_pos q_1n0, if_neg q_1n0, X_pair, Option.bind_some, q_mul, q_add, q_mul, q_add, q_mul, q_add, q_add, q_gI (by omega) (by omega), q_gI (by omega) (by omega), q_cl (by omega), q_cl (by omega), h.2.2.1.g (by omega), Nat.mul_comm w 36]
  exact OpR.mk (h.2.1.2.2.2.2.2.2.2.2.1 _ _ (by omega) (by omega)) (TR.of h)
end
