/-! the reference: asking for a call -/
abbrev sNw (s : ModS) (f : Nat → Int32) : ModS := mkM (gM_ss s) (gM_ty s) (gM_at s) (gM_ft s) (gM_mn s) (gM_bd s) (gM_no s) (gM_fu s) f (gM_as s) (gM_pa s) (gM_tx s) (gM_od s)
theorem RM.g {f : Nat → Int32} {N : Nat → Nat} (h : RM f N) {j : Nat} (hj : j < 317 + 4 * N 4) : f j = nI (N j) := by
  have := h j hj
  rwa [Nat.zero_add] at this
theorem RM.put {f : Nat → Int32} {N : Nat → Nat} (h : RM f N) {j v : Nat} (h4 : j ≠ 4) : RM (upd f j (nI v)) (uN N j v) := by
  intro i hi
  rw [uN_n (Ne.symm h4)] at hi
  unfold upd uN
  rw [Nat.zero_add]
  by_cases e : i = j
  · rw [if_pos e, if_pos e]
  · rw [if_neg e, if_neg e]; exact h.g hi
theorem RM.of {f : Nat → Int32} {N : Nat → Nat} (h : ∀ j, j < 317 + 4 * N 4 → f j = nI (N j)) : RM f N := fun j hj => by
  rw [Nat.zero_add]
  exact h j hj
theorem sAd_sCt {N : Nat → Nat} {a b t h w c : Nat} (hw : w < 5) (hc : c < 36) : sCt w c (sAd a b t h N) = sAd a b t h (sCt w c N) := by
  have k4 : sCt w c N 4 = N 4 := sCt_n (by omega)
  funext j
  by_cases e : j = 113 + 5 * c + w
  · subst e
    rw [sAd_n (by omega) (by omega)]
    unfold sCt
    rw [uN_s, uN_s, sAd_n (by omega) (by omega)]
  rw [sCt_n e]
  by_cases e4 : j = 4
  · subst e4; rw [sAd_4, sAd_4, k4]
  by_cases e0 : j = 317 + 4 * N 4
  · subst e0
    rw [sAd_a]
    have := sAd_a (N := sCt w c N) (a := a) (b := b) (t := t) (h := h)
    rw [k4] at this
    exact this.symm
  by_cases e1 : j = 317 + 4 * N 4 + 1
  · subst e1
    rw [sAd_b]
    have := sAd_b (N := sCt w c N) (a := a) (b := b) (t := t) (h := h)
    rw [k4] at this
    exact this.symm
  by_cases e2 : j = 317 + 4 * N 4 + 2
  · subst e2
    rw [sAd_t]
    have := sAd_t (N := sCt w c N) (a := a) (b := b) (t := t) (h := h)
    rw [k4] at this
    exact this.symm
  by_cases e3 : j = 317 + 4 * N 4 + 3
  · subst e3
    rw [sAd_h]
    have := sAd_h (N := sCt w c N) (a := a) (b := b) (t := t) (h := h)
    rw [k4] at this
    exact this.symm
  rw [sAd_n e4 (by omega), sAd_n e4 (by omega), sCt_n e]
section
variable {B : Nat} {N : Nat → Nat} {s : ModS}
theorem Y_pair {a b : Nat} (ha : a < 6) (hb : b < 6) : F_X3_pairOf (nI a) (nI b) = some (nI (lk a b)) := by
  unfold F_X3_pairOf lk
  by_cases h : a < b
  · rw [i_leF h (by omega), if_pos h, q_mul, q_add]
  · rw [i_leT (by omega) (by omega), if_neg h, q_mul, q_add]
theorem cN_lt {t : Nat} (h : t = NV ∨ t < 6) : t < 4294967296 := by
  rcases h with h | h
  · rw [h]; exact (show (4294967295 : Nat) < 4294967296 by omega)
  · omega
set_option maxHeartbeats 4000000 in
theorem Y_hold1 (hW : WF B N) (hR : RM (gM_nw s) N) {a b w k acc : Nat} (ha : a < 6) (hb : b < 6) (hw : w = 2 ∨ w = 0) (hk : k < N 4) : B_X3_holding_6 (nI a) (nI b) (nI w) (nI acc) (nI k) s = some (.inl (nI (acc + if ((decide (w = 2) && cS N (lk a b) k) || cO N (lk a b) k) = true then 1 else 0), nI (k + 1))) := by
  have h80 : N 4 ≤ 80 := hW.2.2.2.2.1
  obtain ⟨c1, c2, c3, c4⟩ := cOk_lt hW.1.2 (hW.2.2.2.2.2.2.2.2.2.1 k hk)
  have c4' : N (317 + 4 * k + 2) = NV ∨ N (317 + 4 * k + 2) < 6 := c4.imp id (fun z => z.1)
  have hl := lk_lt ha hb
  have hl2 := lk_lt c1 c2
  unfold B_X3_holding_6
  rw [q_gI (by omega) (by omega), q_cl (by omega), hR.g (by omega), i_leF hk (by omega), q_mul, q_add, q_add, q_add, q_gI (by omega) (by omega), q_gI (by omega) (by omega), q_gI (by omega) (by omega), q_cl (by omega), q_cl (by omega), q_cl (by omega), hR.g (by omega), hR.g (by omega), hR.g (by omega), q_n1]
  have hff : (if (false = true) then 1 else 0 : Nat) = 0 := rfl
  have htt : (if (true = true) then 1 else 0 : Nat) = 1 := rfl
  have J127 : ∀ (x1 x2 : Int32) (x10 y0 : Bool), J_X3_holding_127 x1 x2 (nI w) (nI acc) (nI k) (nI (if x10 = true then 1 else 0)) (nI (if y0 = true then 1 else 0)) s = some (.inl (nI (acc + if ((decide (w = 2) && x10) || y0) = true then 1 else 0), nI (k + 1))) := by
    intro x1 x2 x10 y0
    unfold J_X3_holding_127
    have J140 : J_X3_holding_140 x1 x2 (nI w) (nI k) (nI (if y0 = true then 1 else 0)) (nI acc) s = some (.inl (nI (acc + if y0 = true then 1 else 0), nI (k + 1))) := by
      unfold J_X3_holding_140
      rw [i_eqF (by omega) (by omega) (by omega)]
      cases y0
      · rw [hff, i_eqT rfl, q_add, q_add]
      · rw [htt, i_eqF (by omega) (by omega) (by omega), q_add, q_add]
    rcases hw with hw | hw
    · subst hw
      rw [i_eqF (by omega) (by omega) (by omega)]
      cases x10
      · rw [hff, i_neF rfl, J140]
        simp
      · rw [htt, i_neT (by omega) (by omega) (by omega), q_add, q_add]
        simp
    · subst hw
      rw [i_eqT rfl, J140]
      simp
  have J84 : ∀ x10 : Bool, J_X3_holding_84 (nI a) (nI b) (nI w) (nI acc) (nI k) (nI (N (317 + 4 * k))) (nI (N (317 + 4 * k + 1))) (nI (N (317 + 4 * k + 2))) (nI (if x10 = true then 1 else 0)) s = some (.inl (nI (acc + if ((decide (w = 2) && x10) || cO N (lk a b) k) = true then 1 else 0), nI (k + 1))) := by
    intro x10
    unfold J_X3_holding_84 J_X3_holding_126 J_X3_holding_122
    have t0 := J127 (nI a) (nI b) x10 false
    have t1 := J127 (nI a) (nI b) x10 true
    rw [hff] at t0
    rw [htt] at t1
    rw [q_n1]
    unfold cO
    by_cases e : N (317 + 4 * k + 2) = NV
    · rw [i_eqT e, t0]
      simp [e]
    · have e6 : N (317 + 4 * k + 2) < 6 := c4'.resolve_left e
      have l1 := lk_lt c1 e6
      have l2 := lk_lt e6 c2
      rw [i_eqF e (by omega) (show (4294967295 : Nat) < 4294967296 by omega), Y_pair c1 e6, Option.bind_some, Y_pair ha hb, Option.bind_some]
      by_cases e1 : lk (N (317 + 4 * k)) (N (317 + 4 * k + 2)) = lk a b
      · rw [i_eqT e1, t1]
        simp [e, e1]
      · rw [i_eqF e1 (by omega) (by omega), Y_pair e6 c2, Option.bind_some, Option.bind_some]
        by_cases e2 : lk (N (317 + 4 * k + 2)) (N (317 + 4 * k + 1)) = lk a b
        · rw [i_neF e2, t1]
          simp [e, e2]
        · rw [i_neT e2 (by omega) (by omega), t0]
          simp [e, e1, e2]
  have j0 := J84 false
  have j1 := J84 true
  rw [hff] at j0
  rw [htt] at j1
  unfold J_X3_holding_83
  by_cases e : N (317 + 4 * k + 2) = NV
  · rw [i_neF e, Y_pair c1 c2, Option.bind_some, Y_pair ha hb, Option.bind_some]
    by_cases e1 : lk (N (317 + 4 * k)) (N (317 + 4 * k + 1)) = lk a b
    · rw [i_neF e1, j1]
      unfold cS
      simp [e, e1]
    · rw [i_neT e1 (by omega) (by omega), j0]
      unfold cS
      simp [e1]
  · rw [i_neT e (cN_lt c4') (show (4294967295 : Nat) < 4294967296 by omega), j0]
    unfold cS
    simp [e]
theorem Y_hold (hW : WF B N) (hR : RM (gM_nw s) N) {a b : Nat} (ha : a < 6) (hb : b < 6) : F_X3_holding (nI a) (nI b) (nI 2) s = some (nI (hC N (lk a b) (N 4))) ∧ F_X3_holding (nI a) (nI b) (nI 0) s = some (nI (oC N (lk a b) (N 4))) := by
  have h80 : N 4 ≤ 80 := hW.2.2.2.2.1
  have hx : ∀ (w acc : Nat), B_X3_holding_6 (nI a) (nI b) (nI w) (nI acc) (nI (N 4)) s = some (.inr (nI acc)) := by
    intro w acc
    unfold B_X3_holding_6
    rw [q_gI (by omega) (by omega), q_cl (by omega), hR.g (by omega), i_leT (Nat.le_refl _) (by omega)]
  constructor
  · have hl : mWh (fun x : Int32 × Int32 => B_X3_holding_6 (nI a) (nI b) (nI 2) x.1 x.2 s) fuel0 (nI 0, nI 0) = some (nI (hC N (lk a b) (N 4))) := q_for0 (b := fun x : Int32 × Int32 => B_X3_holding_6 (nI a) (nI b) (nI 2) x.1 x.2 s) (S := fun k => (nI (hC N (lk a b) k), nI k)) (N 4) (nI (hC N (lk a b) (N 4))) (by omega) (fun k hk => by
      dsimp only
      rw [Y_hold1 hW hR ha hb (Or.inl rfl) hk]
      rfl) (hx 2 _)
    unfold F_X3_holding
    rw [hl, Option.bind_some]
  · have hl : mWh (fun x : Int32 × Int32 => B_X3_holding_6 (nI a) (nI b) (nI 0) x.1 x.2 s) fuel0 (nI 0, nI 0) = some (nI (oC N (lk a b) (N 4))) := q_for0 (b := fun x : Int32 × Int32 => B_X3_holding_6 (nI a) (nI b) (nI 0) x.1 x.2 s) (S := fun k => (nI (oC N (lk a b) k), nI k)) (N 4) (nI (oC N (lk a b) (N 4))) (by omega) (fun k hk => by
      dsimp only
      rw [Y_hold1 hW hR ha hb (Or.inr rfl) hk]
      rfl) (hx 0 _)
    unfold F_X3_holding
    rw [hl, Option.bind_some]
theorem Y_free (hW : WF B N) (hR : RM (gM_nw s) N) {a b : Nat} (ha : a < 6) (hb : b < 6) : F_X3_free (nI a) (nI b) s = some (nI (sFr N (lk a b))) := by
  have hl := lk_lt ha hb
  have h4 := hC_le N (lk a b) (N 4)
  have h80 : N 4 ≤ 80 := hW.2.2.2.2.1
  have hw := hW.2.2.2.2.2.1 _ hl
  unfold F_X3_free sFr
  rw [Y_pair ha hb, Option.bind_some, q_add, q_gI (by omega) (by omega), (Y_hold hW hR ha hb).1, Option.bind_some, q_cl (by omega), hR.g (by omega)]
  by_cases h : hC N (lk a b) (N 4) ≤ N (5 + lk a b)
  · rw [q_sub h]
    by_cases h2 : N (5 + lk a b) - hC N (lk a b) (N 4) ≤ 0
    · rw [i_leT h2 (by omega), show N (5 + lk a b) - hC N (lk a b) (N 4) = 0 by omega]
    · rw [i_leF (by omega) (by omega)]
  · have hn := q_neglt (a := N (5 + lk a b)) (b := hC N (lk a b) (N 4)) (by omega) (by omega) (by omega)
    rw [if_pos (Int32.le_of_lt hn), show N (5 + lk a b) - hC N (lk a b) (N 4) = 0 by omega]
theorem sFr_le (hW : WF B N) {l : Nat} (hl : l < 36) : sFr N l ≤ 30 := by
  have := hW.2.2.2.2.2.1 l hl
  unfold sFr
  omega
theorem Y_more (hW : WF B N) (hR : RM (gM_nw s) N) {a b : Nat} (ha : a < 6) (hb : b < 6) : F_X3_hasMore (nI a) (nI b) s = some (nI (if sSv N (lk a b) = true then 1 else 0)) := by
  have hl := lk_lt ha hb
  have hf := sFr_le hW hl
  have hr := hW.2.2.2.2.2.2.1 _ hl
  unfold F_X3_hasMore sSv
  rw [Y_free hW hR ha hb, Option.bind_some, Y_pair ha hb, Option.bind_some, q_add, q_gI (by omega) (by omega), q_cl (by omega), hR.g (by omega)]
  by_cases h : sFr N (lk a b) ≤ N (41 + lk a b)
  · rw [i_leT h (by omega), if_neg (by rw [Nat.blt_eq]; omega)]
  · rw [i_leF (by omega) (by omega), if_pos (by rw [Nat.blt_eq]; omega)]
theorem Y_counts (hR : RM (gM_nw s) N) {a b w : Nat} (hc : 6 * a + b < 36) (hw : w < 5) : ∃ f', F_X3_counts (nI a) (nI b) (nI w) s = some (sNw s f') ∧ RM f' (sCt w (6 * a + b) N) := by
  unfold F_X3_counts
  rw [q_mul, q_add, q_mul, q_add, q_add, q_gI (by omega) (by omega), q_gI (by omega) (by omega), q_cl (by omega), hR.g (by omega), q_add]
  exact ⟨_, rfl, hR.put (by omega)⟩
theorem Y_draws (hW : WF B N) (hR : RM (gM_nw s) N) : ∃ f', F_X3_draws s = some (sNw s f') ∧ RM f' (uN N 2 (sX (N 2))) := by
  unfold F_X3_draws
  rw [q_gI (by omega) (by omega), q_gZL (by omega) (by omega), q_gI (by omega) (by omega), q_cl (by omega), hR.g (by omega), l_x hW.2.2.1]
  exact ⟨_, rfl, hR.put (by omega)⟩
/-- the town of a number, found step by step -/
def nx (a b : Nat) : Nat → Nat → Nat → Nat
  | 0, t, _ => t
  | m + 1, t, l => if t = a ∨ t = b ∨ 0 < l then nx a b m (t + 1) (if t = a ∨ t = b then l else l - 1) else t
theorem nx_sTn : ∀ a, a < 6 → ∀ b, b < 6 → a ≠ b → ∀ l, l < 4 → nx a b 11 0 l = sTn l a b := by decide +kernel
theorem nx_end : ∀ a, a < 6 → ∀ b, b < 6 → a ≠ b → ∀ l, l < 4 → nx a b 11 0 l = nx a b 12 0 l := by decide +kernel
/-- the walk ends in fewer than m steps -/
def ne_ (a b : Nat) : Nat → Nat → Nat → Bool
  | 0, _, _ => false
  | m + 1, t, l => if t = a ∨ t = b ∨ 0 < l then ne_ a b m (t + 1) (if t = a ∨ t = b then l else l - 1) else true
theorem ne_all : ∀ a, a < 6 → ∀ b, b < 6 → a ≠ b → ∀ l, l < 4 → ne_ a b 11 0 l = true := by decide +kernel
theorem Y_nx {a b : Nat} (ha : a < 6) (hb : b < 6) : ∀ (m k t l : Nat), ne_ a b m t l = true → t + m < 1000 → l < 1000 → m < k → mWh (fun x => B_X3_drawsSticky_26 (nI a) (nI b) x.1 x.2 s) k (nI l, nI t) = some (nI (nx a b m t l))
  | 0, k, t, l, h, _, _, _ => by cases h
  | m + 1, k + 1, t, l, h, h1, h2, h3 => by
    unfold ne_ at h
    unfold nx
    have hJ : (t = a ∨ t = b ∨ 0 < l) → J_X3_drawsSticky_42 (nI a) (nI b) (nI l) (nI t) s = some (.inl (nI (if t = a ∨ t = b then l else l - 1), nI (t + 1))) := by
      intro hc
      unfold J_X3_drawsSticky_42
      by_cases ea : t = a
      · rw [i_eqT ea, if_pos (Or.inl ea), q_sub (by omega), q_add]
        rfl
      · rw [i_eqF ea (by omega) (by omega)]
        by_cases eb : t = b
        · rw [i_neF eb, if_pos (Or.inr eb), q_sub (by omega), q_add]
          rfl
        · rw [i_neT eb (by omega) (by omega), if_neg (by omega), q_sub (by omega), q_add]
    by_cases hc : t = a ∨ t = b ∨ 0 < l
    · rw [if_pos hc] at h ⊢
      have hstep : B_X3_drawsSticky_26 (nI a) (nI b) (nI l) (nI t) s = some (.inl (nI (if t = a ∨ t = b then l else l - 1), nI (t + 1))) := by
        unfold B_X3_drawsSticky_26
        by_cases ea : t = a
        · rw [i_eqT ea]; exact hJ hc
        · rw [i_eqF ea (by omega) (by omega)]
          by_cases eb : t = b
          · rw [i_eqT eb]; exact hJ hc
          · rw [i_eqF eb (by omega) (by omega), i_leF (by omega) (by omega)]; exact hJ hc
      rw [q_whl (y := (nI (if t = a ∨ t = b then l else l - 1), nI (t + 1))) hstep]
      exact Y_nx ha hb m k (t + 1) _ h (by omega) (by split <;> omega) (by omega)
    · rw [if_neg hc]
      refine q_whr ?_
      show B_X3_drawsSticky_26 (nI a) (nI b) (nI l) (nI t) s = _
      unfold B_X3_drawsSticky_26
      rw [i_eqF (by omega) (by omega) (by omega), i_eqF (by omega) (by omega) (by omega), i_leT (by omega) (by omega)]
theorem Y_rd (hW : WF B N) (hR : RM (gM_nw s) N) {a b : Nat} (ha : a < N 0) (hb : b < N 0) (hab : a ≠ b) : ∃ f', F_X3_drawsSticky (nI a) (nI b) s = some (sNw s f') ∧ RM f' (sRd a b N) := by
  have h0 := hW.1
  obtain ⟨f1, e1, hR1⟩ := Y_draws hW hR
  have k0 : uN N 2 (sX (N 2)) 0 = N 0 := uN_n (by omega)
  have k2 : uN N 2 (sX (N 2)) 2 = sX (N 2) := uN_s
  have hx := sX_lt (N 2)
  have hm : sX (N 2) / 65536 % (N 0 - 2) < N 0 - 2 := Nat.mod_lt _ (by omega)
  have g0 : f1 0 = nI (N 0) := by rw [hR1.g (by omega), k0]
  have g2 : f1 2 = nI (sX (N 2)) := by rw [hR1.g (by omega), k2]
  unfold F_X3_drawsSticky
  rw [e1, Option.bind_some]
  have hloop := Y_nx (s := sNw s f1) (a := a) (b := b) (by omega) (by omega) 11 fuel0 0 (sX (N 2) / 65536 % (N 0 - 2)) (ne_all a (by omega) b (by omega) hab _ (by omega)) (by omega) (by omega) (by unfold fuel0; omega)
  rw [nx_sTn a (by omega) b (by omega) hab _ (by omega)] at hloop
  rw [q_gI (by omega) (by omega), q_gZ (by omega) (by omega), q_gI (by omega) (by omega), q_cl (by omega), q_cl (by omega)]
  rw [show gM_nw (sNw s f1) = f1 from rfl, g0, g2, q_sub (by omega), q_gZ (by omega) (by omega), q_div hx (by omega) (by omega), q_div (by omega) (by omega) (by omega), q_rem (by omega) (by omega) (by omega), hloop, Option.bind_some, q_mul, q_add, q_add, q_gI (by omega) (by omega), q_cl (by omega)]
  refine ⟨_, rfl, ?_⟩
  unfold sRd
  rw [show 77 + (6 * a + b) = 77 + 6 * a + b by omega]
  exact hR1.put (by omega)
theorem Y_goes (hW : WF B N) (hR : RM (gM_nw s) N) {a b t h : Nat} (hm : N 4 < 80) (hc : 6 * a + b < 36) (ht : t = NV ∨ t < 6) : ∃ f', F_X3_goes (nI a) (nI b) (nI t) (nI h) s = some (sNw s f') ∧ RM f' (sGo a b t h N) := by
  unfold F_X3_goes
  rw [q_cl (show 4 < 2147483648 by omega), hR.g (by omega), q_mul, q_add, q_add, q_add, q_add, q_gI (by omega) (by omega), q_gI (by omega) (by omega), q_gI (by omega) (by omega), q_gI (by omega) (by omega), q_gI (by omega) (by omega), q_gI (by omega) (by omega), q_gI (by omega) (by omega), q_cl (by omega), q_cl (by omega), q_cl (by omega), q_cl (by omega), q_n1]
  rw [show (upd (upd (upd (upd (gM_nw s) (317 + 4 * N 4) (nI a)) (317 + 4 * N 4 + 1) (nI b)) (317 + 4 * N 4 + 2) (nI t)) (317 + 4 * N 4 + 3) (nI h)) 4 = nI (N 4) from (if_neg (by omega)).trans ((if_neg (by omega)).trans ((if_neg (by omega)).trans ((if_neg (by omega)).trans (hR.g (by omega))))), q_add]
  have hR1 : RM (upd (upd (upd (upd (upd (gM_nw s) (317 + 4 * N 4) (nI a)) (317 + 4 * N 4 + 1) (nI b)) (317 + 4 * N 4 + 2) (nI t)) (317 + 4 * N 4 + 3) (nI h)) 4 (nI (N 4 + 1))) (sAd a b t h N) := by
    refine RM.of (fun j hj => ?_)
    rw [sAd_4] at hj
    unfold upd
    by_cases e4 : j = 4
    · subst e4; rw [if_pos rfl, sAd_4]
    rw [if_neg e4]
    by_cases e3 : j = 317 + 4 * N 4 + 3
    · subst e3; rw [if_pos rfl, sAd_h]
    rw [if_neg e3]
    by_cases e2 : j = 317 + 4 * N 4 + 2
    · subst e2; rw [if_pos rfl, sAd_t]
    rw [if_neg e2]
    by_cases e1 : j = 317 + 4 * N 4 + 1
    · subst e1; rw [if_pos rfl, sAd_b]
    rw [if_neg e1]
    by_cases e0 : j = 317 + 4 * N 4
    · subst e0; rw [if_pos rfl, sAd_a]
    rw [if_neg e0, sAd_n e4 (by omega)]
    exact hR.g (by omega)
  generalize (upd (upd (upd (upd (upd (gM_nw s) (317 + 4 * N 4) (nI a)) (317 + 4 * N 4 + 1) (nI b)) (317 + 4 * N 4 + 2) (nI t)) (317 + 4 * N 4 + 3) (nI h)) 4 (nI (N 4 + 1))) = f1 at hR1
  unfold sGo
  by_cases e : t = NV
  · rw [i_neF e, if_pos e]
    obtain ⟨f2, e2, hR2⟩ := Y_counts (s := sNw s f1) (N := sAd a b t h N) (a := a) (b := b) (w := 1) hR1 hc (by omega)
    unfold J_X3_goes_76
    rw [e2, Option.bind_some, ← sAd_sCt (by omega) hc]
    exact ⟨f2, rfl, hR2⟩
  · rw [i_neT e (cN_lt ht) (show (4294967295 : Nat) < 4294967296 by omega), if_neg e]
    obtain ⟨f2, e2, hR2⟩ := Y_counts (s := sNw s f1) (N := sAd a b t h N) (a := a) (b := b) (w := 2) hR1 hc (by omega)
    unfold J_X3_goes_76
    rw [e2, Option.bind_some, ← sAd_sCt (by omega) hc]
    exact ⟨f2, rfl, hR2⟩
end
