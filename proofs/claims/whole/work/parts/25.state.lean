/-! whole states: class r, reference m -/
def slt (r : RouS) (k : Nat) : NetS := if k = 0 then gR_s0 r else if k = 1 then gR_s1 r else if k = 2 then gR_s2 r else if k = 3 then gR_s3 r else gR_s4 r
/-- the states kept, the newest first -/
def RS (B len ns : Nat) (L : Nat → Nat → Nat) (r : RouS) (m : ModS) : Prop := len ≤ 5 ∧ ns < 5 ∧ gR_sc r = nI len ∧ gM_ss m = nI len ∧ gR_ns r = nI ns ∧ ∀ j, j < len → WF B (L j) ∧ RC (slt r ((ns + 4 - j) % 5)) (L j) ∧ ∀ k, k < 317 + 4 * L j 4 → gM_pa m (637 * (len - 1 - j) + k) = nI (L j k)
/-- the text -/
def RX (ln : Nat) (T : Nat → Nat) (r : RouS) (m : ModS) : Prop := ln ≤ 120 ∧ gT_ln (gR_txt r) = nI ln ∧ gM_ty m = nI ln ∧ ∀ j, j < ln → T j ≤ 127 ∧ gT_by (gR_txt r) j = nI (T j) ∧ gM_tx m j = nI (T j)
def TRp (B : Nat) (N : Nat → Nat) (len ns : Nat) (L : Nat → Nat → Nat) (ln : Nat) (T : Nat → Nat) (r : RouS) (m : ModS) : Prop := WF B N ∧ RC (gR_now r) N ∧ RM (gM_nw m) N ∧ RS B len ns L r m ∧ RX ln T r m ∧ gR_bd r = gM_bd m ∧ gR_no r = gM_no m ∧ gR_fu r = gM_fu m
def TR (B : Nat) (r : RouS) (m : ModS) : Prop := ∃ N len ns L ln T, TRp B N len ns L ln T r m
theorem RS.mono {B B' len ns : Nat} {L : Nat → Nat → Nat} {r : RouS} {m : ModS} (h : RS B len ns L r m) (hb : B ≤ B') : RS B' len ns L r m := ⟨h.1, h.2.1, h.2.2.1, h.2.2.2.1, h.2.2.2.2.1, fun j hj => ⟨(h.2.2.2.2.2 j hj).1.mono hb, (h.2.2.2.2.2 j hj).2⟩⟩
/-- the net with another one now -/
abbrev setN (r : RouS) (n : NetS) : RouS := mkR (gR_sc r) (gR_ns r) (gR_bd r) (gR_no r) (gR_fu r) n (gR_tri r) (gR_s0 r) (gR_s1 r) (gR_s2 r) (gR_s3 r) (gR_s4 r) (gR_txt r)
section
variable {B : Nat} {N : Nat → Nat} {len ns ln : Nat} {L : Nat → Nat → Nat} {T : Nat → Nat} {r : RouS} {m : ModS}
theorem TRp.now (h : TRp B N len ns L ln T r m) {B' : Nat} {N' : Nat → Nat} {n' : NetS} {f' : Nat → Int32} (hb : B ≤ B') (hW : WF B' N') (hR : RC n' N') (hM : RM f' N') : TRp B' N' len ns L ln T (setN r n') (sNw m f') := ⟨hW, hR, hM, h.2.2.2.1.mono hb, h.2.2.2.2⟩
theorem TRp.bad (h : TRp B N len ns L ln T r m) : ∃ r' m', F_X2_refuse (-nI 2) r = some (-nI 2, r') ∧ F_X3_bads m = some (-nI 2, m') ∧ TRp B N len ns L ln T r' m' := by
  unfold F_X2_refuse F_X3_bads
  rw [i_neF_ rfl]
  exact ⟨_, _, rfl, rfl, h.1, h.2.1, h.2.2.1, h.2.2.2.1, h.2.2.2.2.1, congrArg (fun z => z + nI 1) h.2.2.2.2.2.1, h.2.2.2.2.2.2⟩
theorem TRp.nob (h : TRp B N len ns L ln T r m) : ∃ r' m', F_X2_refuse (-nI 3) r = some (-nI 3, r') ∧ F_X3_nos m = some (-nI 3, m') ∧ TRp B N len ns L ln T r' m' := by
  unfold F_X2_refuse F_X3_nos
  rw [q_n2, q_n3, i_neT (by omega) (by omega) (by omega), i_neF rfl]
  exact ⟨_, _, rfl, rfl, h.1, h.2.1, h.2.2.1, h.2.2.2.1, h.2.2.2.2.1, h.2.2.2.2.2.1, congrArg (fun z => z + nI 1) h.2.2.2.2.2.2.1, h.2.2.2.2.2.2.2⟩
theorem TRp.ful (h : TRp B N len ns L ln T r m) : ∃ r', F_X2_refuse (-nI 4) r = some (-nI 4, r') ∧ TRp B N len ns L ln T r' (mkM (gM_ss m) (gM_ty m) (gM_at m) (gM_ft m) (gM_mn m) (gM_bd m) (gM_no m) (gM_fu m + nI 1) (gM_nw m) (gM_as m) (gM_pa m) (gM_tx m) (gM_od m)) := by
  unfold F_X2_refuse
  rw [q_n2, q_n3, q_n4, i_neT (by omega) (by omega) (by omega), i_neT (by omega) (by omega) (by omega)]
  exact ⟨_, rfl, h.1, h.2.1, h.2.2.1, h.2.2.2.1, h.2.2.2.2.1, h.2.2.2.2.2.1, h.2.2.2.2.2.2.1, congrArg (fun z => z + nI 1) h.2.2.2.2.2.2.2⟩
/-- the class keeps a state -/
theorem X_keep (h80 : N 4 ≤ 80) (hR : RC (gR_now r) N) (hlen : len ≤ 5) (hns : ns < 5) (hsc : gR_sc r = nI len) (hn : gR_ns r = nI ns) : ∃ r1, F_X2_keepState r = some r1 ∧ gR_sc r1 = nI (if 5 ≤ len then len else len + 1) ∧ gR_ns r1 = nI ((ns + 1) % 5) ∧ (∀ k, k < 5 → k ≠ ns → slt r1 k = slt r k) ∧ RC (slt r1 ns) N ∧ gR_now r1 = gR_now r ∧ gR_txt r1 = gR_txt r ∧ gR_bd r1 = gR_bd r ∧ gR_no r1 = gR_no r ∧ gR_fu r1 = gR_fu r := by
  have hm : (ns + 1) % 5 < 5 := Nat.mod_lt _ (by omega)
  have hd : nI (ns + 1) - nI (ns + 1) / nI 5 * nI 5 = nI ((ns + 1) % 5) := by rw [q_div (by omega) (by omega) (by omega), q_rem (by omega) (by omega) (by omega)]
  have hall : ∀ k, k < 5 → k = 0 ∨ k = 1 ∨ k = 2 ∨ k = 3 ∨ k = 4 := fun k hk => by omega
  unfold F_X2_keepState
  rw [hn, q_gI hns (by omega), q_add, hd, hsc]
  by_cases e0 : ns = 0
  · subst e0
    obtain ⟨n1, c1, c2⟩ := hR.cp h80 (gR_s0 r)
    rw [i_eqT rfl, c1, Option.bind_some, q_gZ (by omega) (by omega)]
    by_cases hl : 5 ≤ len
    · rw [i_leT hl (by omega), if_pos hl]
      exact ⟨_, rfl, rfl, rfl, fun k hk hne => by rcases hall k hk with rfl | rfl | rfl | rfl | rfl <;> first | rfl | exact absurd rfl hne, c2, rfl, rfl, rfl, rfl, rfl⟩
    · rw [i_leF (by omega) (by omega), if_neg hl, q_add]
      exact ⟨_, rfl, rfl, rfl, fun k hk hne => by rcases hall k hk with rfl | rfl | rfl | rfl | rfl <;> first | rfl | exact absurd rfl hne, c2, rfl, rfl, rfl, rfl, rfl⟩
  by_cases e1 : ns = 1
  · subst e1
    obtain ⟨n1, c1, c2⟩ := hR.cp h80 (gR_s1 r)
    rw [i_eqF (show (1 : Nat) ≠ 0 by omega) (by omega) (by omega), i_eqT rfl, c1, Option.bind_some, q_gZ (by omega) (by omega)]
    by_cases hl : 5 ≤ len
    · rw [i_leT hl (by omega), if_pos hl]
      exact ⟨_, rfl, rfl, rfl, fun k hk hne => by rcases hall k hk with rfl | rfl | rfl | rfl | rfl <;> first | rfl | exact absurd rfl hne, c2, rfl, rfl, rfl, rfl, rfl⟩
    · rw [i_leF (by omega) (by omega), if_neg hl, q_add]
      exact ⟨_, rfl, rfl, rfl, fun k hk hne => by rcases hall k hk with rfl | rfl | rfl | rfl | rfl <;> first | rfl | exact absurd rfl hne, c2, rfl, rfl, rfl, rfl, rfl⟩
  by_cases e2 : ns = 2
  · subst e2
    obtain ⟨n1, c1, c2⟩ := hR.cp h80 (gR_s2 r)
    rw [i_eqF (show (2 : Nat) ≠ 0 by omega) (by omega) (by omega), i_eqF (show (2 : Nat) ≠ 1 by omega) (by omega) (by omega), i_eqT rfl, c1, Option.bind_some, q_gZ (by omega) (by omega)]
    by_cases hl : 5 ≤ len
    · rw [i_leT hl (by omega), if_pos hl]
      exact ⟨_, rfl, rfl, rfl, fun k hk hne => by rcases hall k hk with rfl | rfl | rfl | rfl | rfl <;> first | rfl | exact absurd rfl hne, c2, rfl, rfl, rfl, rfl, rfl⟩
    · rw [i_leF (by omega) (by omega), if_neg hl, q_add]
      exact ⟨_, rfl, rfl, rfl, fun k hk hne => by rcases hall k hk with rfl | rfl | rfl | rfl | rfl <;> first | rfl | exact absurd rfl hne, c2, rfl, rfl, rfl, rfl, rfl⟩
  by_cases e3 : ns = 3
  · subst e3
    obtain ⟨n1, c1, c2⟩ := hR.cp h80 (gR_s3 r)
    rw [i_eqF (show (3 : Nat) ≠ 0 by omega) (by omega) (by omega), i_eqF (show (3 : Nat) ≠ 1 by omega) (by omega) (by omega), i_eqF (show (3 : Nat) ≠ 2 by omega) (by omega) (by omega), i_eqT rfl, c1, Option.bind_some, q_gZ (by omega) (by omega)]
    by_cases hl : 5 ≤ len
    · rw [i_leT hl (by omega), if_pos hl]
      exact ⟨_, rfl, rfl, rfl, fun k hk hne => by rcases hall k hk with rfl | rfl | rfl | rfl | rfl <;> first | rfl | exact absurd rfl hne, c2, rfl, rfl, rfl, rfl, rfl⟩
    · rw [i_leF (by omega) (by omega), if_neg hl, q_add]
      exact ⟨_, rfl, rfl, rfl, fun k hk hne => by rcases hall k hk with rfl | rfl | rfl | rfl | rfl <;> first | rfl | exact absurd rfl hne, c2, rfl, rfl, rfl, rfl, rfl⟩
  by_cases e4 : ns = 4
  · subst e4
    obtain ⟨n1, c1, c2⟩ := hR.cp h80 (gR_s4 r)
    rw [i_eqF (show (4 : Nat) ≠ 0 by omega) (by omega) (by omega), i_eqF (show (4 : Nat) ≠ 1 by omega) (by omega) (by omega), i_eqF (show (4 : Nat) ≠ 2 by omega) (by omega) (by omega), i_eqF (show (4 : Nat) ≠ 3 by omega) (by omega) (by omega), i_eqT rfl, c1, Option.bind_some, q_gZ (by omega) (by omega)]
    by_cases hl : 5 ≤ len
    · rw [i_leT hl (by omega), if_pos hl]
      exact ⟨_, rfl, rfl, rfl, fun k hk hne => by rcases hall k hk with rfl | rfl | rfl | rfl | rfl <;> first | rfl | exact absurd rfl hne, c2, rfl, rfl, rfl, rfl, rfl⟩
    · rw [i_leF (by omega) (by omega), if_neg hl, q_add]
      exact ⟨_, rfl, rfl, rfl, fun k hk hne => by rcases hall k hk with rfl | rfl | rfl | rfl | rfl <;> first | rfl | exact absurd rfl hne, c2, rfl, rfl, rfl, rfl, rfl⟩
  exact absurd hns (by omega)
theorem Y_k51 {l : Nat} (hl : l < 5) (hs : gM_ss m = nI l) : J_X3_keeps_49 m = some (mkM (nI (l + 1)) (gM_ty m) (gM_at m) (gM_ft m) (gM_mn m) (gM_bd m) (gM_no m) (gM_fu m) (gM_nw m) (gM_as m) (fun k => if 637 * l ≤ k ∧ k < 637 * l + 637 then gM_nw m (k - 637 * l) else gM_pa m k) (gM_tx m) (gM_od m)) := by
  have : mWh (fun x : Int32 × ModS => B_X3_keeps_51 x.1 x.2) fuel0 (nI 0, m) = some (mkM (gM_ss m) (gM_ty m) (gM_at m) (gM_ft m) (gM_mn m) (gM_bd m) (gM_no m) (gM_fu m) (gM_nw m) (gM_as m) (fun k => if 637 * l ≤ k ∧ k < 637 * l + 637 then gM_nw m (k - 637 * l) else gM_pa m k) (gM_tx m) (gM_od m)) := by
    have h0 : (fun k => if 637 * l ≤ k ∧ k < 637 * l + 0 then gM_nw m (k - 637 * l) else gM_pa m k) = gM_pa m := funext (fun k => if_neg (by omega))
    have := q_for0 (b := fun x : Int32 × ModS => B_X3_keeps_51 x.1 x.2) (S := fun i => (nI i, mkM (gM_ss m) (gM_ty m) (gM_at m) (gM_ft m) (gM_mn m) (gM_bd m) (gM_no m) (gM_fu m) (gM_nw m) (gM_as m) (fun k => if 637 * l ≤ k ∧ k < 637 * l + i then gM_nw m (k - 637 * l) else gM_pa m k) (gM_tx m) (gM_od m))) 637 (mkM (gM_ss m) (gM_ty m) (gM_at m) (gM_ft m) (gM_mn m) (gM_bd m) (gM_no m) (gM_fu m) (gM_nw m) (gM_as m) (fun k => if 637 * l ≤ k ∧ k < 637 * l + 637 then gM_nw m (k - 637 * l) else gM_pa m k) (gM_tx m) (gM_od m)) (by omega) (fun i hi => by
      dsimp only
      unfold B_X3_keeps_51
      rw [show gM_ss (mkM (gM_ss m) (gM_ty m) (gM_at m) (gM_ft m) (gM_mn m) (gM_bd m) (gM_no m) (gM_fu m) (gM_nw m) (gM_as m) (fun k => if 637 * l ≤ k ∧ k < 637 * l + i then gM_nw m (k - 637 * l) else gM_pa m k) (gM_tx m) (gM_od m)) = nI l from hs, q_mul, q_add, i_leF hi (by omega), q_gI hi (by omega), q_gI (by omega) (by omega), q_add, q_cl (by omega), q_cl (by omega)]
      refine congrArg (fun g => some (Sum.inl (nI (i + 1), mkM (nI l) (gM_ty m) (gM_at m) (gM_ft m) (gM_mn m) (gM_bd m) (gM_no m) (gM_fu m) (gM_nw m) (gM_as m) g (gM_tx m) (gM_od m)))) (a₂ := fun k => if 637 * l ≤ k ∧ k < 637 * l + (i + 1) then gM_nw m (k - 637 * l) else gM_pa m k) (funext fun k => ?_) |>.trans ?_
      · unfold upd
        by_cases e : k = 637 * l + i
        · rw [if_pos e, if_pos (by omega), e, Nat.add_sub_cancel_left]
          rfl
        · rw [if_neg e]
          show (if 637 * l ≤ k ∧ k < 637 * l + i then gM_nw m (k - 637 * l) else gM_pa m k) = _
          by_cases e2 : 637 * l ≤ k ∧ k < 637 * l + i
          · rw [if_pos e2, if_pos (by omega)]
          · rw [if_neg e2, if_neg (by omega)]
      · rw [hs]) (by
      dsimp only
      unfold B_X3_keeps_51
      rw [i_leT (Nat.le_refl _) (by omega)])
    rw [h0] at this
    exact this
  unfold J_X3_keeps_49
  rw [this, Option.bind_some, show gM_ss (mkM (gM_ss m) (gM_ty m) (gM_at m) (gM_ft m) (gM_mn m) (gM_bd m) (gM_no m) (gM_fu m) (gM_nw m) (gM_as m) (fun k => if 637 * l ≤ k ∧ k < 637 * l + 637 then gM_nw m (k - 637 * l) else gM_pa m k) (gM_tx m) (gM_od m)) = nI l from hs, q_add]
  rfl
theorem Y_k10 : mWh (fun x : Int32 × ModS => B_X3_keeps_10 x.1 x.2) fuel0 (nI 0, m) = some (mkM (gM_ss m) (gM_ty m) (gM_at m) (gM_ft m) (gM_mn m) (gM_bd m) (gM_no m) (gM_fu m) (gM_nw m) (gM_as m) (fun k => if k < 2548 then gM_pa m (k + 637) else gM_pa m k) (gM_tx m) (gM_od m)) := by
  have h0 : (fun k => if k < 0 then gM_pa m (k + 637) else gM_pa m k) = gM_pa m := funext (fun k => if_neg (by omega))
  have := q_for0 (b := fun x : Int32 × ModS => B_X3_keeps_10 x.1 x.2) (S := fun i => (nI i, mkM (gM_ss m) (gM_ty m) (gM_at m) (gM_ft m) (gM_mn m) (gM_bd m) (gM_no m) (gM_fu m) (gM_nw m) (gM_as m) (fun k => if k < i then gM_pa m (k + 637) else gM_pa m k) (gM_tx m) (gM_od m))) 2548 (mkM (gM_ss m) (gM_ty m) (gM_at m) (gM_ft m) (gM_mn m) (gM_bd m) (gM_no m) (gM_fu m) (gM_nw m) (gM_as m) (fun k => if k < 2548 then gM_pa m (k + 637) else gM_pa m k) (gM_tx m) (gM_od m)) (by omega) (fun i hi => by
    dsimp only
    unfold B_X3_keeps_10
    rw [q_add, i_leF hi (by omega), q_gI (by omega) (by omega), q_gI (by omega) (by omega), q_add, q_cl (by omega), q_cl (by omega)]
    refine congrArg (fun g => some (Sum.inl (nI (i + 1), mkM (gM_ss m) (gM_ty m) (gM_at m) (gM_ft m) (gM_mn m) (gM_bd m) (gM_no m) (gM_fu m) (gM_nw m) (gM_as m) g (gM_tx m) (gM_od m)))) (a₂ := fun k => if k < i + 1 then gM_pa m (k + 637) else gM_pa m k) (funext fun k => ?_)
    unfold upd
    by_cases e : k = i
    · rw [if_pos e, if_pos (by omega), e]
      exact if_neg (by omega)
    · rw [if_neg e]
      show (if k < i then gM_pa m (k + 637) else gM_pa m k) = _
      by_cases e2 : k < i
      · rw [if_pos e2, if_pos (by omega)]
      · rw [if_neg e2, if_neg (by omega)]) (by
    dsimp only
    unfold B_X3_keeps_10
    rw [i_leT (Nat.le_refl _) (by omega)])
  rw [h0] at this
  exact this
/-- the reference keeps a state -/
theorem Y_keep (hlen : len ≤ 5) (hs : gM_ss m = nI len) : ∃ m1, F_X3_keeps m = some m1 ∧ gM_ss m1 = nI (if 5 ≤ len then len else len + 1) ∧ gM_nw m1 = gM_nw m ∧ gM_ty m1 = gM_ty m ∧ gM_tx m1 = gM_tx m ∧ gM_bd m1 = gM_bd m ∧ gM_no m1 = gM_no m ∧ gM_fu m1 = gM_fu m ∧ (∀ k, k < 637 → gM_pa m1 (637 * (if 5 ≤ len then 4 else len) + k) = gM_nw m k) ∧ (∀ i k, k < 637 → i < (if 5 ≤ len then 4 else len) → gM_pa m1 (637 * i + k) = gM_pa m (637 * (if 5 ≤ len then i + 1 else i) + k)) := by
  unfold F_X3_keeps
  rw [hs]
  by_cases e : len = 5
  · subst e
    rw [i_neF rfl, Y_k10, Option.bind_some]
    rw [show gM_ss (mkM (gM_ss m) (gM_ty m) (gM_at m) (gM_ft m) (gM_mn m) (gM_bd m) (gM_no m) (gM_fu m) (gM_nw m) (gM_as m) (fun k => if k < 2548 then gM_pa m (k + 637) else gM_pa m k) (gM_tx m) (gM_od m)) - nI 1 = nI 4 from by
      show gM_ss m - nI 1 = nI 4
      rw [hs, q_sub (by omega)]]
    rw [Y_k51 (l := 4) (by omega) rfl]
    refine ⟨_, rfl, rfl, rfl, rfl, rfl, rfl, rfl, rfl, ?_, ?_⟩
    · intro k hk
      show (if 637 * 4 ≤ 637 * 4 + k ∧ 637 * 4 + k < 637 * 4 + 637 then gM_nw m (637 * 4 + k - 637 * 4) else _) = _
      rw [if_pos (by omega), Nat.add_sub_cancel_left]
    · intro i k hk hi
      have hi : i < 4 := hi
      show (if 637 * 4 ≤ 637 * i + k ∧ 637 * i + k < 637 * 4 + 637 then gM_nw m (637 * i + k - 637 * 4) else if 637 * i + k < 2548 then gM_pa m (637 * i + k + 637) else gM_pa m (637 * i + k)) = gM_pa m (637 * (i + 1) + k)
      rw [if_neg (by omega), if_pos (by omega)]
      congr 1
      omega
  · rw [i_neT e (by omega) (by omega), Y_k51 (l := len) (by omega) hs, if_neg (by omega), if_neg (by omega)]
    refine ⟨_, rfl, rfl, rfl, rfl, rfl, rfl, rfl, rfl, ?_, ?_⟩
    · intro k hk
      show (if 637 * len ≤ 637 * len + k ∧ 637 * len + k < 637 * len + 637 then gM_nw m (637 * len + k - 637 * len) else _) = _
      rw [if_pos (by omega), Nat.add_sub_cancel_left]
    · intro i k hk hi
      show (if 637 * len ≤ 637 * i + k ∧ 637 * i + k < 637 * len + 637 then gM_nw m (637 * i + k - 637 * len) else gM_pa m (637 * i + k)) = _
      have hlt : 637 * i + k < 637 * len := by
        have : 637 * (i + 1) ≤ 637 * len := Nat.mul_le_mul_left _ hi
        omega
      rw [if_neg (by omega), if_neg (by omega)]
/-- both keep a state -/
theorem TRp.keep (h : TRp B N len ns L ln T r m) : ∃ r1 m1 len' ns' L', F_X2_keepState r = some r1 ∧ F_X3_keeps m = some m1 ∧ TRp B N len' ns' L' ln T r1 m1 ∧ gR_now r1 = gR_now r ∧ gM_nw m1 = gM_nw m ∧ gR_txt r1 = gR_txt r := by
  obtain ⟨hW, hR, hM, ⟨s1, s2, s3, s4, s5, s6⟩, ⟨x1, x2, x3, x4⟩, b1, b2, b3⟩ := h
  have h80 : N 4 ≤ 80 := hW.2.2.2.2.1
  obtain ⟨r1, a1, a2, a3, a4, a5, a6, a7, a8, a9, a10⟩ := X_keep h80 hR s1 s2 s3 s5
  obtain ⟨m1, c1, c2, c3, c4, c5, c6, c7, c8, c9, c10⟩ := Y_keep s1 s4
  refine ⟨r1, m1, if 5 ≤ len then len else len + 1, (ns + 1) % 5, fun j => if j = 0 then N else L (j - 1), a1, c1, ⟨hW, by rw [a6]; exact hR, by rw [c3]; exact hM, ⟨by split <;> omega, Nat.mod_lt _ (by omega), a2, c2, a3, ?_⟩, ⟨x1, by rw [a7]; exact x2, by rw [c4]; exact x3, fun j hj => by rw [a7, c5]; exact x4 j hj⟩, by rw [a8, c6]; exact b1, by rw [a9, c7]; exact b2, by rw [a10, c8]; exact b3⟩, a6, c3, a7⟩
  intro j hj
  dsimp only
  by_cases e : j = 0
  · subst e
    rw [if_pos rfl]
    refine ⟨hW, ?_, ?_⟩
    · rw [show ((ns + 1) % 5 + 4 - 0) % 5 = ns by omega]
      exact a5
    · intro k hk
      have hi : (if 5 ≤ len then len else len + 1) - 1 - 0 = if 5 ≤ len then 4 else len := by split <;> omega
      rw [hi, c9 k (by omega)]
      exact hM.g hk
  · rw [if_neg e]
    have hj2 : j - 1 < len := by
      by_cases q : 5 ≤ len
      · rw [if_pos q] at hj; omega
      · rw [if_neg q] at hj; omega
    have hj5 : j < 5 := by
      by_cases q : 5 ≤ len
      · rw [if_pos q] at hj; omega
      · rw [if_neg q] at hj; omega
    obtain ⟨g1, g2, g3⟩ := s6 (j - 1) hj2
    have g4 := g1.2.2.2.2.1
    refine ⟨g1, ?_, ?_⟩
    · rw [show ((ns + 1) % 5 + 4 - j) % 5 = (ns + 4 - (j - 1)) % 5 by omega, a4 _ (Nat.mod_lt _ (by omega)) (by omega)]
      exact g2
    · intro k hk
      have hi : (if 5 ≤ len then len else len + 1) - 1 - j < if 5 ≤ len then 4 else len := by split <;> omega
      rw [c10 _ k (by omega) hi, ← g3 k hk]
      congr 2
      by_cases q : 5 ≤ len
      · rw [if_pos q, if_pos q]; congr 1; omega
      · rw [if_neg q, if_neg q]; congr 1; omega
end
