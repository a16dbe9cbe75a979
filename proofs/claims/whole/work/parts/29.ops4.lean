/-! digest, worst, choked -/
section
variable {B : Nat} {N : Nat → Nat} {len ns ln : Nat} {L : Nat → Nat → Nat} {T : Nat → Nat} {r : RouS} {m : ModS}
theorem lk_lt2 {a b : Nat} (h : a < b) : lk a b = 6 * a + b := if_pos h
theorem lk_gt2 {a b : Nat} (h : b < a) : lk a b = 6 * b + a := if_neg (by omega)
def DG (k : Nat) (x y : Int64 × Int32) : Prop := ∃ v, x = (v, nI k) ∧ y = (v, nI k)
theorem dg_links (hB : B < 1073741824) (hW : WF B N) (hR : RC (gR_now r) N) (hM : RM (gM_nw m) N) (v : Int64) : ∃ z, F_X0_mixLinks v (gR_now r) = some z ∧ mWh (fun x : Int64 × Int32 => B_X3_digest_33 x.1 x.2 m) fuel0 (v, nI 0) = some z := by
  have h06 := hW.1
  have hl : ∃ z z', mWh (fun x : Int64 × Int32 => B_X0_mixLinks_5 x.1 x.2 (gR_now r)) fuel0 (v, nI 0) = some z ∧ mWh (fun x : Int64 × Int32 => B_X3_digest_33 x.1 x.2 m) fuel0 (v, nI 0) = some z' ∧ z = z' := by
    refine q_two0 (I := DG) (X := fun z z' : Int64 => z = z') 0 (N 0) (by omega) (by omega) ⟨v, rfl, rfl⟩ ?_ ?_
    · rintro a x y ha ⟨u, rfl, rfl⟩
      dsimp only
      have hi : ∃ z z', mWh (fun x : Int64 × Int32 => B_X0_mixLinks_20 (nI a) x.1 x.2 (gR_now r)) fuel0 (u, nI (a + 1)) = some z ∧ mWh (fun x : Int64 × Int32 => B_X3_digest_48 (nI a) x.1 x.2 m) fuel0 (u, nI (a + 1)) = some z' ∧ z = z' := by
        refine q_two0 (I := fun k (x y : Int64 × Int32) => a < k ∧ DG k x y) (X := fun z z' : Int64 => z = z') (a + 1) (N 0) (by omega) (by omega) ⟨by omega, u, rfl, rfl⟩ ?_ ?_
        · rintro b x y hb ⟨hab, w, rfl, rfl⟩
          dsimp only
          unfold B_X0_mixLinks_20 B_X3_digest_48
          have hlk := lk_lt2 hab
          have hl := lk_lt (a := a) (b := b) (by omega) (by omega)
          rw [hR.1, i_leF hb (by omega), X_link (by omega) (by omega), Option.bind_some, q_gI hl (by omega), q_gI hl (by omega), X_free hB hW hR hl, Option.bind_some, q_cl (by omega), hR.2.2.2.2.2.1 _ hl, hR.2.2.2.2.2.2.1 _ hl, q_gI (by omega) (by omega), q_cl (show 0 < 2147483648 by omega), hM.g (show 0 < _ by omega), i_leF hb (by omega), q_mul 6 a, q_add 5, q_add (5 + 6 * a), q_add 41, q_add (41 + 6 * a), q_gI (by omega) (by omega), q_gI (by omega) (by omega), Y_free hW hM (by omega) (by omega), Option.bind_some, q_cl (show 5 + 6 * a + b < 2147483648 by omega), q_cl (show 41 + 6 * a + b < 2147483648 by omega), hM.g (by omega), hM.g (by omega), q_add b 1, hlk, show 5 + (6 * a + b) = 5 + 6 * a + b by omega, show 41 + (6 * a + b) = 41 + 6 * a + b by omega]
          exact ⟨_, _, rfl, rfl, by omega, _, rfl, rfl⟩
        · rintro x y ⟨hab, w, rfl, rfl⟩
          dsimp only
          unfold B_X0_mixLinks_20 B_X3_digest_48
          rw [hR.1, i_leT (Nat.le_refl _) (by omega), q_gI (by omega) (by omega), q_cl (by omega), hM.g (by omega), i_leT (Nat.le_refl _) (by omega)]
          exact ⟨_, _, rfl, rfl, rfl⟩
      obtain ⟨z, z', e1, e2, rfl⟩ := hi
      unfold B_X0_mixLinks_5 B_X3_digest_33
      rw [hR.1, i_leF ha (by omega), q_gI (by omega) (by omega), q_cl (by omega), hM.g (by omega), i_leF ha (by omega), q_add, e1, e2]
      exact ⟨_, _, rfl, rfl, _, rfl, rfl⟩
    · rintro x y ⟨w, rfl, rfl⟩
      dsimp only
      unfold B_X0_mixLinks_5 B_X3_digest_33
      rw [hR.1, i_leT (Nat.le_refl _) (by omega), q_gI (by omega) (by omega), q_cl (by omega), hM.g (by omega), i_leT (Nat.le_refl _) (by omega)]
      exact ⟨_, _, rfl, rfl, rfl⟩
  obtain ⟨z, z', e1, e2, rfl⟩ := hl
  refine ⟨z, ?_, e2⟩
  unfold F_X0_mixLinks
  rw [e1, Option.bind_some]
theorem X_refd (hR : RC (gR_now r) N) {c : Nat} (hc : c < 36) : F_X0_refusedAt (nI c) (gR_now r) = some (nI (N (113 + 5 * c + 4))) := by
  unfold F_X0_refusedAt
  rw [q_add, q_gI (by omega) (by omega), q_cl (by omega)]
  exact congrArg some (hR.2.2.2.2.2.2.2.2.1 4 c (by omega) hc)
theorem dg_pairs (hW : WF B N) (hR : RC (gR_now r) N) (hM : RM (gM_nw m) N) (v : Int64) : ∃ z, F_X0_mixPairs v (gR_now r) = some z ∧ mWh (fun x : Int64 × Int32 => B_X3_digest_133 x.1 x.2 m) fuel0 (v, nI 0) = some z := by
  have h06 := hW.1
  have hl : ∃ z z', mWh (fun x : Int64 × Int32 => B_X0_mixPairs_5 x.1 x.2 (gR_now r)) fuel0 (v, nI 0) = some z ∧ mWh (fun x : Int64 × Int32 => B_X3_digest_133 x.1 x.2 m) fuel0 (v, nI 0) = some z' ∧ z = z' := by
    refine q_two0 (I := DG) (X := fun z z' : Int64 => z = z') 0 (N 0) (by omega) (by omega) ⟨v, rfl, rfl⟩ ?_ ?_
    · rintro a x y ha ⟨u, rfl, rfl⟩
      dsimp only
      have hi : ∃ z z', mWh (fun x : Int64 × Int32 => B_X0_mixPairs_17 (nI a) x.1 x.2 (gR_now r)) fuel0 (u, nI 0) = some z ∧ mWh (fun x : Int64 × Int32 => B_X3_digest_146 (nI a) x.1 x.2 m) fuel0 (u, nI 0) = some z' ∧ z = z' := by
        refine q_two0 (I := DG) (X := fun z z' : Int64 => z = z') 0 (N 0) (by omega) (by omega) ⟨u, rfl, rfl⟩ ?_ ?_
        · rintro b x y hb ⟨w, rfl, rfl⟩
          dsimp only
          unfold B_X0_mixPairs_17 B_X3_digest_146
          rw [hR.1, i_leF hb (by omega), q_gI (show 0 < 637 by omega) (by omega), q_cl (show 0 < 2147483648 by omega), hM.g (show 0 < _ by omega), i_leF hb (by omega), q_add b 1]
          by_cases e : a = b
          · rw [i_eqT e]
            exact ⟨_, _, rfl, i_eqT e, _, rfl, rfl⟩
          · rw [i_eqF e (by omega) (by omega), i_eqF e (by omega) (by omega), X_pair, Option.bind_some, Option.bind_some, q_gI (by omega) (by omega), X_refd hR (by omega), Option.bind_some, q_cl (by omega), hR.2.2.2.2.2.2.2.1 _ (by omega), q_mul 6 a, q_add 77, q_add (77 + 6 * a), q_add (6 * a), q_mul, q_add 113, q_add _ 4, q_gI (by omega) (by omega), q_gI (by omega) (by omega), q_cl (show 77 + 6 * a + b < 2147483648 by omega), q_cl (show 113 + 5 * (6 * a + b) + 4 < 2147483648 by omega), hM.g (by omega), hM.g (by omega), show 77 + (6 * a + b) = 77 + 6 * a + b by omega]
            exact ⟨_, _, rfl, rfl, _, rfl, rfl⟩
        · rintro x y ⟨w, rfl, rfl⟩
          dsimp only
          unfold B_X0_mixPairs_17 B_X3_digest_146
          rw [hR.1, i_leT (Nat.le_refl _) (by omega), q_gI (by omega) (by omega), q_cl (by omega), hM.g (by omega), i_leT (Nat.le_refl _) (by omega)]
          exact ⟨_, _, rfl, rfl, rfl⟩
      obtain ⟨z, z', e1, e2, rfl⟩ := hi
      unfold B_X0_mixPairs_5 B_X3_digest_133
      rw [hR.1, i_leF ha (by omega), q_gI (by omega) (by omega), q_cl (by omega), hM.g (by omega), i_leF ha (by omega), e1, e2, Option.bind_some, q_add]
      exact ⟨_, _, rfl, rfl, _, rfl, rfl⟩
    · rintro x y ⟨w, rfl, rfl⟩
      dsimp only
      unfold B_X0_mixPairs_5 B_X3_digest_133
      rw [hR.1, i_leT (Nat.le_refl _) (by omega), q_gI (by omega) (by omega), q_cl (by omega), hM.g (by omega), i_leT (Nat.le_refl _) (by omega)]
      exact ⟨_, _, rfl, rfl, rfl⟩
  obtain ⟨z, z', e1, e2, rfl⟩ := hl
  refine ⟨z, ?_, e2⟩
  unfold F_X0_mixPairs
  rw [e1, Option.bind_some]
theorem dg_loads (hW : WF B N) (hR : RC (gR_now r) N) (hM : RM (gM_nw m) N) (v : Int64) : ∃ z1 z, F_X0_mixLoadsAndCalls v (gR_now r) = some z ∧ mWh (fun x : Int64 × Int32 => B_X3_digest_227 x.1 x.2 m) fuel0 (v, nI 0) = some z1 ∧ mWh (fun x : Int64 × Int32 => B_X3_digest_259 x.1 x.2 m) fuel0 (z1, nI 0) = some z := by
  have h80 : N 4 ≤ 80 := hW.2.2.2.2.1
  have hcc := hR.2.2.2.2.1
  have hca := hR.2.2.2.2.2.2.2.2.2.2.1
  have h1 : ∃ z z', mWh (fun x : Int64 × Int32 => B_X0_mixLoadsAndCalls_5 x.1 x.2 (gR_now r)) fuel0 (v, nI 0) = some z ∧ mWh (fun x : Int64 × Int32 => B_X3_digest_227 x.1 x.2 m) fuel0 (v, nI 0) = some z' ∧ z = z' := by
    refine q_two0 (I := DG) (X := fun z z' : Int64 => z = z') 0 24 (by omega) (by omega) ⟨v, rfl, rfl⟩ ?_ ?_
    · rintro k x y hk ⟨u, rfl, rfl⟩
      dsimp only
      unfold B_X0_mixLoadsAndCalls_5 B_X3_digest_227
      rw [i_leF hk (by omega), i_leF hk (by omega), q_gI hk (by omega), q_cl (by omega), hR.2.2.2.2.2.2.2.2.2.1 k hk, q_add 293, q_gI (by omega) (by omega), q_cl (by omega), hM.g (by omega), q_add]
      exact ⟨_, _, rfl, rfl, _, rfl, rfl⟩
    · rintro x y ⟨w, rfl, rfl⟩
      dsimp only
      unfold B_X0_mixLoadsAndCalls_5 B_X3_digest_227
      rw [i_leT (Nat.le_refl _) (by omega), i_leT (Nat.le_refl _) (by omega)]
      exact ⟨_, _, rfl, rfl, rfl⟩
  obtain ⟨z1, z1', e1, e2, rfl⟩ := h1
  have h2 : ∃ z z', mWh (fun x : Int64 × Int32 => B_X0_mixLoadsAndCalls_36 x.1 x.2 (gR_now r)) fuel0 (z1, nI 0) = some z ∧ mWh (fun x : Int64 × Int32 => B_X3_digest_259 x.1 x.2 m) fuel0 (z1, nI 0) = some z' ∧ z = z' := by
    refine q_two0 (I := DG) (X := fun z z' : Int64 => z = z') 0 (4 * N 4) (by omega) (by omega) ⟨z1, rfl, rfl⟩ ?_ ?_
    · rintro k x y hk ⟨u, rfl, rfl⟩
      dsimp only
      unfold B_X0_mixLoadsAndCalls_36 B_X3_digest_259
      rw [hcc, q_mul, Nat.mul_comm (N 4) 4, i_leF hk (by omega), q_gI (by omega) (by omega), q_cl (by omega), hca k hk, q_gI (by omega) (by omega), q_cl (show 4 < 2147483648 by omega), hM.g (show 4 < _ by omega), q_mul, i_leF hk (by omega), q_add 317, q_gI (by omega) (by omega), q_cl (by omega), hM.g (by omega), q_add]
      exact ⟨_, _, rfl, rfl, _, rfl, rfl⟩
    · rintro x y ⟨w, rfl, rfl⟩
      dsimp only
      unfold B_X0_mixLoadsAndCalls_36 B_X3_digest_259
      rw [hcc, q_mul, Nat.mul_comm (N 4) 4, i_leT (Nat.le_refl _) (by omega), q_gI (by omega) (by omega), q_cl (show 4 < 2147483648 by omega), hM.g (show 4 < _ by omega), q_mul, i_leT (Nat.le_refl _) (by omega)]
      exact ⟨_, _, rfl, rfl, rfl⟩
  obtain ⟨z, z', e3, e4, rfl⟩ := h2
  refine ⟨z1, z, ?_, e2, e4⟩
  unfold F_X0_mixLoadsAndCalls
  rw [e1, Option.bind_some, e3, Option.bind_some]
/-- digest -/
theorem op_digest (hB : B < 1073741824) (h : TRp B N len ns L ln T r m) : ∃ v, F_X2_digest r = some (v, r) ∧ F_X3_digest m = some (v, m) := by
  have h1 : ∃ z z', mWh (fun x : Int64 × Int32 × RouS => B_X2_digest_6 x.1 x.2.1 x.2.2) fuel0 (lN 2129, nI 0, r) = some z ∧ mWh (fun x : Int64 × Int32 × ModS => B_X3_digest_6 x.1 x.2.1 x.2.2) fuel0 (lN 2129, nI 0, m) = some z' ∧ ∃ v, z = (v, r) ∧ z' = (v, m) := by
    refine q_two0 (I := fun k (x : Int64 × Int32 × RouS) (y : Int64 × Int32 × ModS) => ∃ v, x = (v, nI k, r) ∧ y = (v, nI k, m)) (X := fun (z : Int64 × RouS) (z' : Int64 × ModS) => ∃ v, z = (v, r) ∧ z' = (v, m)) 0 10 (by omega) (by omega) ⟨_, rfl, rfl⟩ ?_ ?_
    · rintro k x y hk ⟨u, rfl, rfl⟩
      dsimp only
      obtain ⟨w, e1, e2⟩ := told_k h (k := k) (by omega)
      unfold B_X2_digest_6 B_X3_digest_6
      rw [i_ltF (by omega) (by omega), i_leF hk (by omega), e1, e2, Option.bind_some, Option.bind_some, q_add]
      exact ⟨_, _, rfl, rfl, _, rfl, rfl⟩
    · rintro x y ⟨w, rfl, rfl⟩
      dsimp only
      unfold B_X2_digest_6 B_X3_digest_6
      rw [i_ltT (by omega) (by omega), i_leT (Nat.le_refl _) (by omega)]
      exact ⟨_, _, rfl, rfl, _, rfl, rfl⟩
  obtain ⟨z, z', e1, e2, v, rfl, rfl⟩ := h1
  obtain ⟨hW, hR, hM, _⟩ := h
  obtain ⟨z2, f1, f2⟩ := dg_links hB hW hR hM v
  obtain ⟨z3, g1, g2⟩ := dg_pairs hW hR hM z2
  obtain ⟨z4, z5, k1, k2, k3⟩ := dg_loads hW hR hM z3
  unfold F_X2_digest F_X3_digest
  rw [e1, e2, Option.bind_some, Option.bind_some]
  dsimp only
  rw [f1, f2, Option.bind_some, Option.bind_some, g1, g2, Option.bind_some, Option.bind_some, k1, k2, Option.bind_some, Option.bind_some, k3, Option.bind_some]
  exact ⟨_, rfl, rfl⟩
end
