/-! worst -/
def WO (nn : Prop) (Q : Nat → Nat → Prop) (val : Nat → Nat → Int32) (x y2 y3 : Int32) : Prop := (nn ∧ x = nI 1 ∧ y2 = -nI 1 ∧ y3 = nI 0) ∨ (¬ nn ∧ ∃ a b, a < 6 ∧ b < 6 ∧ Q a b ∧ x = nI (6 * a + b) ∧ y2 = nI (10 * a + b) ∧ y3 = val a b)
theorem WO.iff {nn nn' : Prop} {Q : Nat → Nat → Prop} {val : Nat → Nat → Int32} {x y2 y3 : Int32} (h : WO nn Q val x y2 y3) (e : nn ↔ nn') : WO nn' Q val x y2 y3 := by
  rcases h with ⟨h1, h2⟩ | ⟨h1, h2⟩
  · exact Or.inl ⟨e.mp h1, h2⟩
  · exact Or.inr ⟨fun q => h1 (e.mpr q), h2⟩
theorem q_negle : ∀ f, f < 31 → ∀ g, g < 31 → ((-nI f ≤ -nI g) ↔ g ≤ f) := by decide +kernel
theorem q_negneg : ∀ f, f < 31 → -(-nI f) = nI f := by decide +kernel
theorem q_n10ne : ∀ k, k < 70 → ¬ nI k = -nI 1 := by decide +kernel
section
variable {B : Nat} {N : Nat → Nat} {len ns ln : Nat} {L : Nat → Nat → Nat} {T : Nat → Nat} {r : RouS} {m : ModS}
abbrev vP (N : Nat → Nat) (a b : Nat) : Int32 := nI (N (113 + 5 * (6 * a + b) + 4))
abbrev vL (N : Nat → Nat) (a b : Nat) : Int32 := -nI (sFr N (6 * a + b))
theorem rf_lt (hB : B < 1073741824) (hW : WF B N) {c : Nat} (hc : c < 36) : N (113 + 5 * c + 4) < 1073741824 := Nat.lt_of_le_of_lt (Nat.le_trans (sC_ge hc) (hW.2.2.2.2.2.2.2.2.2.2 4 (by omega))) hB
theorem wo_pairs (hB : B < 1073741824) (hW : WF B N) (hR : RC (gR_now r) N) (hM : RM (gM_nw m) N) {p : Nat} (hp : p < 2) : ∃ a b, a < 6 ∧ b < 6 ∧ a ≠ b ∧ F_X0_mostRefusedPair (gR_now r) = some (nI (6 * a + b)) ∧ mWh (fun x : Int32 × Int32 × Int32 => B_X3_worst_21 (nI p) x.1 x.2.1 x.2.2 m) fuel0 (-nI 1, nI 0, nI 0) = some (nI (10 * a + b), vP N a b) := by
  have h06 := hW.1
  have hl : ∃ z z', mWh (fun x : Int32 × Int32 => B_X0_mostRefusedPair_8 x.1 x.2 (gR_now r)) fuel0 (nI 1, nI 0) = some z ∧ mWh (fun x : Int32 × Int32 × Int32 => B_X3_worst_21 (nI p) x.1 x.2.1 x.2.2 m) fuel0 (-nI 1, nI 0, nI 0) = some z' ∧ WO False (fun a b => a ≠ b) (vP N) z z'.1 z'.2 := by
    refine q_two0 (I := fun a (x : Int32 × Int32) (y : Int32 × Int32 × Int32) => x.2 = nI a ∧ y.2.2 = nI a ∧ WO (a = 0) (fun a b => a ≠ b) (vP N) x.1 y.1 y.2.1) (X := fun (z : Int32) (z' : Int32 × Int32) => WO False (fun a b => a ≠ b) (vP N) z z'.1 z'.2) 0 (N 0) (by omega) (by omega) ⟨rfl, rfl, Or.inl ⟨rfl, rfl, rfl, rfl⟩⟩ ?_ ?_
    · rintro a ⟨x1, x2⟩ ⟨y1, y2, y3⟩ ha ⟨h1, h2, h3⟩
      dsimp only at h1 h2 h3
      subst h1 h2
      dsimp only
      have hi : ∃ z z', mWh (fun x : Int32 × Int32 => B_X0_mostRefusedPair_18 (nI a) x.1 x.2 (gR_now r)) fuel0 (x1, nI 0) = some z ∧ mWh (fun x : Int32 × Int32 × Int32 => B_X3_worst_47 (nI p) (nI a) x.1 x.2.1 x.2.2 m) fuel0 (y1, y2, nI 0) = some z' ∧ WO (a + 1 = 0) (fun a b => a ≠ b) (vP N) z z'.1 z'.2 := by
        refine q_two0 (I := fun b (x : Int32 × Int32) (y : Int32 × Int32 × Int32) => x.2 = nI b ∧ y.2.2 = nI b ∧ WO (a = 0 ∧ b ≤ 1) (fun a b => a ≠ b) (vP N) x.1 y.1 y.2.1) (X := fun (z : Int32) (z' : Int32 × Int32) => WO (a + 1 = 0) (fun a b => a ≠ b) (vP N) z z'.1 z'.2) 0 (N 0) (by omega) (by omega) ⟨rfl, rfl, h3.iff (by omega)⟩ ?_ ?_
        · rintro b ⟨x1, x2⟩ ⟨y1, y2, y3⟩ hb ⟨h1, h2, h3⟩
          dsimp only at h1 h2 h3
          subst h1 h2
          dsimp only
          unfold B_X0_mostRefusedPair_18 B_X3_worst_47
          rw [hR.1, i_leF hb (by omega), q_gI (show 0 < 637 by omega) (by omega), q_cl (show 0 < 2147483648 by omega), hM.g (show 0 < _ by omega), i_leF hb (by omega)]
          by_cases e : a = b
          · rw [i_eqT e, i_neF e]
            unfold J_X3_worst_106
            rw [i_eqT e, q_add]
            exact ⟨_, _, rfl, rfl, rfl, rfl, h3.iff (by omega)⟩
          · rw [i_eqF e (by omega) (by omega), i_neT e (by omega) (by omega), i_leF (by omega) (by omega), X_pair, Option.bind_some, X_refd hR (by omega), Option.bind_some, q_mul 6 a, q_add (6 * a), q_mul 5, q_add 113, q_add _ 4, q_gI (by omega) (by omega), q_cl (show 113 + 5 * (6 * a + b) + 4 < 2147483648 by omega), hM.g (by omega)]
            unfold J_X3_worst_106
            rw [i_eqF e (by omega) (by omega)]
            rcases h3 with ⟨hn, rfl, rfl, rfl⟩ | ⟨hn, c, d, hc, hd, hcd, rfl, rfl, rfl⟩
            · have ha0 : a = 0 := by omega
              have hb1 : b = 1 := by omega
              subst ha0 hb1
              rw [if_pos rfl, X_refd hR (c := 1) (by omega), Option.bind_some, if_pos (Int32.le_refl _)]
              unfold J_X3_worst_126
              rw [q_mul, q_add, q_add]
              exact ⟨_, _, rfl, rfl, rfl, rfl, Or.inr ⟨by omega, 0, 1, by omega, by omega, by omega, rfl, rfl, rfl⟩⟩
            · have b1 := rf_lt hB hW (c := 6 * c + d) (by omega)
              have b2 := rf_lt hB hW (c := 6 * a + b) (by omega)
              rw [X_refd hR (c := 6 * c + d) (by omega), Option.bind_some, if_neg (q_n10ne _ (by omega))]
              by_cases e2 : N (113 + 5 * (6 * a + b) + 4) ≤ N (113 + 5 * (6 * c + d) + 4)
              · rw [i_leT e2 (by omega), if_pos (by rw [q_le (by omega) (by omega)]; exact e2), q_add]
                exact ⟨_, _, rfl, rfl, rfl, rfl, Or.inr ⟨by omega, c, d, hc, hd, hcd, rfl, rfl, rfl⟩⟩
              · rw [i_leF (by omega) (by omega), if_neg (by rw [q_le (by omega) (by omega)]; exact e2), Option.bind_some]
                unfold J_X3_worst_126
                rw [q_mul, q_add, q_add]
                exact ⟨_, _, rfl, rfl, rfl, rfl, Or.inr ⟨by omega, a, b, by omega, by omega, e, rfl, rfl, rfl⟩⟩
        · rintro ⟨x1, x2⟩ ⟨y1, y2, y3⟩ ⟨h1, h2, h3⟩
          dsimp only at h1 h2 h3
          subst h1 h2
          dsimp only
          unfold B_X0_mostRefusedPair_18 B_X3_worst_47
          rw [hR.1, i_leT (Nat.le_refl _) (by omega), q_gI (show 0 < 637 by omega) (by omega), q_cl (show 0 < 2147483648 by omega), hM.g (show 0 < _ by omega), i_leT (Nat.le_refl _) (by omega)]
          exact ⟨_, _, rfl, rfl, h3.iff (by omega)⟩
      obtain ⟨z, z', e1, e2, e3⟩ := hi
      unfold B_X0_mostRefusedPair_8 B_X3_worst_21
      rw [hR.1, i_leF ha (by omega), q_gI (show 0 < 637 by omega) (by omega), q_cl (show 0 < 2147483648 by omega), hM.g (show 0 < _ by omega), i_leF ha (by omega), i_leF (by omega) (by omega), e1, Option.bind_some]
      unfold J_X3_worst_45
      rw [e2, Option.bind_some, q_add]
      exact ⟨_, _, rfl, rfl, rfl, rfl, e3⟩
    · rintro ⟨x1, x2⟩ ⟨y1, y2, y3⟩ ⟨h1, h2, h3⟩
      dsimp only at h1 h2 h3
      subst h1 h2
      dsimp only
      unfold B_X0_mostRefusedPair_8 B_X3_worst_21
      rw [hR.1, i_leT (Nat.le_refl _) (by omega), q_gI (show 0 < 637 by omega) (by omega), q_cl (show 0 < 2147483648 by omega), hM.g (show 0 < _ by omega), i_leT (Nat.le_refl _) (by omega)]
      exact ⟨_, _, rfl, rfl, h3.iff ⟨fun q => by omega, fun q => absurd q id⟩⟩
  obtain ⟨z, ⟨y1, y2⟩, e1, e2, e3⟩ := hl
  rcases e3 with ⟨hn, _⟩ | ⟨_, a, b, ha, hb, hab, rfl, q1, q2⟩
  · exact absurd hn id
  · dsimp only at q1 q2
    subst q1 q2
    refine ⟨a, b, ha, hb, hab, ?_, e2⟩
    unfold F_X0_mostRefusedPair
    rw [X_pair, Option.bind_some]
    show (mWh (fun x : Int32 × Int32 => B_X0_mostRefusedPair_8 x.1 x.2 (gR_now r)) fuel0 (nI 1, nI 0)).bind _ = _
    rw [e1, Option.bind_some]
theorem wo_links (hB : B < 1073741824) (hW : WF B N) (hR : RC (gR_now r) N) (hM : RM (gM_nw m) N) {p : Nat} (hp : 2 ≤ p) (hp4 : p < 4) : ∃ a b, a < 6 ∧ b < 6 ∧ a < b ∧ F_X0_scarcestLink (gR_now r) = some (nI (6 * a + b)) ∧ mWh (fun x : Int32 × Int32 × Int32 => B_X3_worst_21 (nI p) x.1 x.2.1 x.2.2 m) fuel0 (-nI 1, nI 0, nI 0) = some (nI (10 * a + b), vL N a b) := by
  have h06 := hW.1
  have hl : ∃ z z', mWh (fun x : Int32 × Int32 => B_X0_scarcestLink_8 x.1 x.2 (gR_now r)) fuel0 (nI 1, nI 0) = some z ∧ mWh (fun x : Int32 × Int32 × Int32 => B_X3_worst_21 (nI p) x.1 x.2.1 x.2.2 m) fuel0 (-nI 1, nI 0, nI 0) = some z' ∧ WO False (fun a b => a < b) (vL N) z z'.1 z'.2 := by
    refine q_two0 (I := fun a (x : Int32 × Int32) (y : Int32 × Int32 × Int32) => x.2 = nI a ∧ y.2.2 = nI a ∧ WO (a = 0) (fun a b => a < b) (vL N) x.1 y.1 y.2.1) (X := fun (z : Int32) (z' : Int32 × Int32) => WO False (fun a b => a < b) (vL N) z z'.1 z'.2) 0 (N 0) (by omega) (by omega) ⟨rfl, rfl, Or.inl ⟨rfl, rfl, rfl, rfl⟩⟩ ?_ ?_
    · rintro a ⟨x1, x2⟩ ⟨y1, y2, y3⟩ ha ⟨h1, h2, h3⟩
      dsimp only at h1 h2 h3
      subst h1 h2
      dsimp only
      have hi : ∃ z z', mWh (fun x : Int32 × Int32 => B_X0_scarcestLink_20 (nI a) x.1 x.2 (gR_now r)) fuel0 (x1, nI (a + 1)) = some z ∧ mWh (fun x : Int32 × Int32 × Int32 => B_X3_worst_47 (nI p) (nI a) x.1 x.2.1 x.2.2 m) fuel0 (y1, y2, nI (a + 1)) = some z' ∧ WO (a + 1 = 0) (fun a b => a < b) (vL N) z z'.1 z'.2 := by
        refine q_two0 (I := fun b (x : Int32 × Int32) (y : Int32 × Int32 × Int32) => a < b ∧ x.2 = nI b ∧ y.2.2 = nI b ∧ WO (a = 0 ∧ b ≤ 1) (fun a b => a < b) (vL N) x.1 y.1 y.2.1) (X := fun (z : Int32) (z' : Int32 × Int32) => WO (a + 1 = 0) (fun a b => a < b) (vL N) z z'.1 z'.2) (a + 1) (N 0) (by omega) (by omega) ⟨by omega, rfl, rfl, h3.iff (by omega)⟩ ?_ ?_
        · rintro b ⟨x1, x2⟩ ⟨y1, y2, y3⟩ hb ⟨hab, h1, h2, h3⟩
          dsimp only at h1 h2 h3
          subst h1 h2
          dsimp only
          have hl := lk_lt (a := a) (b := b) (by omega) (by omega)
          have hlk := lk_lt2 hab
          unfold B_X0_scarcestLink_20 B_X3_worst_47
          rw [hR.1, i_leF hb (by omega), q_gI (show 0 < 637 by omega) (by omega), q_cl (show 0 < 2147483648 by omega), hM.g (show 0 < _ by omega), i_leF hb (by omega), i_neT (by omega) (by omega) (by omega), i_leT hp (by omega), X_link (by omega) (by omega), Option.bind_some, X_free hB hW hR hl, Option.bind_some, Y_free hW hM (by omega) (by omega), hlk]
          simp only [Option.bind_some]
          rw [hlk] at hl
          unfold J_X3_worst_106
          rw [i_eqF (by omega) (by omega) (by omega)]
          rcases h3 with ⟨hn, rfl, rfl, rfl⟩ | ⟨hn, c, d, hc, hd, hcd, rfl, rfl, rfl⟩
          · have ha0 : a = 0 := by omega
            have hb1 : b = 1 := by omega
            subst ha0 hb1
            rw [if_pos rfl, X_free hB hW hR (l := 1) (by omega), Option.bind_some, if_pos (Int32.le_refl _)]
            unfold J_X3_worst_126
            rw [q_mul, q_add, q_add]
            exact ⟨_, _, rfl, rfl, by omega, rfl, rfl, Or.inr ⟨by omega, 0, 1, by omega, by omega, by omega, rfl, rfl, rfl⟩⟩
          · have b1 := sFr_le hW (l := 6 * c + d) (by omega)
            have b2 := sFr_le hW (l := 6 * a + b) (by omega)
            rw [X_free hB hW hR (l := 6 * c + d) (by omega), Option.bind_some, if_neg (q_n10ne _ (by omega))]
            by_cases e2 : sFr N (6 * c + d) ≤ sFr N (6 * a + b)
            · rw [i_leT e2 (by omega), if_pos ((q_negle _ (by omega) _ (by omega)).mpr e2), q_add]
              exact ⟨_, _, rfl, rfl, by omega, rfl, rfl, Or.inr ⟨by omega, c, d, hc, hd, hcd, rfl, rfl, rfl⟩⟩
            · rw [i_leF (by omega) (by omega), if_neg (fun q => e2 ((q_negle _ (by omega) _ (by omega)).mp q))]
              unfold J_X3_worst_126
              rw [q_mul, q_add, q_add]
              exact ⟨_, _, rfl, rfl, by omega, rfl, rfl, Or.inr ⟨by omega, a, b, by omega, by omega, hab, rfl, rfl, rfl⟩⟩
        · rintro ⟨x1, x2⟩ ⟨y1, y2, y3⟩ ⟨hab, h1, h2, h3⟩
          dsimp only at h1 h2 h3
          subst h1 h2
          dsimp only
          unfold B_X0_scarcestLink_20 B_X3_worst_47
          rw [hR.1, i_leT (Nat.le_refl _) (by omega), q_gI (show 0 < 637 by omega) (by omega), q_cl (show 0 < 2147483648 by omega), hM.g (show 0 < _ by omega), i_leT (Nat.le_refl _) (by omega)]
          exact ⟨_, _, rfl, rfl, h3.iff (by omega)⟩
      obtain ⟨z, z', e1, e2, e3⟩ := hi
      unfold B_X0_scarcestLink_8 B_X3_worst_21
      rw [hR.1, i_leF ha (by omega), q_gI (show 0 < 637 by omega) (by omega), q_cl (show 0 < 2147483648 by omega), hM.g (show 0 < _ by omega), i_leF ha (by omega), i_leT hp (by omega), q_add a 1, e1, Option.bind_some]
      unfold J_X3_worst_45
      rw [e2, Option.bind_some, q_add]
      exact ⟨_, _, rfl, rfl, rfl, rfl, e3⟩
    · rintro ⟨x1, x2⟩ ⟨y1, y2, y3⟩ ⟨h1, h2, h3⟩
      dsimp only at h1 h2 h3
      subst h1 h2
      dsimp only
      unfold B_X0_scarcestLink_8 B_X3_worst_21
      rw [hR.1, i_leT (Nat.le_refl _) (by omega), q_gI (show 0 < 637 by omega) (by omega), q_cl (show 0 < 2147483648 by omega), hM.g (show 0 < _ by omega), i_leT (Nat.le_refl _) (by omega)]
      exact ⟨_, _, rfl, rfl, h3.iff ⟨fun q => by omega, fun q => absurd q id⟩⟩
  obtain ⟨z, ⟨y1, y2⟩, e1, e2, e3⟩ := hl
  rcases e3 with ⟨hn, _⟩ | ⟨_, a, b, ha, hb, hab, rfl, q1, q2⟩
  · exact absurd hn id
  · dsimp only at q1 q2
    subst q1 q2
    refine ⟨a, b, ha, hb, hab, ?_, e2⟩
    unfold F_X0_scarcestLink
    rw [X_link (by omega) (by omega), Option.bind_some]
    show (mWh (fun x : Int32 × Int32 => B_X0_scarcestLink_8 x.1 x.2 (gR_now r)) fuel0 (nI 1, nI 0)).bind _ = _
    rw [e1, Option.bind_some]
/-- worst -/
theorem op_worst (hB : B < 1073741824) (h : TRp B N len ns L ln T r m) (p1 : Int32) : OpR B (F_X2_worst p1 r) (F_X3_worst p1 m) := by
  have ⟨hW, hR, hM, _⟩ := h
  unfold F_X2_worst F_X3_worst
  rcases in2 p1 (lo := 0) (hi := 3) (by omega) (by omega) with ⟨p, rfl, _, hp, e3, e4⟩ | ⟨e3, e4⟩
  rotate_left
  · rw [e3, e4, Option.bind_some, Option.bind_some, i_neF rfl, i_neF rfl]
    exact OpR.bad h
  rw [e3, e4, Option.bind_some, Option.bind_some, if_pos q_1n0, if_pos q_1n0]
  by_cases e : 2 ≤ p
  · obtain ⟨a, b, ha, hb, hab, f1, f2⟩ := wo_links hB hW hR hM (p := p) e (by omega)
    rw [i_leT e (by omega), f1, f2, Option.bind_some, Option.bind_some, q_gZ (by omega) (by omega), q_div (show p < _ by omega) (by omega) (by omega), q_rem (by omega) (by omega) (by omega)]
    unfold J_X2_worst_38
    rw [i_eqF (by omega) (by omega) (by omega), X_free hB hW hR (by omega), Option.bind_some, q_gZ (by omega) (by omega), q_gZ (by omega) (by omega), q_div (by omega) (by omega) (by omega), q_rem (by omega) (by omega) (by omega), q_mul, q_add, show (6 * a + b) / 6 * 10 + (6 * a + b) % 6 = 10 * a + b by omega]
    by_cases e2 : p = 3
    · subst e2
      rw [i_eqT rfl, i_neT (by omega) (by omega) (by omega), i_neT (by omega) (by omega) (by omega), q_negneg _ (by have := sFr_le hW (l := 6 * a + b) (by omega); omega)]
      exact OpR.mk rfl (TR.of h)
    · have : p = 2 := by omega
      subst this
      rw [i_eqF (by omega) (by omega) (by omega), i_neF (by omega)]
      exact OpR.mk rfl (TR.of h)
  · obtain ⟨a, b, ha, hb, hab, f1, f2⟩ := wo_pairs hB hW hR hM (p := p) (by omega)
    rw [i_leF (by omega) (by omega), f1, f2, Option.bind_some, Option.bind_some, q_gZ (by omega) (by omega), q_div (show p < _ by omega) (by omega) (by omega), q_rem (by omega) (by omega) (by omega)]
    unfold J_X2_worst_38
    rw [X_refd hR (by omega), Option.bind_some, i_eqF (show p ≠ 3 by omega) (by omega) (by omega), q_gZ (by omega) (by omega), q_gZ (by omega) (by omega), q_div (by omega) (by omega) (by omega), q_rem (by omega) (by omega) (by omega), q_mul, q_add, show (6 * a + b) / 6 * 10 + (6 * a + b) % 6 = 10 * a + b by omega]
    by_cases e2 : p = 1
    · subst e2
      rw [i_eqT rfl, i_neT (by omega) (by omega) (by omega), i_neF rfl]
      exact OpR.mk rfl (TR.of h)
    · have : p = 0 := by omega
      subst this
      rw [i_eqF (by omega) (by omega) (by omega), i_neF (by omega)]
      exact OpR.mk rfl (TR.of h)
end
