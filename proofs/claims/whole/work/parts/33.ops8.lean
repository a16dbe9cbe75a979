/-! towns: beginning anew -/
def lo2 (a b : Nat) : Nat := if a ≠ 0 ∧ b ≠ 0 then 0 else if a ≠ 1 ∧ b ≠ 1 then 1 else 2
theorem lo2_ok (a b : Nat) : lo2 a b ≤ 2 ∧ lo2 a b ≠ a ∧ lo2 a b ≠ b := by
  unfold lo2
  split
  · omega
  · split <;> omega
def sBg (n : Nat) : Nat → Nat := fun j => if j = 0 then n else if j = 2 then 1 else if 5 ≤ j ∧ j < 41 then 5 else if 77 ≤ j ∧ j < 113 then lo2 ((j - 77) / 6) ((j - 77) % 6) else 0
theorem sBg_z {n j : Nat} (h : j = 1 ∨ j = 3 ∨ j = 4 ∨ (41 ≤ j ∧ j < 77) ∨ 113 ≤ j) : sBg n j = 0 := by
  unfold sBg
  rw [if_neg (by omega), if_neg (by omega), if_neg (by omega), if_neg (by omega)]
theorem sBg_w {n j : Nat} (h : j < 36) : sBg n (5 + j) = 5 := by
  unfold sBg
  rw [if_neg (by omega), if_neg (by omega), if_pos (by omega)]
theorem sBg_s {n j : Nat} (h : j < 36) : sBg n (77 + j) = lo2 (j / 6) (j % 6) := by
  unfold sBg
  rw [if_neg (by omega), if_neg (by omega), if_neg (by omega), if_pos (by omega), Nat.add_sub_cancel_left]
theorem sBg_C (n w : Nat) : ∀ m, sC (sBg n) w m = 0
  | 0 => rfl
  | m + 1 => by
    unfold sC
    rw [sBg_C n w m, sBg_z (by omega)]
theorem WF.bg {n B : Nat} (h3 : 3 ≤ n) (h6 : n ≤ 6) : WF B (sBg n) := by
  refine ⟨⟨h3, h6⟩, by rw [sBg_z (by omega)]; omega, (show (1 : Nat) < 2147483648 by omega), by rw [sBg_z (by omega)]; omega, by rw [sBg_z (by omega)]; omega, fun c hc => by rw [sBg_w hc]; omega, fun c hc => by rw [sBg_z (by omega)]; omega, ?_, fun h hh => by rw [sBg_z (by omega)]; omega, fun k hk => ?_, fun w hw => by rw [sBg_C]; omega⟩
  · intro a b ha hb hab
    have ha : a < n := ha
    have hb : b < n := hb
    have h2 := lo2_ok a b
    rw [sBg_s (by omega), show (6 * a + b) / 6 = a by omega, show (6 * a + b) % 6 = b by omega]
    refine ⟨?_, h2.2⟩
    show lo2 a b < n
    omega
  · rw [sBg_z (by omega)] at hk
    exact absurd hk (Nat.not_lt_zero k)
theorem X_least_ : ∀ a, a < 6 → ∀ b, b < 6 → F_X0_leastOther (nI a) (nI b) = some (nI (lo2 a b)) := by decide +kernel
theorem X_least {a b : Nat} (ha : a < 6) (hb : b < 6) : F_X0_leastOther (nI a) (nI b) = some (nI (lo2 a b)) := X_least_ a ha b hb
abbrev setS (n : NetS) (g : Nat → Int32) : NetS := mkN (gN_tc n) (gN_hb n) (gN_x n) (gN_hg n) (gN_cc n) (gN_w n) (gN_r n) (gN_hd n) g (gN_ct n) (gN_tt n) (gN_ld n) (gN_ca n)
def stF (c : Nat) (g : Nat → Int32) : Nat → Int32 := fun j => if j < c then nI (lo2 (j / 6) (j % 6)) else g j
theorem stF_s {a b : Nat} (hb : b < 6) {g : Nat → Int32} : upd (stF (6 * a + b) g) (6 * a + b) (nI (lo2 a b)) = stF (6 * a + (b + 1)) g := by
  funext j
  unfold upd stF
  by_cases e : j = 6 * a + b
  · rw [if_pos e, if_pos (by omega), e, show (6 * a + b) / 6 = a by omega, show (6 * a + b) % 6 = b by omega]
  · rw [if_neg e]
    by_cases e2 : j < 6 * a + b
    · rw [if_pos e2, if_pos (by omega)]
    · rw [if_neg e2, if_neg (by omega)]
theorem X_bg (n : NetS) : mWh (fun x : Int32 × NetS => B_X0_begin_75 x.1 x.2) fuel0 (nI 0, n) = some (setS n (stF 36 (gN_st n))) := by
  have h0 : setS n (stF 0 (gN_st n)) = n := by
    rw [show stF 0 (gN_st n) = gN_st n from funext (fun j => if_neg (by omega))]
    rfl
  have hq := q_for0 (b := fun x : Int32 × NetS => B_X0_begin_75 x.1 x.2) (S := fun a => (nI a, setS n (stF (6 * a) (gN_st n)))) 6 (setS n (stF 36 (gN_st n))) (by omega) (fun a ha => by
    have hi := q_for0 (b := fun x : Int32 × NetS => B_X0_begin_83 (nI a) x.1 x.2) (S := fun b => (nI b, setS n (stF (6 * a + b) (gN_st n)))) 6 (setS n (stF (6 * a + 6) (gN_st n))) (by omega) (fun b hb => by
      dsimp only
      unfold B_X0_begin_83
      rw [i_leF hb (by omega), X_pair, Option.bind_some, X_least ha hb, Option.bind_some, q_gI (by omega) (by omega), q_cl (by omega), q_add]
      exact congrArg (fun g => some (Sum.inl (nI (b + 1), setS n g))) (stF_s hb)) (by
      dsimp only
      unfold B_X0_begin_83
      rw [i_leT (Nat.le_refl _) (by omega)])
    dsimp only
    unfold B_X0_begin_75
    rw [i_leF ha (by omega), show mWh (fun x : Int32 × NetS => B_X0_begin_83 (nI a) x.1 x.2) fuel0 (nI 0, setS n (stF (6 * a) (gN_st n))) = _ from hi, Option.bind_some, q_add]
    rfl) (by
    dsimp only
    unfold B_X0_begin_75
    rw [i_leT (Nat.le_refl _) (by omega)])
  rw [show 6 * 0 = 0 from rfl, h0] at hq
  exact hq
theorem RC.bg {k : Nat} (n : NetS) : ∃ n', F_X0_begin (nI k) n = some n' ∧ RC n' (sBg k) := by
  obtain ⟨g1, a1, b1⟩ := X_fill (v := nI 5) (m := 36) (g := gN_w n) (by omega)
  obtain ⟨g2, a2, b2⟩ := X_fill (v := nI 0) (m := 36) (g := gN_r n) (by omega)
  obtain ⟨g3, a3, b3⟩ := X_fill (v := nI 0) (m := 36) (g := gN_hd n) (by omega)
  obtain ⟨g4, a4, b4⟩ := X_fill (v := nI 0) (m := 180) (g := gN_ct n) (by omega)
  obtain ⟨g5, a5, b5⟩ := X_fill (v := nI 0) (m := 5) (g := gN_tt n) (by omega)
  obtain ⟨g6, a6, b6⟩ := X_fill (v := nI 0) (m := 24) (g := gN_ld n) (by omega)
  unfold F_X0_begin
  rw [a1, Option.bind_some, a2, Option.bind_some, a3, Option.bind_some, a4, Option.bind_some, a5, Option.bind_some, a6, Option.bind_some, X_bg, Option.bind_some]
  refine ⟨_, rfl, rfl, congrArg nI (sBg_z (by omega)).symm, rfl, congrArg nI (sBg_z (by omega)).symm, congrArg nI (sBg_z (by omega)).symm, ?_, ?_, ?_, ?_, ?_, ?_, ?_, ?_⟩
  · intro j hj
    rw [sBg_w hj]
    exact b1 j hj
  · intro j hj
    rw [sBg_z (by omega)]
    exact b2 j hj
  · intro j hj
    rw [sBg_s hj]
    exact if_pos hj
  · intro w c hw hc
    rw [sBg_z (by omega)]
    exact b4 _ (by omega)
  · intro j hj
    rw [sBg_z (by omega)]
    exact b6 j hj
  · intro j hj
    rw [sBg_z (by omega)] at hj
    exact absurd hj (Nat.not_lt_zero j)
  · intro c hc
    rw [sBg_z (by omega)]
    exact b3 c hc
  · intro w hw
    rw [sBg_C]
    exact b5 w hw
theorem Y_least {a b : Nat} (ha : a < 6) (hb : b < 6) (s : ModS) : mWh (fun x : Int32 => B_X3_begins_69 (nI a) (nI b) x s) fuel0 (nI 0) = some (nI (lo2 a b)) := by
  have st : ∀ t, t < 6 → B_X3_begins_69 (nI a) (nI b) (nI t) s = if t = a ∨ t = b then some (.inl (nI (t + 1))) else some (.inr (nI t)) := by
    intro t ht
    unfold B_X3_begins_69
    rw [q_add]
    by_cases e1 : t = a
    · rw [i_eqT e1, if_pos (Or.inl e1)]
    · rw [i_eqF e1 (by omega) (by omega)]
      by_cases e2 : t = b
      · rw [i_neF e2, if_pos (Or.inr e2)]
      · rw [i_neT e2 (by omega) (by omega), if_neg (by omega)]
  unfold lo2
  show mWh _ (3997 + 3) _ = _
  by_cases e0 : a ≠ 0 ∧ b ≠ 0
  · rw [if_pos e0]
    exact q_whr (b := fun x : Int32 => B_X3_begins_69 (nI a) (nI b) x s) ((st 0 (by omega)).trans (if_neg (by omega)))
  · rw [if_neg e0, q_whl (b := fun x : Int32 => B_X3_begins_69 (nI a) (nI b) x s) ((st 0 (by omega)).trans (if_pos (by omega)))]
    by_cases e1 : a ≠ 1 ∧ b ≠ 1
    · rw [if_pos e1]
      exact q_whr (b := fun x : Int32 => B_X3_begins_69 (nI a) (nI b) x s) ((st 1 (by omega)).trans (if_neg (by omega)))
    · rw [if_neg e1, q_whl (b := fun x : Int32 => B_X3_begins_69 (nI a) (nI b) x s) ((st 1 (by omega)).trans (if_pos (by omega)))]
      exact q_whr (b := fun x : Int32 => B_X3_begins_69 (nI a) (nI b) x s) ((st 2 (by omega)).trans (if_neg (by omega)))
def bgF (c : Nat) (g : Nat → Int32) : Nat → Int32 := fun j => if 5 ≤ j ∧ j < 5 + c then nI 5 else if 77 ≤ j ∧ j < 77 + c then nI (lo2 ((j - 77) / 6) ((j - 77) % 6)) else g j
theorem bgF_s {a b : Nat} (ha : a < 6) (hb : b < 6) {g : Nat → Int32} : upd (upd (bgF (6 * a + b) g) (5 + 6 * a + b) (nI 5)) (77 + 6 * a + b) (nI (lo2 a b)) = bgF (6 * a + (b + 1)) g := by
  funext j
  unfold upd bgF
  by_cases e : j = 77 + 6 * a + b
  · rw [if_pos e, if_neg (by omega), if_pos (by omega), e, show (77 + 6 * a + b - 77) / 6 = a by omega, show (77 + 6 * a + b - 77) % 6 = b by omega]
  · rw [if_neg e]
    by_cases e2 : j = 5 + 6 * a + b
    · rw [if_pos e2, if_pos (by omega)]
    · rw [if_neg e2]
      by_cases e3 : 5 ≤ j ∧ j < 5 + (6 * a + b)
      · rw [if_pos e3, if_pos (by omega)]
      · rw [if_neg e3, if_neg (show ¬ (5 ≤ j ∧ j < 5 + (6 * a + (b + 1))) by omega)]
        by_cases e4 : 77 ≤ j ∧ j < 77 + (6 * a + b)
        · rw [if_pos e4, if_pos (by omega)]
        · rw [if_neg e4, if_neg (by omega)]
theorem Y_bg (s : ModS) : mWh (fun x : Int32 × ModS => B_X3_begins_38 x.1 x.2) fuel0 (nI 0, s) = some (sNw s (bgF 36 (gM_nw s))) := by
  have h0 : sNw s (bgF 0 (gM_nw s)) = s := by
    rw [show bgF 0 (gM_nw s) = gM_nw s from funext (fun j => (if_neg (by omega)).trans (if_neg (by omega)))]
    rfl
  have hq := q_for0 (b := fun x : Int32 × ModS => B_X3_begins_38 x.1 x.2) (S := fun a => (nI a, sNw s (bgF (6 * a) (gM_nw s)))) 6 (sNw s (bgF 36 (gM_nw s))) (by omega) (fun a ha => by
    have hi := q_for0 (b := fun x : Int32 × ModS => B_X3_begins_46 (nI a) x.1 x.2) (S := fun b => (nI b, sNw s (bgF (6 * a + b) (gM_nw s)))) 6 (sNw s (bgF (6 * a + 6) (gM_nw s))) (by omega) (fun b hb => by
      dsimp only
      unfold B_X3_begins_46
      rw [i_leF hb (by omega), q_mul, q_add 5, q_add (5 + 6 * a), q_add 77, q_add (77 + 6 * a), q_gI (by omega) (by omega), q_cl (show 5 + 6 * a + b < 2147483648 by omega), Y_least ha hb, Option.bind_some, q_gI (by omega) (by omega), q_cl (show 77 + 6 * a + b < 2147483648 by omega), q_add b 1]
      exact congrArg (fun g => some (Sum.inl (nI (b + 1), sNw s g))) (bgF_s ha hb)) (by
      dsimp only
      unfold B_X3_begins_46
      rw [i_leT (Nat.le_refl _) (by omega)])
    dsimp only
    unfold B_X3_begins_38
    rw [i_leF ha (by omega), show mWh (fun x : Int32 × ModS => B_X3_begins_46 (nI a) x.1 x.2) fuel0 (nI 0, sNw s (bgF (6 * a) (gM_nw s))) = _ from hi, Option.bind_some, q_add]
    rfl) (by
    dsimp only
    unfold B_X3_begins_38
    rw [i_leT (Nat.le_refl _) (by omega)])
  rw [show 6 * 0 = 0 from rfl, h0] at hq
  exact hq
theorem Y_z (s : ModS) (p1 : Int32) : mWh (fun x : Int32 × ModS => B_X3_begins_2 p1 x.1 x.2) fuel0 (nI 0, s) = some (sNw s (fun j => if 0 ≤ j ∧ j < 0 + 637 then nI 0 else gM_nw s j)) := by
  have h0 : sNw s (fun j => if 0 ≤ j ∧ j < 0 + 0 then nI 0 else gM_nw s j) = s := by
    rw [show (fun j => if 0 ≤ j ∧ j < 0 + 0 then nI 0 else gM_nw s j) = gM_nw s from funext (fun j => if_neg (by omega))]
    rfl
  have hl := q_for0 (b := fun x : Int32 × ModS => B_X3_begins_2 p1 x.1 x.2) (S := fun i => (nI i, sNw s (fun j => if 0 ≤ j ∧ j < 0 + i then nI 0 else gM_nw s j))) 637 (sNw s (fun j => if 0 ≤ j ∧ j < 0 + 637 then nI 0 else gM_nw s j)) (by omega) (fun i hi => by
    dsimp only
    unfold B_X3_begins_2
    rw [i_leF hi (by omega), q_gI hi (by omega), q_cl (by omega), q_add]
    have := q_row (f := gM_nw s) (o := 0) (i := i) (v := nI 0) (fun g => some (Sum.inl (β := ModS) (nI (i + 1), sNw s g)))
    rw [Nat.zero_add i] at this ⊢
    exact this) (by
    dsimp only
    unfold B_X3_begins_2
    rw [i_leT (Nat.le_refl _) (by omega)])
  rw [h0] at hl
  exact hl
theorem Y_begins {k : Nat} (s : ModS) : ∃ f, F_X3_begins (nI k) s = some (sNw s f) ∧ RM f (sBg k) := by
  unfold F_X3_begins
  rw [Y_z, Option.bind_some, q_gI (by omega) (by omega), q_gI (by omega) (by omega), q_cl (by omega), q_cl (by omega), Y_bg, Option.bind_some]
  refine ⟨_, rfl, RM.of (fun j hj => ?_)⟩
  rw [sBg_z (show (4 : Nat) = 1 ∨ 4 = 3 ∨ 4 = 4 ∨ (41 ≤ 4 ∧ 4 < 77) ∨ 113 ≤ 4 by omega)] at hj
  show bgF 36 (upd (upd (fun j => if 0 ≤ j ∧ j < 0 + 637 then nI 0 else gM_nw s j) 0 (nI k)) 2 (nI 1)) j = _
  unfold bgF sBg upd
  by_cases e0 : j = 0
  · rw [if_neg (by omega), if_neg (by omega), if_neg (by omega), if_pos e0, if_pos e0]
  by_cases e2 : j = 2
  · rw [if_neg (by omega), if_neg (by omega), if_pos e2, if_neg e0, if_pos e2]
  by_cases e5 : 5 ≤ j ∧ j < 41
  · rw [if_pos (by omega), if_neg e0, if_neg e2, if_pos e5]
  rw [if_neg (by omega)]
  by_cases e7 : 77 ≤ j ∧ j < 113
  · rw [if_pos (by omega), if_neg e0, if_neg e2, if_neg e5, if_pos e7]
  rw [if_neg (by omega), if_neg e2, if_neg e0, if_neg e0, if_neg e2, if_neg e5, if_neg e7]
  exact if_pos (by omega)
section
variable {B : Nat} {N : Nat → Nat} {len ns ln : Nat} {L : Nat → Nat → Nat} {T : Nat → Nat} {r : RouS} {m : ModS}
/-- towns -/
theorem op_towns (h : TRp B N len ns L ln T r m) (p1 : Int32) : OpR B (F_X2_towns p1 r) (F_X3_towns p1 m) := by
  unfold F_X2_towns F_X3_towns
  rcases in2 p1 (lo := 3) (hi := 6) (by omega) (by omega) with ⟨k, rfl, hk3, hk, e1, e2⟩ | ⟨e1, e2⟩
  · obtain ⟨r1, m1, len', ns', L', k1, k2, h1, _, _, _⟩ := h.keep
    have ⟨hW, hR, hM, _⟩ := h1
    obtain ⟨n', f1, f2⟩ := RC.bg (k := k) (gR_now r1)
    obtain ⟨f, g1, g2⟩ := Y_begins (k := k) m1
    rw [e1, e2, Option.bind_some, Option.bind_some, if_pos q_1n0, if_pos q_1n0, k1, k2, Option.bind_some, Option.bind_some, q_gI (by omega) (by omega), q_cl (by omega), hM.g (by omega), f1, g1, Option.bind_some, Option.bind_some]
    exact OpR.mk hR.1 (TR.of (TRp.now h1 (Nat.le_refl _) (WF.bg hk3 hk) f2 g2))
  · rw [e1, e2, Option.bind_some, Option.bind_some, i_neF rfl, i_neF rfl]
    exact OpR.bad h
end
