/-! two loops side by side -/
theorem q_two {σ ρ σ' ρ' : Type} {b : σ → Option (σ ⊕ ρ)} {b' : σ' → Option (σ' ⊕ ρ')} (I : Nat → σ → σ' → Prop) (X : ρ → ρ' → Prop) (e : Nat) (hs : ∀ i x y, i < e → I i x y → ∃ x' y', b x = some (.inl x') ∧ b' y = some (.inl y') ∧ I (i + 1) x' y') (hx : ∀ x y, I e x y → ∃ z z', b x = some (.inr z) ∧ b' y = some (.inr z') ∧ X z z') : ∀ (m i n : Nat) (x : σ) (y : σ'), e - i = m → i ≤ e → m < n → I i x y → ∃ z z', mWh b n x = some z ∧ mWh b' n y = some z' ∧ X z z'
  | 0, i, n + 1, x, y, h1, h2, h3, h => by
    have : i = e := by omega
    subst this
    obtain ⟨z, z', h4, h5, h6⟩ := hx x y h
    exact ⟨z, z', q_whr h4, q_whr h5, h6⟩
  | m + 1, i, n + 1, x, y, h1, h2, h3, h => by
    obtain ⟨x', y', h4, h5, h6⟩ := hs i x y (by omega) h
    rw [q_whl h4, q_whl h5]
    exact q_two I X e hs hx m (i + 1) n x' y' (by omega) (by omega) (by omega) h6
theorem q_two0 {σ ρ σ' ρ' : Type} {b : σ → Option (σ ⊕ ρ)} {b' : σ' → Option (σ' ⊕ ρ')} (I : Nat → σ → σ' → Prop) (X : ρ → ρ' → Prop) (i e : Nat) (he : e < 4000) (hi : i ≤ e) {x : σ} {y : σ'} (h0 : I i x y) (hs : ∀ i x y, i < e → I i x y → ∃ x' y', b x = some (.inl x') ∧ b' y = some (.inl y') ∧ I (i + 1) x' y') (hx : ∀ x y, I e x y → ∃ z z', b x = some (.inr z) ∧ b' y = some (.inr z') ∧ X z z') : ∃ z z', mWh b fuel0 x = some z ∧ mWh b' fuel0 y = some z' ∧ X z z' :=
  q_two I X e hs hx (e - i) i fuel0 x y rfl hi (by unfold fuel0; omega) h0
section
variable {B : Nat} {N : Nat → Nat} {len ns ln : Nat} {L : Nat → Nat → Nat} {T : Nat → Nat} {r : RouS} {m : ModS}
/-- clear -/
theorem op_clear (h : TRp B N len ns L ln T r m) : OpR B (F_X2_clear r) (F_X3_clear m) := by
  obtain ⟨h1, h2, h3, h4, ⟨x1, x2, x3, x4⟩, h6⟩ := h
  refine OpR.mk (x2.trans x3.symm) ⟨N, len, ns, L, 0, T, h1, h2, h3, h4, ⟨Nat.zero_le _, rfl, rfl, fun j hj => absurd hj (Nat.not_lt_zero j)⟩, h6⟩
/-- type -/
theorem op_type (h : TRp B N len ns L ln T r m) (p1 : Int32) : OpR B (F_X2_type p1 r) (F_X3_type p1 m) := by
  unfold F_X2_type F_X3_type
  rcases in2 p1 (lo := 0) (hi := 127) (by omega) (by omega) with ⟨k, rfl, _, hk, e3, e4⟩ | ⟨e3, e4⟩
  rotate_left
  · rw [e3, e4, Option.bind_some, Option.bind_some, i_neF rfl, i_neF rfl]
    exact OpR.bad h
  have ⟨h1, h2, h3, h4, ⟨x1, x2, x3, x4⟩, h6⟩ := h
  rw [e3, e4, Option.bind_some, Option.bind_some, if_pos q_1n0, if_pos q_1n0, x3]
  unfold F_X1_append
  rw [x2]
  by_cases e : ln = 120
  · rw [i_ltF (by omega) (by omega), Option.bind_some, if_pos rfl, i_neF e]
    obtain ⟨r', f1, f2⟩ := h.ful
    have : mkR (gR_sc r) (gR_ns r) (gR_bd r) (gR_no r) (gR_fu r) (gR_now r) (gR_tri r) (gR_s0 r) (gR_s1 r) (gR_s2 r) (gR_s3 r) (gR_s4 r) (gR_txt r) = r := rfl
    rw [this, f1, Option.bind_some]
    refine OpR.mk rfl (TR.of (N := N) (len := len) (ns := ns) (L := L) (ln := ln) (T := T) ?_)
    rw [x3] at f2
    exact f2
  · rw [i_ltT (by omega) (by omega), i_neT e (by omega) (by omega), q_gI (by omega) (by omega), q_gI (by omega) (by omega), q_cl (by omega), q_add, Option.bind_some, if_neg q_1n0]
    refine OpR.mk rfl ⟨N, len, ns, L, ln + 1, fun j => if j = ln then k else T j, h1, h2, h3, h4, ⟨by omega, rfl, rfl, ?_⟩, h6⟩
    intro j hj
    show (if j = ln then k else T j) ≤ 127 ∧ upd (gT_by (gR_txt r)) ln (nI k) j = nI (if j = ln then k else T j) ∧ upd (gM_tx m) ln (nI k) j = nI (if j = ln then k else T j)
    unfold upd
    by_cases e2 : j = ln
    · rw [if_pos e2, if_pos e2, if_pos e2]
      exact ⟨hk, rfl, rfl⟩
    · rw [if_neg e2, if_neg e2, if_neg e2]
      exact x4 j (by omega)
/-- undo: what the reference does -/
theorem Y_undo {l : Nat} (hl : l < 5) (hs : gM_ss m = nI (l + 1)) : F_X3_undo m = some (nI l, mkM (nI l) (gM_ty m) (gM_at m) (gM_ft m) (gM_mn m) (gM_bd m) (gM_no m) (gM_fu m) (fun k => if k < 637 then gM_pa m (637 * l + k) else gM_nw m k) (gM_as m) (gM_pa m) (gM_tx m) (gM_od m)) := by
  unfold F_X3_undo
  rw [hs, i_neT (by omega) (by omega) (by omega), q_sub (by omega), Nat.add_sub_cancel]
  have h0 : (fun k => if k < 0 then gM_pa m (637 * l + k) else gM_nw m k) = gM_nw m := funext (fun k => if_neg (by omega))
  have hq := q_for0 (b := fun x : Int32 × ModS => B_X3_undo_24 x.1 x.2) (S := fun i => (nI i, mkM (nI l) (gM_ty m) (gM_at m) (gM_ft m) (gM_mn m) (gM_bd m) (gM_no m) (gM_fu m) (fun k => if k < i then gM_pa m (637 * l + k) else gM_nw m k) (gM_as m) (gM_pa m) (gM_tx m) (gM_od m))) 637 (mkM (nI l) (gM_ty m) (gM_at m) (gM_ft m) (gM_mn m) (gM_bd m) (gM_no m) (gM_fu m) (fun k => if k < 637 then gM_pa m (637 * l + k) else gM_nw m k) (gM_as m) (gM_pa m) (gM_tx m) (gM_od m)) (by omega) (fun i hi => by
    dsimp only
    unfold B_X3_undo_24
    rw [show gM_ss (mkM (nI l) (gM_ty m) (gM_at m) (gM_ft m) (gM_mn m) (gM_bd m) (gM_no m) (gM_fu m) (fun k => if k < i then gM_pa m (637 * l + k) else gM_nw m k) (gM_as m) (gM_pa m) (gM_tx m) (gM_od m)) = nI l from rfl, q_mul, q_add, i_leF hi (by omega), q_gI (by omega) (by omega), q_gI hi (by omega), q_add, q_cl (by omega), q_cl (by omega)]
    refine congrArg (fun g => some (Sum.inl (nI (i + 1), mkM (nI l) (gM_ty m) (gM_at m) (gM_ft m) (gM_mn m) (gM_bd m) (gM_no m) (gM_fu m) g (gM_as m) (gM_pa m) (gM_tx m) (gM_od m)))) (a₂ := fun k => if k < i + 1 then gM_pa m (637 * l + k) else gM_nw m k) (funext fun k => ?_)
    unfold upd
    by_cases e : k = i
    · rw [if_pos e, if_pos (by omega), e]
      rfl
    · rw [if_neg e]
      show (if k < i then gM_pa m (637 * l + k) else gM_nw m k) = _
      by_cases e2 : k < i
      · rw [if_pos e2, if_pos (by omega)]
      · rw [if_neg e2, if_neg (by omega)]) (by
    dsimp only
    unfold B_X3_undo_24
    rw [i_leT (Nat.le_refl _) (by omega)])
  rw [h0] at hq
  have hq' : mWh (fun x : Int32 × ModS => B_X3_undo_24 x.1 x.2) fuel0 (nI 0, mkM (nI l) (gM_ty m) (gM_at m) (gM_ft m) (gM_mn m) (gM_bd m) (gM_no m) (gM_fu m) (gM_nw m) (gM_as m) (gM_pa m) (gM_tx m) (gM_od m)) = _ := hq
  rw [hq', Option.bind_some]
  rfl
/-- undo: what the class does -/
theorem X_undo {l k : Nat} (hl : l < 5) (hk : k < 5) (hsc : gR_sc r = nI (l + 1)) (hns : gR_ns r = nI ((k + 1) % 5)) (h80 : N 4 ≤ 80) (hR : RC (slt r k) N) : ∃ n', F_X2_undo r = some (nI l, mkR (nI l) (nI k) (gR_bd r) (gR_no r) (gR_fu r) n' (gR_tri r) (gR_s0 r) (gR_s1 r) (gR_s2 r) (gR_s3 r) (gR_s4 r) (gR_txt r)) ∧ RC n' N := by
  have hm : (k + 1) % 5 < 5 := Nat.mod_lt _ (by omega)
  obtain ⟨n', c1, c2⟩ := hR.cp h80 (gR_now r)
  refine ⟨n', ?_, c2⟩
  unfold F_X2_undo
  have hk4 : ((k + 1) % 5 + 5 - 1) % 5 = k := by omega
  rw [hsc, hns, i_neT (by omega) (by omega) (by omega), q_gZ (by omega) (by omega), q_sub (by omega), Nat.add_sub_cancel, q_add, q_sub (by omega), q_div (by omega) (by omega) (by omega), q_rem (by omega) (by omega) (by omega), hk4, q_gI hk (by omega)]
  have hall : k = 0 ∨ k = 1 ∨ k = 2 ∨ k = 3 ∨ k = 4 := by omega
  rcases hall with rfl | rfl | rfl | rfl | rfl
  · have c1' : F_X0_copyFrom (gR_s0 r) (gR_now r) = some n' := c1
    rw [i_eqT rfl, c1', Option.bind_some]
  · have c1' : F_X0_copyFrom (gR_s1 r) (gR_now r) = some n' := c1
    rw [i_eqF (by omega) (by omega) (by omega), i_eqT rfl, c1', Option.bind_some]
  · have c1' : F_X0_copyFrom (gR_s2 r) (gR_now r) = some n' := c1
    rw [i_eqF (by omega) (by omega) (by omega), i_eqF (by omega) (by omega) (by omega), i_eqT rfl, c1', Option.bind_some]
  · have c1' : F_X0_copyFrom (gR_s3 r) (gR_now r) = some n' := c1
    rw [i_eqF (by omega) (by omega) (by omega), i_eqF (by omega) (by omega) (by omega), i_eqF (by omega) (by omega) (by omega), i_eqT rfl, c1', Option.bind_some]
  · have c1' : F_X0_copyFrom (gR_s4 r) (gR_now r) = some n' := c1
    rw [i_eqF (by omega) (by omega) (by omega), i_eqF (by omega) (by omega) (by omega), i_eqF (by omega) (by omega) (by omega), i_eqF (by omega) (by omega) (by omega), i_eqT rfl, c1', Option.bind_some]
/-- undo -/
theorem op_undo (h : TRp B N len ns L ln T r m) : OpR B (F_X2_undo r) (F_X3_undo m) := by
  have ⟨h1, h2, h3, ⟨s1, s2, s3, s4, s5, s6⟩, h5, h6⟩ := h
  by_cases e : len = 0
  · subst e
    unfold F_X2_undo F_X3_undo
    rw [s3, s4, i_neF rfl, i_neF rfl]
    exact OpR.nob h
  · obtain ⟨l, rfl⟩ : ∃ l, len = l + 1 := ⟨len - 1, by omega⟩
    obtain ⟨g1, g2, g3⟩ := s6 0 (by omega)
    have hk : (ns + 4) % 5 < 5 := Nat.mod_lt _ (by omega)
    obtain ⟨n', f1, f2⟩ := X_undo (r := r) (l := l) (k := (ns + 4) % 5) (by omega) hk s3 (by rw [s5]; congr 1; omega) g1.2.2.2.2.1 g2
    rw [f1, Y_undo (by omega) s4]
    refine OpR.mk rfl ⟨L 0, l, (ns + 4) % 5, fun j => L (j + 1), ln, T, g1, f2, RM.of (fun k hk => ?_), ⟨by omega, hk, rfl, rfl, rfl, ?_⟩, h5, h6⟩
    · have := g1.2.2.2.2.1
      show (if k < 637 then gM_pa m (637 * l + k) else gM_nw m k) = nI (L 0 k)
      rw [if_pos (by omega)]
      exact g3 k hk
    · intro j hj
      obtain ⟨q1, q2, q3⟩ := s6 (j + 1) (by omega)
      refine ⟨q1, ?_, ?_⟩
      · rw [show ((ns + 4) % 5 + 4 - j) % 5 = (ns + 4 - (j + 1)) % 5 by omega]
        exact q2
      · intro k hk
        rw [← q3 k hk]
        show gM_pa m _ = gM_pa m _
        congr 2
        congr 1
        omega
/-- told -/
theorem told_k (h : TRp B N len ns L ln T r m) {k : Nat} (hk : k ≤ 9) : ∃ v, F_X2_told (nI k) r = some (v, r) ∧ F_X3_told (nI k) m = some (v, m) := by
  obtain ⟨h1, h2, h3, h4, ⟨x1, x2, x3, x4⟩, h6, h7, h8⟩ := h
  have f : ∀ {α : Type} {a b : Nat} {x y : α}, a < 20 → b < 20 → a ≠ b → (if nI a = nI b then x else y) = y := fun ha hb hab => i_eqF hab (by omega) (by omega)
  unfold F_X2_told F_X3_told
  rw [q_gI (by omega) (by omega), q_gI (by omega) (by omega), q_gI (by omega) (by omega), q_gI (by omega) (by omega), q_gI (by omega) (by omega), q_cl (by omega), q_cl (by omega), q_cl (by omega), q_cl (by omega), q_cl (by omega)]
  have hall : k = 0 ∨ k = 1 ∨ k = 2 ∨ k = 3 ∨ k = 4 ∨ k = 5 ∨ k = 6 ∨ k = 7 ∨ k = 8 ∨ k = 9 := by omega
  rcases hall with rfl | rfl | rfl | rfl | rfl | rfl | rfl | rfl | rfl | rfl
  · refine ⟨_, by rw [i_eqT rfl], ?_⟩
    rw [i_eqT rfl]
    exact congrArg (fun v => some (v, m)) (Eq.symm (h6))
  · refine ⟨_, by rw [f (by omega) (by omega) (by omega), i_eqT rfl], ?_⟩
    rw [f (by omega) (by omega) (by omega), i_eqT rfl]
    exact congrArg (fun v => some (v, m)) (Eq.symm (h7))
  · refine ⟨_, by rw [f (by omega) (by omega) (by omega), f (by omega) (by omega) (by omega), i_eqT rfl], ?_⟩
    rw [f (by omega) (by omega) (by omega), f (by omega) (by omega) (by omega), i_eqT rfl]
    exact congrArg (fun v => some (v, m)) (Eq.symm (h8))
  · refine ⟨_, by rw [f (by omega) (by omega) (by omega), f (by omega) (by omega) (by omega), f (by omega) (by omega) (by omega), i_eqT rfl], ?_⟩
    rw [f (by omega) (by omega) (by omega), f (by omega) (by omega) (by omega), f (by omega) (by omega) (by omega), i_eqT rfl]
    exact congrArg (fun v => some (v, m)) (Eq.symm (by rw [x2, x3]))
  · refine ⟨_, by rw [f (by omega) (by omega) (by omega), f (by omega) (by omega) (by omega), f (by omega) (by omega) (by omega), f (by omega) (by omega) (by omega), i_eqT rfl], ?_⟩
    rw [f (by omega) (by omega) (by omega), f (by omega) (by omega) (by omega), f (by omega) (by omega) (by omega), f (by omega) (by omega) (by omega), i_eqT rfl]
    exact congrArg (fun v => some (v, m)) (Eq.symm (by rw [h2.1, h3.g (by omega)]))
  · refine ⟨_, by rw [f (by omega) (by omega) (by omega), f (by omega) (by omega) (by omega), f (by omega) (by omega) (by omega), f (by omega) (by omega) (by omega), f (by omega) (by omega) (by omega), i_eqT rfl], ?_⟩
    rw [f (by omega) (by omega) (by omega), f (by omega) (by omega) (by omega), f (by omega) (by omega) (by omega), f (by omega) (by omega) (by omega), f (by omega) (by omega) (by omega), i_eqT rfl]
    exact congrArg (fun v => some (v, m)) (Eq.symm (by rw [h2.2.1, h3.g (by omega)]))
  · refine ⟨_, by rw [f (by omega) (by omega) (by omega), f (by omega) (by omega) (by omega), f (by omega) (by omega) (by omega), f (by omega) (by omega) (by omega), f (by omega) (by omega) (by omega), f (by omega) (by omega) (by omega), i_eqT rfl], ?_⟩
    rw [f (by omega) (by omega) (by omega), f (by omega) (by omega) (by omega), f (by omega) (by omega) (by omega), f (by omega) (by omega) (by omega), f (by omega) (by omega) (by omega), f (by omega) (by omega) (by omega), i_eqT rfl]
    exact congrArg (fun v => some (v, m)) (Eq.symm (by rw [h2.2.2.2.2.1, h3.g (by omega)]))
  · refine ⟨_, by rw [f (by omega) (by omega) (by omega), f (by omega) (by omega) (by omega), f (by omega) (by omega) (by omega), f (by omega) (by omega) (by omega), f (by omega) (by omega) (by omega), f (by omega) (by omega) (by omega), f (by omega) (by omega) (by omega), i_eqT rfl], ?_⟩
    rw [f (by omega) (by omega) (by omega), f (by omega) (by omega) (by omega), f (by omega) (by omega) (by omega), f (by omega) (by omega) (by omega), f (by omega) (by omega) (by omega), f (by omega) (by omega) (by omega), f (by omega) (by omega) (by omega), i_eqT rfl]
    exact congrArg (fun v => some (v, m)) (Eq.symm (by rw [h2.2.2.2.1, h3.g (by omega)]))
  · refine ⟨_, by rw [f (by omega) (by omega) (by omega), f (by omega) (by omega) (by omega), f (by omega) (by omega) (by omega), f (by omega) (by omega) (by omega), f (by omega) (by omega) (by omega), f (by omega) (by omega) (by omega), f (by omega) (by omega) (by omega), f (by omega) (by omega) (by omega), i_eqT rfl], ?_⟩
    rw [f (by omega) (by omega) (by omega), f (by omega) (by omega) (by omega), f (by omega) (by omega) (by omega), f (by omega) (by omega) (by omega), f (by omega) (by omega) (by omega), f (by omega) (by omega) (by omega), f (by omega) (by omega) (by omega), f (by omega) (by omega) (by omega), i_eqT rfl]
    exact congrArg (fun v => some (v, m)) (Eq.symm (by rw [h2.2.2.1, h3.g (by omega)]))
  · refine ⟨_, by rw [f (by omega) (by omega) (by omega), f (by omega) (by omega) (by omega), f (by omega) (by omega) (by omega), f (by omega) (by omega) (by omega), f (by omega) (by omega) (by omega), f (by omega) (by omega) (by omega), f (by omega) (by omega) (by omega), f (by omega) (by omega) (by omega), f (by omega) (by omega) (by omega), i_eqT rfl], ?_⟩
    rw [f (by omega) (by omega) (by omega), f (by omega) (by omega) (by omega), f (by omega) (by omega) (by omega), f (by omega) (by omega) (by omega), f (by omega) (by omega) (by omega), f (by omega) (by omega) (by omega), f (by omega) (by omega) (by omega), f (by omega) (by omega) (by omega), f (by omega) (by omega) (by omega), i_eqT rfl]
    exact congrArg (fun v => some (v, m)) (Eq.symm (by rw [h4.2.2.1, h4.2.2.2.1]))
theorem op_told (h : TRp B N len ns L ln T r m) (p1 : Int32) : OpR B (F_X2_told p1 r) (F_X3_told p1 m) := by
  by_cases e : ∃ k, k ≤ 9 ∧ p1 = nI k
  · obtain ⟨k, hk, rfl⟩ := e
    obtain ⟨v, e1, e2⟩ := told_k h hk
    rw [e1, e2]
    exact OpR.mk rfl (TR.of h)
  · have hn : ∀ k, k ≤ 9 → ¬ p1 = nI k := fun k hk q => e ⟨k, hk, q⟩
    unfold F_X2_told F_X3_told
    rw [if_neg (hn 0 (by omega)), if_neg (hn 0 (by omega)), if_neg (hn 1 (by omega)), if_neg (hn 1 (by omega)), if_neg (hn 2 (by omega)), if_neg (hn 2 (by omega)), if_neg (hn 3 (by omega)), if_neg (hn 3 (by omega)), if_neg (hn 4 (by omega)), if_neg (hn 4 (by omega)), if_neg (hn 5 (by omega)), if_neg (hn 5 (by omega)), if_neg (hn 6 (by omega)), if_neg (hn 6 (by omega)), if_neg (hn 7 (by omega)), if_neg (hn 7 (by omega)), if_neg (hn 8 (by omega)), if_neg (hn 8 (by omega)), if_neg (hn 9 (by omega)), if_neg (hn 9 (by omega))]
    exact OpR.bad h
/-- burden -/
theorem op_burden (h : TRp B N len ns L ln T r m) : ∃ v, F_X2_burden r = some v ∧ F_X3_burden m = some v := by
  obtain ⟨hW, hR, hM, _⟩ := h
  have h80 : N 4 ≤ 80 := hW.2.2.2.2.1
  have hcc := hR.2.2.2.2.1
  have hca := hR.2.2.2.2.2.2.2.2.2.2.1
  have hl : ∃ z z', mWh (fun x : Int32 × Int32 => B_X0_wiresHeld_4 x.1 x.2 (gR_now r)) fuel0 (nI 0, nI 0) = some z ∧ mWh (fun x : Int32 × Int32 => B_X3_burden_4 x.1 x.2 m) fuel0 (nI 0, nI 0) = some z' ∧ z = z' := by
    refine q_two0 (I := fun k (x : Int32 × Int32) (y : Int32 × Int32) => x = y ∧ x.2 = nI k) (X := fun z z' : Int32 => z = z') 0 (N 4) (by omega) (by omega) ⟨rfl, rfl⟩ ?_ ?_
    · rintro k ⟨x1, x2⟩ y hk ⟨rfl, h2⟩
      dsimp only at h2
      subst h2
      have a2 : gN_ca (gR_now r) (4 * k + 2) = nI (N (317 + 4 * k + 2)) := hca (4 * k + 2) (by omega)
      dsimp only
      unfold B_X0_wiresHeld_4 B_X3_burden_4
      rw [hcc, q_gI (by omega) (by omega), q_cl (by omega), hM.g (by omega), i_leF hk (by omega), i_leF hk (by omega), q_mul, Nat.mul_comm k 4, q_add (4 * k) 2, q_gI (by omega) (by omega), q_cl (by omega), a2, q_mul, q_add 317, q_add (317 + 4 * k) 2, q_gI (by omega) (by omega), q_cl (by omega), hM.g (by omega), q_add k 1]
      by_cases e : ¬ nI (N (317 + 4 * k + 2)) = -nI 1
      · rw [if_pos e]
        exact ⟨_, _, rfl, rfl, rfl, rfl⟩
      · rw [if_neg e]
        exact ⟨_, _, rfl, rfl, rfl, rfl⟩
    · rintro ⟨x1, x2⟩ y ⟨rfl, h2⟩
      dsimp only at h2
      subst h2
      dsimp only
      unfold B_X0_wiresHeld_4 B_X3_burden_4
      rw [hcc, q_gI (by omega) (by omega), q_cl (by omega), hM.g (by omega), i_leT (Nat.le_refl _) (by omega), i_leT (Nat.le_refl _) (by omega)]
      exact ⟨_, _, rfl, rfl, rfl⟩
  obtain ⟨z, z', e1, e2, rfl⟩ := hl
  unfold F_X2_burden F_X3_burden F_X0_wiresHeld
  rw [e1, e2, Option.bind_some, Option.bind_some, Option.bind_some, q_gI (by omega) (by omega), q_gI (by omega) (by omega), q_cl (by omega), hM.g (by omega), hcc]
  by_cases e : N 4 = 0
  · rw [i_neF e, i_neF e]
    exact ⟨_, rfl, rfl⟩
  · rw [i_neT e (by omega) (by omega), i_neT e (by omega) (by omega), q_gZ (by omega) (by omega), q_gZ (by omega) (by omega), Int32.mul_comm]
    exact ⟨_, rfl, rfl⟩
end
