/-! choked -/
def anyF (c : Nat → Bool) (i : Nat) : Nat → Bool
  | 0 => false
  | m + 1 => c i || anyF c (i + 1) m
theorem anyF_iff (c : Nat → Bool) : ∀ (m i : Nat), anyF c i m = true ↔ ∃ t, i ≤ t ∧ t < i + m ∧ c t = true
  | 0, i => by
    constructor
    · intro h
      unfold anyF at h
      exact absurd h (by simp)
    · rintro ⟨t, h1, h2, _⟩
      omega
  | m + 1, i => by
    unfold anyF
    rw [Bool.or_eq_true, anyF_iff c m (i + 1)]
    constructor
    · rintro (h | ⟨t, h1, h2, h3⟩)
      · exact ⟨i, by omega, by omega, h⟩
      · exact ⟨t, by omega, by omega, h3⟩
    · rintro ⟨t, h1, h2, h3⟩
      by_cases e : t = i
      · subst e; exact Or.inl h3
      · exact Or.inr ⟨t, by omega, by omega, h3⟩
theorem q_any {b : Int32 × Int32 → Option ((Int32 × Int32) ⊕ Int32)} (c : Nat → Bool) (e : Nat) (h1 : ∀ i, i < e → b (nI 0, nI i) = some (.inl (nI (if c i = true then 1 else 0), nI (i + 1)))) (h2 : ∀ i, i ≤ e → b (nI 1, nI i) = some (.inr (nI 1))) (h3 : b (nI 0, nI e) = some (.inr (nI 0))) : ∀ (m i n : Nat), e - i = m → i ≤ e → m + 1 < n → mWh b n (nI 0, nI i) = some (nI (if anyF c i m = true then 1 else 0))
  | 0, i, n + 1, q1, q2, q3 => by
    have : i = e := by omega
    subst this
    rw [q_whr h3]
    rfl
  | m + 1, i, n + 2, q1, q2, q3 => by
    rw [q_whl (h1 i (by omega))]
    unfold anyF
    cases hc : c i
    · rw [if_neg (by simp), Bool.false_or]
      exact q_any c e h1 h2 h3 m (i + 1) (n + 1) (by omega) (by omega) (by omega)
    · rw [if_pos rfl, q_whr (h2 (i + 1) (by omega)), Bool.true_or]
      rfl
section
variable {B : Nat} {N : Nat → Nat} {len ns ln : Nat} {L : Nat → Nat → Nat} {T : Nat → Nat} {r : RouS} {m : ModS} {n : NetS}
def cA (N : Nat → Nat) (a b t : Nat) : Bool := !decide (t = a) && (!decide (t = b) && (sSv N (lk a t) && sSv N (lk t b)))
def aW (N : Nat → Nat) (a b : Nat) : Bool := decide (0 < sFr N (lk a b)) || anyF (cA N a b) 0 (N 0)
theorem b01 (c : Bool) : nI (if c = true then 1 else 0) = nI 0 ∨ nI (if c = true then 1 else 0) = nI 1 := by cases c; exact Or.inl rfl; exact Or.inr rfl
theorem X_any (hB : B < 1073741824) (hW : WF B N) (hR : RC n N) {a b : Nat} (ha : a < N 0) (hb : b < N 0) : F_X0_hasAnyWay (nI a) (nI b) n = some (nI (if aW N a b = true then 1 else 0)) := by
  have h06 := hW.1
  have hff : (if (false = true) then 1 else 0 : Nat) = 0 := rfl
  have htt : (if (true = true) then 1 else 0 : Nat) = 1 := rfl
  have hl := lk_lt (a := a) (b := b) (by omega) (by omega)
  have k2 : ∀ i, i ≤ N 0 → B_X0_hasAnyWay_21 (nI a) (nI b) (nI 1) (nI i) n = some (.inr (nI 1)) := by
    intro i hi
    unfold B_X0_hasAnyWay_21
    rw [hR.1, if_pos q_1n0]
    split <;> rfl
  have k3 : ∀ v, B_X0_hasAnyWay_21 (nI a) (nI b) v (nI (N 0)) n = some (.inr v) := by
    intro v
    unfold B_X0_hasAnyWay_21
    rw [hR.1, i_leT (Nat.le_refl _) (by omega)]
  have k1 : ∀ i, i < N 0 → B_X0_hasAnyWay_21 (nI a) (nI b) (nI 0) (nI i) n = some (.inl (nI (if cA N a b i = true then 1 else 0), nI (i + 1))) := by
    intro i hi
    unfold B_X0_hasAnyWay_21 cA
    rw [hR.1, i_leF hi (by omega), i_neF rfl, q_add]
    by_cases e1 : i = a
    · rw [i_eqT e1]
      simp [e1]
    rw [i_eqF e1 (by omega) (by omega)]
    by_cases e2 : i = b
    · rw [i_eqT e2]
      simp [e2]
    rw [i_eqF e2 (by omega) (by omega), X_link (by omega) (by omega), Option.bind_some, X_serves hB hW hR (lk_lt (by omega) (by omega)), Option.bind_some]
    simp only [e1, e2, decide_false, Bool.not_false, Bool.true_and]
    cases sSv N (lk a i)
    · rw [hff, i_eqT rfl]
      rfl
    · rw [htt, i_eqF (by omega) (by omega) (by omega), X_link (by omega) (by omega), Option.bind_some, X_serves hB hW hR (lk_lt (by omega) (by omega)), Option.bind_some]
      cases sSv N (lk i b)
      · rw [hff, i_eqT rfl]
        rfl
      · rw [htt, i_eqF (by omega) (by omega) (by omega)]
        rfl
  unfold F_X0_hasAnyWay aW J_X0_hasAnyWay_17
  rw [X_link (by omega) (by omega), Option.bind_some, X_free hB hW hR hl, Option.bind_some]
  have hfl := sFr_le hW hl
  by_cases hf : 0 < sFr N (lk a b)
  · have q : mWh (fun x : Int32 × Int32 => B_X0_hasAnyWay_21 (nI a) (nI b) x.1 x.2 n) fuel0 (nI 1, nI 0) = some (nI 1) := q_whr (b := fun x : Int32 × Int32 => B_X0_hasAnyWay_21 (nI a) (nI b) x.1 x.2 n) (k2 0 (by omega))
    rw [i_leF hf (by omega), q, Option.bind_some]
    simp only [hf, decide_true, Bool.true_or, if_true]
    exact if_pos (Or.inr rfl)
  · have q : mWh (fun x : Int32 × Int32 => B_X0_hasAnyWay_21 (nI a) (nI b) x.1 x.2 n) fuel0 (nI 0, nI 0) = some (nI (if anyF (cA N a b) 0 (N 0) = true then 1 else 0)) := q_any (b := fun x : Int32 × Int32 => B_X0_hasAnyWay_21 (nI a) (nI b) x.1 x.2 n) (cA N a b) (N 0) k1 k2 (k3 _) (N 0) 0 fuel0 (by omega) (by omega) (by unfold fuel0; omega)
    rw [i_leT (by omega) (by omega), q, Option.bind_some]
    simp only [hf, decide_false, Bool.false_or]
    exact if_pos (b01 _)
theorem Y_may (hW : WF B N) (hM : RM (gM_nw m) N) {a b t : Nat} (ha : a < 6) (hb : b < 6) (ht : t < 6) : F_X3_mayGo (nI a) (nI b) (nI t) m = some (nI (if (decide (0 < sFr N (lk a b)) || (sSv N (lk a t) && sSv N (lk t b))) = true then 1 else 0)) := by
  have hff : (if (false = true) then 1 else 0 : Nat) = 0 := rfl
  have htt : (if (true = true) then 1 else 0 : Nat) = 1 := rfl
  have hfl := sFr_le hW (lk_lt ha hb)
  unfold F_X3_mayGo
  rw [Y_free hW hM ha hb, Option.bind_some]
  by_cases hf : 0 < sFr N (lk a b)
  · rw [i_ltT hf (by omega)]
    simp [hf]
  · rw [i_ltF (by omega) (by omega), Y_more hW hM ha ht, Option.bind_some]
    simp only [hf, decide_false, Bool.false_or]
    cases sSv N (lk a t)
    · rw [hff, i_eqT rfl]
      rfl
    · rw [htt, i_eqF (by omega) (by omega) (by omega), Y_more hW hM ht hb, Option.bind_some]
      cases sSv N (lk t b)
      · rw [hff, i_eqT rfl]
        rfl
      · rw [htt, i_eqF (by omega) (by omega) (by omega)]
        rfl
def cB (N : Nat → Nat) (p a b t : Nat) : Bool := (!decide (t = a) && (!decide (t = b) && (decide (p = 1) || decide (N (77 + (6 * a + b)) = t)))) && (decide (0 < sFr N (lk a b)) || (sSv N (lk a t) && sSv N (lk t b)))
theorem Y_ch (hW : WF B N) (hM : RM (gM_nw m) N) {p a b : Nat} (hp : p ≤ 1) {x2 : Int32} (ha : a < N 0) (hb : b < N 0) (hab : a ≠ b) : mWh (fun x : Int32 × Int32 => B_X3_choked_58 (nI p) x2 (nI a) (nI b) x.1 x.2 m) fuel0 (nI 0, nI 0) = some (nI (if anyF (cB N p a b) 0 (N 0) = true then 1 else 0)) := by
  have h06 := hW.1
  have hst := (hW.2.2.2.2.2.2.2.1 a b ha hb hab).1
  have hff : (if (false = true) then 1 else 0 : Nat) = 0 := rfl
  have htt : (if (true = true) then 1 else 0 : Nat) = 1 := rfl
  refine q_any (b := fun x : Int32 × Int32 => B_X3_choked_58 (nI p) x2 (nI a) (nI b) x.1 x.2 m) (cB N p a b) (N 0) ?_ ?_ ?_ (N 0) 0 fuel0 (by omega) (by omega) (by unfold fuel0; omega)
  · intro i hi
    have j0 : J_X3_choked_117 (nI p) x2 (nI a) (nI b) (nI i) (nI 0) m = some (.inl (nI 0, nI (i + 1))) := by
      unfold J_X3_choked_117
      rw [i_eqT rfl, q_add]
    have j1 : J_X3_choked_117 (nI p) x2 (nI a) (nI b) (nI i) (nI 1) m = some (.inl (nI (if (decide (0 < sFr N (lk a b)) || (sSv N (lk a i) && sSv N (lk i b))) = true then 1 else 0), nI (i + 1))) := by
      unfold J_X3_choked_117
      rw [i_eqF (by omega) (by omega) (by omega), Y_may hW hM (by omega) (by omega) (by omega), Option.bind_some, q_add]
      cases decide (0 < sFr N (lk a b)) || (sSv N (lk a i) && sSv N (lk i b))
      · rw [hff, i_eqT rfl]
      · rw [htt, i_eqF (by omega) (by omega) (by omega)]
    dsimp only
    unfold B_X3_choked_58 J_X3_choked_116 J_X3_choked_112 cB
    rw [q_gI (show 0 < 637 by omega) (by omega), q_cl (show 0 < 2147483648 by omega), hM.g (show 0 < _ by omega), i_leF hi (by omega), i_neF rfl, j0, j1]
    by_cases e1 : i = a
    · rw [i_eqT e1]
      simp [e1]
    rw [i_eqF e1 (by omega) (by omega)]
    by_cases e2 : i = b
    · rw [i_eqT e2]
      simp [e2]
    rw [i_eqF e2 (by omega) (by omega)]
    simp only [e1, e2, decide_false, Bool.not_false, Bool.true_and]
    by_cases e3 : p = 1
    · rw [i_eqT e3]
      simp only [e3, decide_true, Bool.true_or, Bool.true_and]
    · rw [i_eqF e3 (by omega) (by omega), q_mul, q_add, q_add, q_gI (by omega) (by omega), q_cl (by omega), hM.g (by omega), Nat.add_assoc 77]
      by_cases e4 : N (77 + (6 * a + b)) = i
      · rw [i_neF e4]
        simp only [e4, decide_true, Bool.or_true, Bool.true_and]
      · rw [i_neT e4 (by omega) (by omega)]
        simp only [e3, e4, decide_false, Bool.or_false, Bool.false_and]
        rfl
  · intro i hi
    dsimp only
    unfold B_X3_choked_58
    rw [q_gI (show 0 < 637 by omega) (by omega), if_pos q_1n0]
    split <;> rfl
  · dsimp only
    unfold B_X3_choked_58
    rw [q_gI (show 0 < 637 by omega) (by omega), q_cl (show 0 < 2147483648 by omega), hM.g (show 0 < _ by omega), i_leT (Nat.le_refl _) (by omega)]
theorem ch_any {N : Nat → Nat} (h3 : 3 ≤ N 0) {a b : Nat} : anyF (cB N 1 a b) 0 (N 0) = aW N a b := by
  apply Bool.eq_iff_iff.mpr
  unfold aW
  rw [Bool.or_eq_true, anyF_iff, anyF_iff, decide_eq_true_eq]
  constructor
  · rintro ⟨t, _, h2, h⟩
    unfold cB at h
    rw [Bool.and_eq_true, Bool.or_eq_true, decide_eq_true_eq] at h
    rcases h.2 with q | q
    · exact Or.inl q
    · right
      refine ⟨t, Nat.zero_le _, h2, ?_⟩
      unfold cA
      have h5 := h.1
      rw [Bool.and_eq_true, Bool.and_eq_true] at h5
      rw [h5.1, h5.2.1, q]
      rfl
  · rintro (q | ⟨t, _, h2, h⟩)
    · have hx : ∃ t, t < 3 ∧ t ≠ a ∧ t ≠ b := by
        by_cases e0 : 0 ≠ a ∧ 0 ≠ b
        · exact ⟨0, by omega, e0⟩
        · by_cases e1 : 1 ≠ a ∧ 1 ≠ b
          · exact ⟨1, by omega, e1⟩
          · exact ⟨2, by omega, by omega, by omega⟩
      obtain ⟨t, h4, h5, h6⟩ := hx
      refine ⟨t, Nat.zero_le _, by omega, ?_⟩
      unfold cB
      simp [h5, h6, q]
    · refine ⟨t, Nat.zero_le _, h2, ?_⟩
      unfold cA at h
      rw [Bool.and_eq_true, Bool.and_eq_true] at h
      unfold cB
      rw [h.1, h.2.1, h.2.2]
      simp
theorem ch_way {N : Nat → Nat} {a b : Nat} (hs : N (77 + (6 * a + b)) < N 0) (h6 : N 0 ≤ 6) (ha : N (77 + (6 * a + b)) ≠ a) (hb : N (77 + (6 * a + b)) ≠ b) : (sWay a b N ≠ RF) = (anyF (cB N 0 a b) 0 (N 0) = true) := by
  apply propext
  rw [anyF_iff]
  unfold sWay
  constructor
  · intro h
    refine ⟨N (77 + (6 * a + b)), Nat.zero_le _, by omega, ?_⟩
    unfold cB
    by_cases q : 0 < sFr N (lk a b)
    · simp [ha, hb, q]
    · rw [if_neg q] at h
      by_cases q2 : (sSv N (lk a (N (77 + (6 * a + b)))) && sSv N (lk (N (77 + (6 * a + b))) b)) = true
      · rw [q2]
        simp [ha, hb]
      · rw [if_neg q2] at h
        exact absurd rfl h
  · rintro ⟨t, _, h2, h⟩
    unfold cB at h
    simp only [Bool.and_eq_true, Bool.or_eq_true, Bool.not_eq_true', decide_eq_true_eq, decide_eq_false_iff_not] at h
    obtain ⟨⟨h3, h4, h5⟩, h7⟩ := h
    have h5' := h5.resolve_left (by omega)
    by_cases q : 0 < sFr N (lk a b)
    · rw [if_pos q]; exact fun q2 => absurd q2 (by decide)
    · rw [if_neg q]
      have h8 := h7.resolve_left q
      rw [h5', h8.1, h8.2]
      show t ≠ RF
      exact Nat.ne_of_lt (show t < 4294967291 by omega)
/-- choked -/
theorem op_choked (hB : B < 1073741824) (h : TRp B N len ns L ln T r m) (p1 : Int32) : OpR B (F_X2_choked p1 r) (F_X3_choked p1 m) := by
  have ⟨hW, hR, hM, _⟩ := h
  have h06 := hW.1
  have hff : (if (false = true) then 1 else 0 : Nat) = 0 := rfl
  have htt : (if (true = true) then 1 else 0 : Nat) = 1 := rfl
  unfold F_X2_choked F_X3_choked
  rcases in2 p1 (lo := 0) (hi := 1) (by omega) (by omega) with ⟨p, rfl, _, hp, e3, e4⟩ | ⟨e3, e4⟩
  rotate_left
  · rw [e3, e4, Option.bind_some, Option.bind_some, i_neF rfl, i_neF rfl]
    exact OpR.bad h
  rw [e3, e4, Option.bind_some, Option.bind_some, if_pos q_1n0, if_pos q_1n0]
  have hl : ∃ z z', mWh (fun x : Int32 × Int32 => B_X2_choked_20 (nI p) x.1 x.2 r) fuel0 (nI 0, nI 0) = some z ∧ mWh (fun x : Int32 × Int32 => B_X3_choked_18 (nI p) x.1 x.2 m) fuel0 (nI 0, nI 0) = some z' ∧ ∃ c, z = nI c ∧ z' = nI c := by
    refine q_two0 (I := fun a (x : Int32 × Int32) (y : Int32 × Int32) => ∃ c, x = (nI c, nI a) ∧ y = (nI c, nI a)) (X := fun z z' : Int32 => ∃ c, z = nI c ∧ z' = nI c) 0 (N 0) (by omega) (by omega) ⟨0, rfl, rfl⟩ ?_ ?_
    · rintro a x y ha ⟨c, rfl, rfl⟩
      dsimp only
      have hi : ∃ z z', mWh (fun x : Int32 × Int32 => B_X2_choked_34 (nI p) (nI a) x.1 x.2 r) fuel0 (nI c, nI 0) = some z ∧ mWh (fun x : Int32 × Int32 => B_X3_choked_31 (nI p) (nI a) x.1 x.2 m) fuel0 (nI c, nI 0) = some z' ∧ ∃ c, z = nI c ∧ z' = nI c := by
        refine q_two0 (I := fun b (x : Int32 × Int32) (y : Int32 × Int32) => ∃ c, x = (nI c, nI b) ∧ y = (nI c, nI b)) (X := fun z z' : Int32 => ∃ c, z = nI c ∧ z' = nI c) 0 (N 0) (by omega) (by omega) ⟨c, rfl, rfl⟩ ?_ ?_
        · rintro b x y hb ⟨c, rfl, rfl⟩
          dsimp only
          unfold B_X2_choked_34 B_X3_choked_31
          rw [hR.1, i_leF hb (by omega), q_gI (show 0 < 637 by omega) (by omega), q_cl (show 0 < 2147483648 by omega), hM.g (show 0 < _ by omega), i_leF hb (by omega)]
          unfold J_X3_choked_53
          by_cases e : a = b
          · have q : mWh (fun x : Int32 × Int32 => B_X3_choked_58 (nI p) (nI c) (nI a) (nI b) x.1 x.2 m) fuel0 (nI 1, nI 0) = some (nI 1) := q_whr (b := fun x : Int32 × Int32 => B_X3_choked_58 (nI p) (nI c) (nI a) (nI b) x.1 x.2 m) (by
              dsimp only
              unfold B_X3_choked_58
              rw [q_gI (show 0 < 637 by omega) (by omega), if_pos q_1n0]
              split <;> rfl)
            rw [i_eqT e, i_neF e, q, Option.bind_some, i_eqF (by omega) (by omega) (by omega), q_add, q_add]
            exact ⟨_, _, rfl, rfl, c, rfl, rfl⟩
          · obtain ⟨s1, s2, s3⟩ := hW.2.2.2.2.2.2.2.1 a b ha hb e
            rw [i_eqF e (by omega) (by omega), i_neT e (by omega) (by omega), Y_ch hW hM hp ha hb e, Option.bind_some, X_any hB hW hR ha hb, Option.bind_some, X_way hB hW hR ha hb e, Option.bind_some, q_add, q_add, q_add, q_n5]
            by_cases e1 : p = 1
            · subst e1
              rw [if_pos q_1n0, ch_any h06.1]
              cases aW N a b
              · rw [hff, i_neF rfl, i_eqT rfl]
                exact ⟨_, _, rfl, rfl, _, rfl, rfl⟩
              · rw [htt, if_pos q_1n0, if_neg q_1n0]
                exact ⟨_, _, rfl, rfl, _, rfl, rfl⟩
            · have e0 : p = 0 := by omega
              subst e0
              have hw := ch_way (N := N) (a := a) (b := b) s1 h06.2 s2 s3
              have hlt : sWay a b N < 4294967296 := by
                unfold sWay
                split
                · exact (show (4294967295 : Nat) < 4294967296 by omega)
                · split
                  · omega
                  · exact (show (4294967291 : Nat) < 4294967296 by omega)
              rw [i_neF rfl]
              by_cases e2 : sWay a b N = RF
              · rw [i_neF e2]
                have : anyF (cB N 0 a b) 0 (N 0) = false := by
                  cases q : anyF (cB N 0 a b) 0 (N 0)
                  · rfl
                  · rw [q] at hw
                    exact absurd e2 (hw.mpr rfl)
                rw [this, hff, i_eqT rfl]
                exact ⟨_, _, rfl, rfl, _, rfl, rfl⟩
              · rw [i_neT e2 hlt (show (4294967291 : Nat) < 4294967296 by omega), hw.mp e2, htt, if_neg q_1n0]
                exact ⟨_, _, rfl, rfl, _, rfl, rfl⟩
        · rintro x y ⟨c, rfl, rfl⟩
          dsimp only
          unfold B_X2_choked_34 B_X3_choked_31
          rw [hR.1, i_leT (Nat.le_refl _) (by omega), q_gI (show 0 < 637 by omega) (by omega), q_cl (show 0 < 2147483648 by omega), hM.g (show 0 < _ by omega), i_leT (Nat.le_refl _) (by omega)]
          exact ⟨_, _, rfl, rfl, c, rfl, rfl⟩
      obtain ⟨z, z', f1, f2, c', rfl, rfl⟩ := hi
      unfold B_X2_choked_20 B_X3_choked_18
      rw [hR.1, i_leF ha (by omega), q_gI (show 0 < 637 by omega) (by omega), q_cl (show 0 < 2147483648 by omega), hM.g (show 0 < _ by omega), i_leF ha (by omega), f1, f2, Option.bind_some, q_add]
      exact ⟨_, _, rfl, rfl, c', rfl, rfl⟩
    · rintro x y ⟨c, rfl, rfl⟩
      dsimp only
      unfold B_X2_choked_20 B_X3_choked_18
      rw [hR.1, i_leT (Nat.le_refl _) (by omega), q_gI (show 0 < 637 by omega) (by omega), q_cl (show 0 < 2147483648 by omega), hM.g (show 0 < _ by omega), i_leT (Nat.le_refl _) (by omega)]
      exact ⟨_, _, rfl, rfl, c, rfl, rfl⟩
  obtain ⟨z, z', f1, f2, c', rfl, rfl⟩ := hl
  rw [f1, f2, Option.bind_some, Option.bind_some]
  exact OpR.mk rfl (TR.of h)
end
