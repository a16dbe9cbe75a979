/-! the law's own loop: the class's cells, then the reference's -/
def memL (r : RouS) (m : ModS) : MMe := memR r ++ (memM m).map (cE (fun i => i + 68) (fun t => t))
theorem cV_id (v : Value) : cV (fun i => i) v = v := by cases v <;> rfl
theorem cE_id (c : va_E) : cE (fun i => i) (fun t => t) c = c := by
  match c with
  | .inl (t, n, .inl f) => rfl
  | .inl (t, n, .inr (.inl f)) => rfl
  | .inl (t, n, .inr (.inr (.inl f))) => rfl
  | .inl (t, n, .inr (.inr (.inr (.inl f)))) => rfl
  | .inl (t, n, .inr (.inr (.inr (.inr g)))) =>
    have h : (fun k => (g k).map (fun i : Nat => i)) = g := by
      funext k
      cases g k <;> rfl
    exact congrArg (fun f => (Sum.inl (t, n, .inr (.inr (.inr (.inr f)))) : va_E)) h
  | .inr (ci, fs) =>
    show Sum.inr (ci, fs.map (cV fun i => i)) = Sum.inr (ci, fs)
    rw [show fs.map (cV fun i => i) = fs from (List.map_congr_left (fun v _ => cV_id v)).trans (List.map_id' fs)]
theorem mCall.app {d : Nat} {M : MB} {as : List Value} {μ μ' X : MMe} {r : Option Value} (hc : mCall d M as μ r μ') (hl : μ'.length = μ.length) : mCall d M as (μ ++ X) r (μ' ++ X) := by
  have h := hc.frame (fun i => i) (μ ++ X) (μ' ++ X) hl (by rw [List.length_append, List.length_append, hl]) (fun i c h => ?_) (fun i j _ _ h => h) (fun i c h => ?_) (fun k hk => ?_)
  · rw [show as.map (cV fun i => i) = as from (List.map_congr_left (fun v _ => cV_id v)).trans (List.map_id' as)] at h
    rw [show r.map (cV fun i => i) = r from by cases r with
      | none => rfl
      | some v => exact congrArg some (cV_id v)] at h
    exact h
  · rw [cE_id, List.getElem?_append_left (List.getElem?_eq_some_iff.mp h).1]
    exact h
  · rw [cE_id, List.getElem?_append_left (List.getElem?_eq_some_iff.mp h).1]
    exact h
  · have hk2 : μ.length ≤ k := Nat.le_of_not_lt (fun q => hk k q rfl)
    rw [List.getElem?_append_right hk2, List.getElem?_append_right (by omega), hl]
theorem mCall.pre {d n : Nat} {M : MB} {as : List Value} {μ μ' P : MMe} {r : Option Value} (hc : mCall d M as μ r μ') (hl : μ'.length = μ.length) (hn : P.length = n) : mCall d M (as.map (cV (fun i => i + n))) (P ++ μ.map (cE (fun i => i + n) (fun t => t))) (r.map (cV (fun i => i + n))) (P ++ μ'.map (cE (fun i => i + n) (fun t => t))) := by
  refine hc.frame (fun i => i + n) _ _ hl (by rw [List.length_append, List.length_append, List.length_map, List.length_map, hl]) (fun i c h => ?_) (fun i j _ _ h => Nat.add_right_cancel h) (fun i c h => ?_) (fun k hk => ?_)
  · rw [List.getElem?_append_right (by omega), List.getElem?_map, hn, Nat.add_sub_cancel, h]
    rfl
  · rw [List.getElem?_append_right (by omega), List.getElem?_map, hn, Nat.add_sub_cancel, h]
    rfl
  · by_cases h : k < n
    · rw [List.getElem?_append_left (by omega), List.getElem?_append_left (by omega)]
    · have hk2 : μ.length ≤ k - n := Nat.le_of_not_lt (fun q => hk (k - n) q (by omega))
      rw [List.getElem?_append_right (by omega), List.getElem?_append_right (by omega), List.getElem?_map, List.getElem?_map, List.getElem?_eq_none (by omega), List.getElem?_eq_none (by omega)]
theorem memR_len (r : RouS) : (memR r).length = 68 := rfl
theorem memM_len (m : ModS) : (memM m).length = 6 := rfl
theorem law_R {d : Nat} {M : MB} {as : List Value} {s s' : RouS} {m : ModS} {r : Option Value} (hc : mCall d M as (memR s) r (memR s')) : mCall d M as (memL s m) r (memL s' m) := hc.app rfl
theorem law_M {d : Nat} {M : MB} {as : List Value} {s : RouS} {m m' : ModS} {r : Option Value} (hc : mCall d M as (memM m) r (memM m')) : mCall d M (as.map (cV (fun i => i + 68))) (memL s m) (r.map (cV (fun i => i + 68))) (memL s m') := hc.pre rfl rfl
def zL (i : Nat) : List (Option Value) := [some (.ref 1000000), some (.ref 0), some (.ref 68), some (.int (nI i))]
theorem inb_nI {j n : Nat} (h : j < n) (hn : n < 2147483648) : inb (nI j) n = true := by
  unfold inb
  rw [nI_clamp (by omega)]
  simp only [Bool.and_eq_true, Bool.not_eq_true', decide_eq_false_iff_not, Nat.blt_eq]
  exact ⟨nI_pos (by omega), h⟩
section LAW
variable {L : Nat} {xs : Nat → Int32} {i B : Nat} {r : RouS} {m : ModS} {v : Option Value} {μ μ' : MMe} {pc : Nat} {cd : List MEn} {st : List Value}
/-- an int of the script comes upon the stack -/
theorem law_arg {kz : Int} {k : Nat} (hk : mC kz = nI k) (hi : i + k < L) (hL : L ≤ 2560) (E : mEv 10 m_L_law (some (L, xs)) (pc + 1 + 1 + 1 + 1 + 1, cd, zL i, .int (xs (i + k)) :: st, μ) v μ') : mEv 10 m_L_law (some (L, xs)) (pc, (.aload_n 0, 1, 0, 0) :: (.iload_n 3, 1, 0, 0) :: (.iconst kz, 1, 0, 0) :: (.iadd, 1, 0, 0) :: (.iaload, 1, 0, 0) :: cd, zL i, st, μ) v μ' := by
  refine mEv.stp 4 (S' := (pc + 1 + 1 + 1 + 1, (.iaload, 1, 0, 0) :: cd, zL i, .int (nI i + mC kz) :: .ref 1000000 :: st, μ)) rfl ?_
  rw [hk, q_add]
  refine mEv.sld (inb_nI hi (by omega)) ?_
  rw [q_cl (by omega)]
  exact E
theorem law_sw {x w : Int32} {t df : Nat} {ps : List (Int32 × Nat)} {z : List (Option Value)} {scr : Option (Nat × (Nat → Int32))} (E1 : x = w → ∃ μ', mEv 10 m_L_law scr (t, [], z, st, μ) v μ') (E2 : ¬ x = w → ∃ μ', mEv 10 m_L_law scr (mSw x ps df, [], z, st, μ) v μ') : ∃ μ', mEv 10 m_L_law scr (mSw x ((w, t) :: ps) df, [], z, st, μ) v μ' := by
  show ∃ μ', mEv 10 m_L_law scr ((if x = w then t else mSw x ps df), [], z, st, μ) v μ'
  by_cases hg : x = w
  · rw [if_pos hg]; exact E1 hg
  · rw [if_neg hg]; exact E2 hg
theorem cmp_self (q : Int64) : lg_cmp q q = nI 0 := by
  unfold lg_cmp
  simp [nI_0]
theorem lc_towns (hi : i + 5 ≤ L) (hL : L ≤ 2560) (hB : B + 140000 < 1073741824) (h : TR B r m) (K : ∀ r' m', TR (B + 120000) r' m' → ∃ μ', mEv 10 m_L_law (some (L, xs)) (824, [], zL i, [], memL r' m') (some (.int (nI 1))) μ') : ∃ μ', mEv 10 m_L_law (some (L, xs)) (148, [], zL i, [], memL r m) (some (.int (nI 1))) μ' := by
  obtain ⟨N, len, ns, L0, ln, T, hp⟩ := h
  obtain ⟨v, r1, m1, e1, e2, h1⟩ := op_towns hp (xs (i + 1))
  obtain ⟨μ', E⟩ := K r1 m1 (h1.mono (by omega))
  refine ⟨μ', ?_⟩
  refine mEv.stp 2 (S' := (149, _, zL i, [.ref 0], memL r m)) rfl ?_
  refine law_arg (k := 1) rfl (by omega) hL ?_
  refine mEv.callV (d := 9) (As := [.int (xs (i + 1))]) (st := []) (h := 0) (r := some (.int v)) (μ1 := memL r1 m) lk_L_13 rfl rfl rfl rfl rfl (law_R (A_X2_towns (d := 6) e1)) ?_
  refine mEv.stp 1 (S' := (158, _, zL i, [.ref 68, .int v], memL r1 m)) rfl ?_
  refine law_arg (k := 1) rfl (by omega) hL ?_
  refine mEv.callV (d := 9) (As := [.int (xs (i + 1))]) (st := [.int v]) (h := 68) (r := some (.int v)) (μ1 := memL r1 m1) lk_L_17 rfl rfl rfl rfl rfl (law_M (A_X3_towns (d := 8) e2)) ?_
  exact mEv.br 1 (S1 := (824, [], zL i, [], memL r1 m1)) (S2 := (169, _, zL i, [], memL r1 m1)) rfl (fun _ => E) (fun c => absurd rfl c)
theorem lc_link (hi : i + 5 ≤ L) (hL : L ≤ 2560) (hB : B + 140000 < 1073741824) (h : TR B r m) (K : ∀ r' m', TR (B + 120000) r' m' → ∃ μ', mEv 10 m_L_law (some (L, xs)) (824, [], zL i, [], memL r' m') (some (.int (nI 1))) μ') : ∃ μ', mEv 10 m_L_law (some (L, xs)) (171, [], zL i, [], memL r m) (some (.int (nI 1))) μ' := by
  obtain ⟨N, len, ns, L0, ln, T, hp⟩ := h
  obtain ⟨v, r1, m1, e1, e2, h1⟩ := op_link hp (xs (i + 1)) (xs (i + 2)) (xs (i + 3)) (xs (i + 4))
  obtain ⟨μ', E⟩ := K r1 m1 (h1.mono (by omega))
  refine ⟨μ', ?_⟩
  refine mEv.stp 2 (S' := (172, _, zL i, [.ref 0], memL r m)) rfl ?_
  refine law_arg (k := 1) rfl (by omega) hL ?_
  refine law_arg (k := 2) rfl (by omega) hL ?_
  refine law_arg (k := 3) rfl (by omega) hL ?_
  refine law_arg (k := 4) rfl (by omega) hL ?_
  refine mEv.callV (d := 9) (As := [.int (xs (i + 1)), .int (xs (i + 2)), .int (xs (i + 3)), .int (xs (i + 4))]) (st := []) (h := 0) (r := some (.int v)) (μ1 := memL r1 m) lk_L_18 rfl rfl rfl rfl rfl (law_R (A_X2_link (d := 6) e1)) ?_
  refine mEv.stp 1 (S' := (196, _, zL i, [.ref 68, .int v], memL r1 m)) rfl ?_
  refine law_arg (k := 1) rfl (by omega) hL ?_
  refine law_arg (k := 2) rfl (by omega) hL ?_
  refine law_arg (k := 3) rfl (by omega) hL ?_
  refine law_arg (k := 4) rfl (by omega) hL ?_
  refine mEv.callV (d := 9) (As := [.int (xs (i + 1)), .int (xs (i + 2)), .int (xs (i + 3)), .int (xs (i + 4))]) (st := [.int v]) (h := 68) (r := some (.int v)) (μ1 := memL r1 m1) lk_L_22 rfl rfl rfl rfl rfl (law_M (A_X3_link (d := 6) e2)) ?_
  exact mEv.br 1 (S1 := (824, [], zL i, [], memL r1 m1)) (S2 := (222, _, zL i, [], memL r1 m1)) rfl (fun _ => E) (fun c => absurd rfl c)
theorem lc_links (hi : i + 5 ≤ L) (hL : L ≤ 2560) (hB : B + 140000 < 1073741824) (h : TR B r m) (K : ∀ r' m', TR (B + 120000) r' m' → ∃ μ', mEv 10 m_L_law (some (L, xs)) (824, [], zL i, [], memL r' m') (some (.int (nI 1))) μ') : ∃ μ', mEv 10 m_L_law (some (L, xs)) (224, [], zL i, [], memL r m) (some (.int (nI 1))) μ' := by
  obtain ⟨N, len, ns, L0, ln, T, hp⟩ := h
  obtain ⟨v, r1, m1, e1, e2, h1⟩ := op_links hp (xs (i + 1)) (xs (i + 2))
  obtain ⟨μ', E⟩ := K r1 m1 (h1.mono (by omega))
  refine ⟨μ', ?_⟩
  refine mEv.stp 2 (S' := (225, _, zL i, [.ref 0], memL r m)) rfl ?_
  refine law_arg (k := 1) rfl (by omega) hL ?_
  refine law_arg (k := 2) rfl (by omega) hL ?_
  refine mEv.callV (d := 9) (As := [.int (xs (i + 1)), .int (xs (i + 2))]) (st := []) (h := 0) (r := some (.int v)) (μ1 := memL r1 m) lk_L_23 rfl rfl rfl rfl rfl (law_R (A_X2_links (d := 6) e1)) ?_
  refine mEv.stp 1 (S' := (239, _, zL i, [.ref 68, .int v], memL r1 m)) rfl ?_
  refine law_arg (k := 1) rfl (by omega) hL ?_
  refine law_arg (k := 2) rfl (by omega) hL ?_
  refine mEv.callV (d := 9) (As := [.int (xs (i + 1)), .int (xs (i + 2))]) (st := [.int v]) (h := 68) (r := some (.int v)) (μ1 := memL r1 m1) lk_L_27 rfl rfl rfl rfl rfl (law_M (A_X3_links (d := 8) e2)) ?_
  exact mEv.br 1 (S1 := (824, [], zL i, [], memL r1 m1)) (S2 := (255, _, zL i, [], memL r1 m1)) rfl (fun _ => E) (fun c => absurd rfl c)
theorem lc_back (hi : i + 5 ≤ L) (hL : L ≤ 2560) (hB : B + 140000 < 1073741824) (h : TR B r m) (K : ∀ r' m', TR (B + 120000) r' m' → ∃ μ', mEv 10 m_L_law (some (L, xs)) (824, [], zL i, [], memL r' m') (some (.int (nI 1))) μ') : ∃ μ', mEv 10 m_L_law (some (L, xs)) (257, [], zL i, [], memL r m) (some (.int (nI 1))) μ' := by
  obtain ⟨N, len, ns, L0, ln, T, hp⟩ := h
  obtain ⟨v, r1, m1, e1, e2, h1⟩ := op_back hp (xs (i + 1))
  obtain ⟨μ', E⟩ := K r1 m1 (h1.mono (by omega))
  refine ⟨μ', ?_⟩
  refine mEv.stp 2 (S' := (258, _, zL i, [.ref 0], memL r m)) rfl ?_
  refine law_arg (k := 1) rfl (by omega) hL ?_
  refine mEv.callV (d := 9) (As := [.int (xs (i + 1))]) (st := []) (h := 0) (r := some (.int v)) (μ1 := memL r1 m) lk_L_28 rfl rfl rfl rfl rfl (law_R (A_X2_back (d := 6) e1)) ?_
  refine mEv.stp 1 (S' := (267, _, zL i, [.ref 68, .int v], memL r1 m)) rfl ?_
  refine law_arg (k := 1) rfl (by omega) hL ?_
  refine mEv.callV (d := 9) (As := [.int (xs (i + 1))]) (st := [.int v]) (h := 68) (r := some (.int v)) (μ1 := memL r1 m1) lk_L_31 rfl rfl rfl rfl rfl (law_M (A_X3_back (d := 8) e2)) ?_
  exact mEv.br 1 (S1 := (824, [], zL i, [], memL r1 m1)) (S2 := (278, _, zL i, [], memL r1 m1)) rfl (fun _ => E) (fun c => absurd rfl c)
theorem lc_load (hi : i + 5 ≤ L) (hL : L ≤ 2560) (hB : B + 140000 < 1073741824) (h : TR B r m) (K : ∀ r' m', TR (B + 120000) r' m' → ∃ μ', mEv 10 m_L_law (some (L, xs)) (824, [], zL i, [], memL r' m') (some (.int (nI 1))) μ') : ∃ μ', mEv 10 m_L_law (some (L, xs)) (280, [], zL i, [], memL r m) (some (.int (nI 1))) μ' := by
  obtain ⟨N, len, ns, L0, ln, T, hp⟩ := h
  obtain ⟨v, r1, m1, e1, e2, h1⟩ := op_load hp (xs (i + 1)) (xs (i + 2))
  obtain ⟨μ', E⟩ := K r1 m1 (h1.mono (by omega))
  refine ⟨μ', ?_⟩
  refine mEv.stp 2 (S' := (281, _, zL i, [.ref 0], memL r m)) rfl ?_
  refine law_arg (k := 1) rfl (by omega) hL ?_
  refine law_arg (k := 2) rfl (by omega) hL ?_
  refine mEv.callV (d := 9) (As := [.int (xs (i + 1)), .int (xs (i + 2))]) (st := []) (h := 0) (r := some (.int v)) (μ1 := memL r1 m) lk_L_32 rfl rfl rfl rfl rfl (law_R (A_X2_load (d := 6) e1)) ?_
  refine mEv.stp 1 (S' := (295, _, zL i, [.ref 68, .int v], memL r1 m)) rfl ?_
  refine law_arg (k := 1) rfl (by omega) hL ?_
  refine law_arg (k := 2) rfl (by omega) hL ?_
  refine mEv.callV (d := 9) (As := [.int (xs (i + 1)), .int (xs (i + 2))]) (st := [.int v]) (h := 68) (r := some (.int v)) (μ1 := memL r1 m1) lk_L_35 rfl rfl rfl rfl rfl (law_M (A_X3_load (d := 8) e2)) ?_
  exact mEv.br 1 (S1 := (824, [], zL i, [], memL r1 m1)) (S2 := (311, _, zL i, [], memL r1 m1)) rfl (fun _ => E) (fun c => absurd rfl c)
theorem lc_seed (hi : i + 5 ≤ L) (hL : L ≤ 2560) (hB : B + 140000 < 1073741824) (h : TR B r m) (K : ∀ r' m', TR (B + 120000) r' m' → ∃ μ', mEv 10 m_L_law (some (L, xs)) (824, [], zL i, [], memL r' m') (some (.int (nI 1))) μ') : ∃ μ', mEv 10 m_L_law (some (L, xs)) (313, [], zL i, [], memL r m) (some (.int (nI 1))) μ' := by
  obtain ⟨N, len, ns, L0, ln, T, hp⟩ := h
  obtain ⟨v, r1, m1, e1, e2, h1⟩ := op_seed hp (xs (i + 1))
  obtain ⟨μ', E⟩ := K r1 m1 (h1.mono (by omega))
  refine ⟨μ', ?_⟩
  refine mEv.stp 2 (S' := (314, _, zL i, [.ref 0], memL r m)) rfl ?_
  refine law_arg (k := 1) rfl (by omega) hL ?_
  refine mEv.callV (d := 9) (As := [.int (xs (i + 1))]) (st := []) (h := 0) (r := some (.int v)) (μ1 := memL r1 m) lk_L_36 rfl rfl rfl rfl rfl (law_R (A_X2_seed (d := 6) e1)) ?_
  refine mEv.stp 1 (S' := (323, _, zL i, [.ref 68, .int v], memL r1 m)) rfl ?_
  refine law_arg (k := 1) rfl (by omega) hL ?_
  refine mEv.callV (d := 9) (As := [.int (xs (i + 1))]) (st := [.int v]) (h := 68) (r := some (.int v)) (μ1 := memL r1 m1) lk_L_39 rfl rfl rfl rfl rfl (law_M (A_X3_seed (d := 8) e2)) ?_
  exact mEv.br 1 (S1 := (824, [], zL i, [], memL r1 m1)) (S2 := (334, _, zL i, [], memL r1 m1)) rfl (fun _ => E) (fun c => absurd rfl c)
theorem lc_of (hi : i + 5 ≤ L) (hL : L ≤ 2560) (hB : B + 140000 < 1073741824) (h : TR B r m) (K : ∀ r' m', TR (B + 120000) r' m' → ∃ μ', mEv 10 m_L_law (some (L, xs)) (824, [], zL i, [], memL r' m') (some (.int (nI 1))) μ') : ∃ μ', mEv 10 m_L_law (some (L, xs)) (336, [], zL i, [], memL r m) (some (.int (nI 1))) μ' := by
  obtain ⟨N, len, ns, L0, ln, T, hp⟩ := h
  obtain ⟨v, r1, m1, e1, e2, h1⟩ := op_of (by omega) hp (xs (i + 1)) (xs (i + 2)) (xs (i + 3))
  obtain ⟨μ', E⟩ := K r1 m1 (h1.mono (by omega))
  refine ⟨μ', ?_⟩
  refine mEv.stp 2 (S' := (337, _, zL i, [.ref 0], memL r m)) rfl ?_
  refine law_arg (k := 1) rfl (by omega) hL ?_
  refine law_arg (k := 2) rfl (by omega) hL ?_
  refine law_arg (k := 3) rfl (by omega) hL ?_
  refine mEv.callV (d := 9) (As := [.int (xs (i + 1)), .int (xs (i + 2)), .int (xs (i + 3))]) (st := []) (h := 0) (r := some (.int v)) (μ1 := memL r1 m) lk_L_40 rfl rfl rfl rfl rfl (law_R (A_X2_of (d := 7) e1)) ?_
  refine mEv.stp 1 (S' := (356, _, zL i, [.ref 68, .int v], memL r1 m)) rfl ?_
  refine law_arg (k := 1) rfl (by omega) hL ?_
  refine law_arg (k := 2) rfl (by omega) hL ?_
  refine law_arg (k := 3) rfl (by omega) hL ?_
  refine mEv.callV (d := 9) (As := [.int (xs (i + 1)), .int (xs (i + 2)), .int (xs (i + 3))]) (st := [.int v]) (h := 68) (r := some (.int v)) (μ1 := memL r1 m1) lk_L_44 rfl rfl rfl rfl rfl (law_M (A_X3_of (d := 6) e2)) ?_
  exact mEv.br 1 (S1 := (824, [], zL i, [], memL r1 m1)) (S2 := (377, _, zL i, [], memL r1 m1)) rfl (fun _ => E) (fun c => absurd rfl c)
theorem lc_sticky (hi : i + 5 ≤ L) (hL : L ≤ 2560) (hB : B + 140000 < 1073741824) (h : TR B r m) (K : ∀ r' m', TR (B + 120000) r' m' → ∃ μ', mEv 10 m_L_law (some (L, xs)) (824, [], zL i, [], memL r' m') (some (.int (nI 1))) μ') : ∃ μ', mEv 10 m_L_law (some (L, xs)) (379, [], zL i, [], memL r m) (some (.int (nI 1))) μ' := by
  obtain ⟨N, len, ns, L0, ln, T, hp⟩ := h
  obtain ⟨v, r1, m1, e1, e2, h1⟩ := op_sticky hp (xs (i + 1)) (xs (i + 2))
  obtain ⟨μ', E⟩ := K r1 m1 (h1.mono (by omega))
  refine ⟨μ', ?_⟩
  refine mEv.stp 2 (S' := (380, _, zL i, [.ref 0], memL r m)) rfl ?_
  refine law_arg (k := 1) rfl (by omega) hL ?_
  refine law_arg (k := 2) rfl (by omega) hL ?_
  refine mEv.callV (d := 9) (As := [.int (xs (i + 1)), .int (xs (i + 2))]) (st := []) (h := 0) (r := some (.int v)) (μ1 := memL r1 m) lk_L_45 rfl rfl rfl rfl rfl (law_R (A_X2_sticky (d := 7) e1)) ?_
  refine mEv.stp 1 (S' := (394, _, zL i, [.ref 68, .int v], memL r1 m)) rfl ?_
  refine law_arg (k := 1) rfl (by omega) hL ?_
  refine law_arg (k := 2) rfl (by omega) hL ?_
  refine mEv.callV (d := 9) (As := [.int (xs (i + 1)), .int (xs (i + 2))]) (st := [.int v]) (h := 68) (r := some (.int v)) (μ1 := memL r1 m1) lk_L_48 rfl rfl rfl rfl rfl (law_M (A_X3_sticky (d := 6) e2)) ?_
  exact mEv.br 1 (S1 := (824, [], zL i, [], memL r1 m1)) (S2 := (410, _, zL i, [], memL r1 m1)) rfl (fun _ => E) (fun c => absurd rfl c)
theorem lc_call (hi : i + 5 ≤ L) (hL : L ≤ 2560) (hB : B + 140000 < 1073741824) (h : TR B r m) (K : ∀ r' m', TR (B + 120000) r' m' → ∃ μ', mEv 10 m_L_law (some (L, xs)) (824, [], zL i, [], memL r' m') (some (.int (nI 1))) μ') : ∃ μ', mEv 10 m_L_law (some (L, xs)) (412, [], zL i, [], memL r m) (some (.int (nI 1))) μ' := by
  obtain ⟨N, len, ns, L0, ln, T, hp⟩ := h
  obtain ⟨v, r1, m1, e1, e2, h1⟩ := op_call (by omega) hp (xs (i + 1)) (xs (i + 2)) (xs (i + 3))
  obtain ⟨μ', E⟩ := K r1 m1 (h1.mono (by omega))
  refine ⟨μ', ?_⟩
  refine mEv.stp 2 (S' := (413, _, zL i, [.ref 0], memL r m)) rfl ?_
  refine law_arg (k := 1) rfl (by omega) hL ?_
  refine law_arg (k := 2) rfl (by omega) hL ?_
  refine law_arg (k := 3) rfl (by omega) hL ?_
  refine mEv.callV (d := 9) (As := [.int (xs (i + 1)), .int (xs (i + 2)), .int (xs (i + 3))]) (st := []) (h := 0) (r := some (.int v)) (μ1 := memL r1 m) lk_L_49 rfl rfl rfl rfl rfl (law_R (A_X2_call (d := 6) e1)) ?_
  refine mEv.stp 1 (S' := (432, _, zL i, [.ref 68, .int v], memL r1 m)) rfl ?_
  refine law_arg (k := 1) rfl (by omega) hL ?_
  refine law_arg (k := 2) rfl (by omega) hL ?_
  refine law_arg (k := 3) rfl (by omega) hL ?_
  refine mEv.callV (d := 9) (As := [.int (xs (i + 1)), .int (xs (i + 2)), .int (xs (i + 3))]) (st := [.int v]) (h := 68) (r := some (.int v)) (μ1 := memL r1 m1) lk_L_52 rfl rfl rfl rfl rfl (law_M (A_X3_call (d := 4) e2)) ?_
  exact mEv.br 1 (S1 := (824, [], zL i, [], memL r1 m1)) (S2 := (453, _, zL i, [], memL r1 m1)) rfl (fun _ => E) (fun c => absurd rfl c)
theorem lc_hours (hi : i + 5 ≤ L) (hL : L ≤ 2560) (hB : B + 140000 < 1073741824) (h : TR B r m) (K : ∀ r' m', TR (B + 120000) r' m' → ∃ μ', mEv 10 m_L_law (some (L, xs)) (824, [], zL i, [], memL r' m') (some (.int (nI 1))) μ') : ∃ μ', mEv 10 m_L_law (some (L, xs)) (455, [], zL i, [], memL r m) (some (.int (nI 1))) μ' := by
  obtain ⟨N, len, ns, L0, ln, T, hp⟩ := h
  obtain ⟨v, r1, m1, e1, e2, h1⟩ := op_hours (by omega) hp (xs (i + 1))
  obtain ⟨μ', E⟩ := K r1 m1 (h1.mono (by omega))
  refine ⟨μ', ?_⟩
  refine mEv.stp 2 (S' := (456, _, zL i, [.ref 0], memL r m)) rfl ?_
  refine law_arg (k := 1) rfl (by omega) hL ?_
  refine mEv.callV (d := 9) (As := [.int (xs (i + 1))]) (st := []) (h := 0) (r := some (.int v)) (μ1 := memL r1 m) lk_L_53 rfl rfl rfl rfl rfl (law_R (A_X2_hours (d := 4) e1)) ?_
  refine mEv.stp 1 (S' := (465, _, zL i, [.ref 68, .int v], memL r1 m)) rfl ?_
  refine law_arg (k := 1) rfl (by omega) hL ?_
  refine mEv.callV (d := 9) (As := [.int (xs (i + 1))]) (st := [.int v]) (h := 68) (r := some (.int v)) (μ1 := memL r1 m1) lk_L_56 rfl rfl rfl rfl rfl (law_M (A_X3_hours (d := 3) e2)) ?_
  exact mEv.br 1 (S1 := (824, [], zL i, [], memL r1 m1)) (S2 := (476, _, zL i, [], memL r1 m1)) rfl (fun _ => E) (fun c => absurd rfl c)
theorem lc_going (hi : i + 5 ≤ L) (hL : L ≤ 2560) (hB : B + 140000 < 1073741824) (h : TR B r m) (K : ∀ r' m', TR (B + 120000) r' m' → ∃ μ', mEv 10 m_L_law (some (L, xs)) (824, [], zL i, [], memL r' m') (some (.int (nI 1))) μ') : ∃ μ', mEv 10 m_L_law (some (L, xs)) (478, [], zL i, [], memL r m) (some (.int (nI 1))) μ' := by
  obtain ⟨N, len, ns, L0, ln, T, hp⟩ := h
  obtain ⟨v, r1, m1, e1, e2, h1⟩ := op_going hp (xs (i + 1)) (xs (i + 2))
  obtain ⟨μ', E⟩ := K r1 m1 (h1.mono (by omega))
  refine ⟨μ', ?_⟩
  refine mEv.stp 2 (S' := (479, _, zL i, [.ref 0], memL r m)) rfl ?_
  refine law_arg (k := 1) rfl (by omega) hL ?_
  refine law_arg (k := 2) rfl (by omega) hL ?_
  refine mEv.callV (d := 9) (As := [.int (xs (i + 1)), .int (xs (i + 2))]) (st := []) (h := 0) (r := some (.int v)) (μ1 := memL r1 m) lk_L_57 rfl rfl rfl rfl rfl (law_R (A_X2_going (d := 8) e1)) ?_
  refine mEv.stp 1 (S' := (493, _, zL i, [.ref 68, .int v], memL r1 m)) rfl ?_
  refine law_arg (k := 1) rfl (by omega) hL ?_
  refine law_arg (k := 2) rfl (by omega) hL ?_
  refine mEv.callV (d := 9) (As := [.int (xs (i + 1)), .int (xs (i + 2))]) (st := [.int v]) (h := 68) (r := some (.int v)) (μ1 := memL r1 m1) lk_L_60 rfl rfl rfl rfl rfl (law_M (A_X3_going (d := 8) e2)) ?_
  exact mEv.br 1 (S1 := (824, [], zL i, [], memL r1 m1)) (S2 := (509, _, zL i, [], memL r1 m1)) rfl (fun _ => E) (fun c => absurd rfl c)
theorem lc_ends (hi : i + 5 ≤ L) (hL : L ≤ 2560) (hB : B + 140000 < 1073741824) (h : TR B r m) (K : ∀ r' m', TR (B + 120000) r' m' → ∃ μ', mEv 10 m_L_law (some (L, xs)) (824, [], zL i, [], memL r' m') (some (.int (nI 1))) μ') : ∃ μ', mEv 10 m_L_law (some (L, xs)) (511, [], zL i, [], memL r m) (some (.int (nI 1))) μ' := by
  obtain ⟨N, len, ns, L0, ln, T, hp⟩ := h
  obtain ⟨v, r1, m1, e1, e2, h1⟩ := op_ends hp (xs (i + 1))
  obtain ⟨μ', E⟩ := K r1 m1 (h1.mono (by omega))
  refine ⟨μ', ?_⟩
  refine mEv.stp 2 (S' := (512, _, zL i, [.ref 0], memL r m)) rfl ?_
  refine law_arg (k := 1) rfl (by omega) hL ?_
  refine mEv.callV (d := 9) (As := [.int (xs (i + 1))]) (st := []) (h := 0) (r := some (.int v)) (μ1 := memL r1 m) lk_L_61 rfl rfl rfl rfl rfl (law_R (A_X2_ends (d := 6) e1)) ?_
  refine mEv.stp 1 (S' := (521, _, zL i, [.ref 68, .int v], memL r1 m)) rfl ?_
  refine law_arg (k := 1) rfl (by omega) hL ?_
  refine mEv.callV (d := 9) (As := [.int (xs (i + 1))]) (st := [.int v]) (h := 68) (r := some (.int v)) (μ1 := memL r1 m1) lk_L_64 rfl rfl rfl rfl rfl (law_M (A_X3_ends (d := 8) e2)) ?_
  exact mEv.br 1 (S1 := (824, [], zL i, [], memL r1 m1)) (S2 := (532, _, zL i, [], memL r1 m1)) rfl (fun _ => E) (fun c => absurd rfl c)
theorem lc_all (hi : i + 5 ≤ L) (hL : L ≤ 2560) (hB : B + 140000 < 1073741824) (h : TR B r m) (K : ∀ r' m', TR (B + 120000) r' m' → ∃ μ', mEv 10 m_L_law (some (L, xs)) (824, [], zL i, [], memL r' m') (some (.int (nI 1))) μ') : ∃ μ', mEv 10 m_L_law (some (L, xs)) (534, [], zL i, [], memL r m) (some (.int (nI 1))) μ' := by
  obtain ⟨N, len, ns, L0, ln, T, hp⟩ := h
  obtain ⟨v, r1, m1, e1, e2, h1⟩ := op_all hp (xs (i + 1))
  obtain ⟨μ', E⟩ := K r1 m1 (h1.mono (by omega))
  refine ⟨μ', ?_⟩
  refine mEv.stp 2 (S' := (535, _, zL i, [.ref 0], memL r m)) rfl ?_
  refine law_arg (k := 1) rfl (by omega) hL ?_
  refine mEv.callV (d := 9) (As := [.int (xs (i + 1))]) (st := []) (h := 0) (r := some (.int v)) (μ1 := memL r1 m) lk_L_65 rfl rfl rfl rfl rfl (law_R (A_X2_all (d := 8) e1)) ?_
  refine mEv.stp 1 (S' := (544, _, zL i, [.ref 68, .int v], memL r1 m)) rfl ?_
  refine law_arg (k := 1) rfl (by omega) hL ?_
  refine mEv.callV (d := 9) (As := [.int (xs (i + 1))]) (st := [.int v]) (h := 68) (r := some (.int v)) (μ1 := memL r1 m1) lk_L_68 rfl rfl rfl rfl rfl (law_M (A_X3_all (d := 8) e2)) ?_
  exact mEv.br 1 (S1 := (824, [], zL i, [], memL r1 m1)) (S2 := (555, _, zL i, [], memL r1 m1)) rfl (fun _ => E) (fun c => absurd rfl c)
theorem lc_pair (hi : i + 5 ≤ L) (hL : L ≤ 2560) (hB : B + 140000 < 1073741824) (h : TR B r m) (K : ∀ r' m', TR (B + 120000) r' m' → ∃ μ', mEv 10 m_L_law (some (L, xs)) (824, [], zL i, [], memL r' m') (some (.int (nI 1))) μ') : ∃ μ', mEv 10 m_L_law (some (L, xs)) (557, [], zL i, [], memL r m) (some (.int (nI 1))) μ' := by
  obtain ⟨N, len, ns, L0, ln, T, hp⟩ := h
  obtain ⟨v, r1, m1, e1, e2, h1⟩ := op_pair hp (xs (i + 1)) (xs (i + 2)) (xs (i + 3))
  obtain ⟨μ', E⟩ := K r1 m1 (h1.mono (by omega))
  refine ⟨μ', ?_⟩
  refine mEv.stp 2 (S' := (558, _, zL i, [.ref 0], memL r m)) rfl ?_
  refine law_arg (k := 1) rfl (by omega) hL ?_
  refine law_arg (k := 2) rfl (by omega) hL ?_
  refine law_arg (k := 3) rfl (by omega) hL ?_
  refine mEv.callV (d := 9) (As := [.int (xs (i + 1)), .int (xs (i + 2)), .int (xs (i + 3))]) (st := []) (h := 0) (r := some (.int v)) (μ1 := memL r1 m) lk_L_69 rfl rfl rfl rfl rfl (law_R (A_X2_pair (d := 7) e1)) ?_
  refine mEv.stp 1 (S' := (577, _, zL i, [.ref 68, .int v], memL r1 m)) rfl ?_
  refine law_arg (k := 1) rfl (by omega) hL ?_
  refine law_arg (k := 2) rfl (by omega) hL ?_
  refine law_arg (k := 3) rfl (by omega) hL ?_
  refine mEv.callV (d := 9) (As := [.int (xs (i + 1)), .int (xs (i + 2)), .int (xs (i + 3))]) (st := [.int v]) (h := 68) (r := some (.int v)) (μ1 := memL r1 m1) lk_L_72 rfl rfl rfl rfl rfl (law_M (A_X3_pair (d := 6) e2)) ?_
  exact mEv.br 1 (S1 := (824, [], zL i, [], memL r1 m1)) (S2 := (598, _, zL i, [], memL r1 m1)) rfl (fun _ => E) (fun c => absurd rfl c)
theorem lc_worst (hi : i + 5 ≤ L) (hL : L ≤ 2560) (hB : B + 140000 < 1073741824) (h : TR B r m) (K : ∀ r' m', TR (B + 120000) r' m' → ∃ μ', mEv 10 m_L_law (some (L, xs)) (824, [], zL i, [], memL r' m') (some (.int (nI 1))) μ') : ∃ μ', mEv 10 m_L_law (some (L, xs)) (600, [], zL i, [], memL r m) (some (.int (nI 1))) μ' := by
  obtain ⟨N, len, ns, L0, ln, T, hp⟩ := h
  obtain ⟨v, r1, m1, e1, e2, h1⟩ := op_worst (by omega) hp (xs (i + 1))
  obtain ⟨μ', E⟩ := K r1 m1 (h1.mono (by omega))
  refine ⟨μ', ?_⟩
  refine mEv.stp 2 (S' := (601, _, zL i, [.ref 0], memL r m)) rfl ?_
  refine law_arg (k := 1) rfl (by omega) hL ?_
  refine mEv.callV (d := 9) (As := [.int (xs (i + 1))]) (st := []) (h := 0) (r := some (.int v)) (μ1 := memL r1 m) lk_L_73 rfl rfl rfl rfl rfl (law_R (A_X2_worst (d := 7) e1)) ?_
  refine mEv.stp 1 (S' := (610, _, zL i, [.ref 68, .int v], memL r1 m)) rfl ?_
  refine law_arg (k := 1) rfl (by omega) hL ?_
  refine mEv.callV (d := 9) (As := [.int (xs (i + 1))]) (st := [.int v]) (h := 68) (r := some (.int v)) (μ1 := memL r1 m1) lk_L_76 rfl rfl rfl rfl rfl (law_M (A_X3_worst (d := 6) e2)) ?_
  exact mEv.br 1 (S1 := (824, [], zL i, [], memL r1 m1)) (S2 := (621, _, zL i, [], memL r1 m1)) rfl (fun _ => E) (fun c => absurd rfl c)
theorem lc_burden (hi : i + 5 ≤ L) (hL : L ≤ 2560) (hB : B + 140000 < 1073741824) (h : TR B r m) (K : ∀ r' m', TR (B + 120000) r' m' → ∃ μ', mEv 10 m_L_law (some (L, xs)) (824, [], zL i, [], memL r' m') (some (.int (nI 1))) μ') : ∃ μ', mEv 10 m_L_law (some (L, xs)) (623, [], zL i, [], memL r m) (some (.int (nI 1))) μ' := by
  obtain ⟨N, len, ns, L0, ln, T, hp⟩ := h
  obtain ⟨v, e1, e2⟩ := op_burden hp
  obtain ⟨μ', E⟩ := K r m (TR.mono (TR.of hp) (by omega))
  refine ⟨μ', ?_⟩
  refine mEv.stp 2 (S' := (624, _, zL i, [.ref 0], memL r m)) rfl ?_
  refine mEv.callV (d := 9) (As := []) (st := []) (h := 0) (r := some (.int v)) (μ1 := memL r m) lk_L_77 rfl rfl rfl rfl rfl (law_R (A_X2_burden (d := 8) e1)) ?_
  refine mEv.stp 1 (S' := (628, _, zL i, [.ref 68, .int v], memL r m)) rfl ?_
  refine mEv.callV (d := 9) (As := []) (st := [.int v]) (h := 68) (r := some (.int v)) (μ1 := memL r m) lk_L_81 rfl rfl rfl rfl rfl (law_M (A_X3_burden (d := 9) e2)) ?_
  exact mEv.br 1 (S1 := (824, [], zL i, [], memL r m)) (S2 := (634, _, zL i, [], memL r m)) rfl (fun _ => E) (fun c => absurd rfl c)
theorem lc_would (hi : i + 5 ≤ L) (hL : L ≤ 2560) (hB : B + 140000 < 1073741824) (h : TR B r m) (K : ∀ r' m', TR (B + 120000) r' m' → ∃ μ', mEv 10 m_L_law (some (L, xs)) (824, [], zL i, [], memL r' m') (some (.int (nI 1))) μ') : ∃ μ', mEv 10 m_L_law (some (L, xs)) (636, [], zL i, [], memL r m) (some (.int (nI 1))) μ' := by
  obtain ⟨N, len, ns, L0, ln, T, hp⟩ := h
  obtain ⟨v, r1, m1, e1, e2, h1⟩ := op_would (by omega) hp (xs (i + 1)) (xs (i + 2))
  obtain ⟨μ', E⟩ := K r1 m1 (h1.mono (by omega))
  refine ⟨μ', ?_⟩
  refine mEv.stp 2 (S' := (637, _, zL i, [.ref 0], memL r m)) rfl ?_
  refine law_arg (k := 1) rfl (by omega) hL ?_
  refine law_arg (k := 2) rfl (by omega) hL ?_
  refine mEv.callV (d := 9) (As := [.int (xs (i + 1)), .int (xs (i + 2))]) (st := []) (h := 0) (r := some (.int v)) (μ1 := memL r1 m) lk_L_82 rfl rfl rfl rfl rfl (law_R (A_X2_would (d := 3) e1)) ?_
  refine mEv.stp 1 (S' := (651, _, zL i, [.ref 68, .int v], memL r1 m)) rfl ?_
  refine law_arg (k := 1) rfl (by omega) hL ?_
  refine law_arg (k := 2) rfl (by omega) hL ?_
  refine mEv.callV (d := 9) (As := [.int (xs (i + 1)), .int (xs (i + 2))]) (st := [.int v]) (h := 68) (r := some (.int v)) (μ1 := memL r1 m1) lk_L_85 rfl rfl rfl rfl rfl (law_M (A_X3_would (d := 2) e2)) ?_
  exact mEv.br 1 (S1 := (824, [], zL i, [], memL r1 m1)) (S2 := (667, _, zL i, [], memL r1 m1)) rfl (fun _ => E) (fun c => absurd rfl c)
theorem lc_best (hi : i + 5 ≤ L) (hL : L ≤ 2560) (hB : B + 140000 < 1073741824) (h : TR B r m) (K : ∀ r' m', TR (B + 120000) r' m' → ∃ μ', mEv 10 m_L_law (some (L, xs)) (824, [], zL i, [], memL r' m') (some (.int (nI 1))) μ') : ∃ μ', mEv 10 m_L_law (some (L, xs)) (669, [], zL i, [], memL r m) (some (.int (nI 1))) μ' := by
  obtain ⟨N, len, ns, L0, ln, T, hp⟩ := h
  obtain ⟨v, r1, m1, e1, e2, h1⟩ := op_best (by omega) hp (xs (i + 1)) (xs (i + 2))
  obtain ⟨μ', E⟩ := K r1 m1 (h1.mono (by omega))
  refine ⟨μ', ?_⟩
  refine mEv.stp 2 (S' := (670, _, zL i, [.ref 0], memL r m)) rfl ?_
  refine law_arg (k := 1) rfl (by omega) hL ?_
  refine law_arg (k := 2) rfl (by omega) hL ?_
  refine mEv.callV (d := 9) (As := [.int (xs (i + 1)), .int (xs (i + 2))]) (st := []) (h := 0) (r := some (.int v)) (μ1 := memL r1 m) lk_L_86 rfl rfl rfl rfl rfl (law_R (A_X2_best (d := 3) e1)) ?_
  refine mEv.stp 1 (S' := (684, _, zL i, [.ref 68, .int v], memL r1 m)) rfl ?_
  refine law_arg (k := 1) rfl (by omega) hL ?_
  refine law_arg (k := 2) rfl (by omega) hL ?_
  refine mEv.callV (d := 9) (As := [.int (xs (i + 1)), .int (xs (i + 2))]) (st := [.int v]) (h := 68) (r := some (.int v)) (μ1 := memL r1 m1) lk_L_89 rfl rfl rfl rfl rfl (law_M (A_X3_best (d := 2) e2)) ?_
  exact mEv.br 1 (S1 := (824, [], zL i, [], memL r1 m1)) (S2 := (700, _, zL i, [], memL r1 m1)) rfl (fun _ => E) (fun c => absurd rfl c)
theorem lc_choked (hi : i + 5 ≤ L) (hL : L ≤ 2560) (hB : B + 140000 < 1073741824) (h : TR B r m) (K : ∀ r' m', TR (B + 120000) r' m' → ∃ μ', mEv 10 m_L_law (some (L, xs)) (824, [], zL i, [], memL r' m') (some (.int (nI 1))) μ') : ∃ μ', mEv 10 m_L_law (some (L, xs)) (702, [], zL i, [], memL r m) (some (.int (nI 1))) μ' := by
  obtain ⟨N, len, ns, L0, ln, T, hp⟩ := h
  obtain ⟨v, r1, m1, e1, e2, h1⟩ := op_choked (by omega) hp (xs (i + 1))
  obtain ⟨μ', E⟩ := K r1 m1 (h1.mono (by omega))
  refine ⟨μ', ?_⟩
  refine mEv.stp 2 (S' := (703, _, zL i, [.ref 0], memL r m)) rfl ?_
  refine law_arg (k := 1) rfl (by omega) hL ?_
  refine mEv.callV (d := 9) (As := [.int (xs (i + 1))]) (st := []) (h := 0) (r := some (.int v)) (μ1 := memL r1 m) lk_L_90 rfl rfl rfl rfl rfl (law_R (A_X2_choked (d := 7) e1)) ?_
  refine mEv.stp 1 (S' := (712, _, zL i, [.ref 68, .int v], memL r1 m)) rfl ?_
  refine law_arg (k := 1) rfl (by omega) hL ?_
  refine mEv.callV (d := 9) (As := [.int (xs (i + 1))]) (st := [.int v]) (h := 68) (r := some (.int v)) (μ1 := memL r1 m1) lk_L_93 rfl rfl rfl rfl rfl (law_M (A_X3_choked (d := 4) e2)) ?_
  exact mEv.br 1 (S1 := (824, [], zL i, [], memL r1 m1)) (S2 := (723, _, zL i, [], memL r1 m1)) rfl (fun _ => E) (fun c => absurd rfl c)
theorem lc_type (hi : i + 5 ≤ L) (hL : L ≤ 2560) (hB : B + 140000 < 1073741824) (h : TR B r m) (K : ∀ r' m', TR (B + 120000) r' m' → ∃ μ', mEv 10 m_L_law (some (L, xs)) (824, [], zL i, [], memL r' m') (some (.int (nI 1))) μ') : ∃ μ', mEv 10 m_L_law (some (L, xs)) (725, [], zL i, [], memL r m) (some (.int (nI 1))) μ' := by
  obtain ⟨N, len, ns, L0, ln, T, hp⟩ := h
  obtain ⟨v, r1, m1, e1, e2, h1⟩ := op_type hp (xs (i + 1))
  obtain ⟨μ', E⟩ := K r1 m1 (h1.mono (by omega))
  refine ⟨μ', ?_⟩
  refine mEv.stp 2 (S' := (726, _, zL i, [.ref 0], memL r m)) rfl ?_
  refine law_arg (k := 1) rfl (by omega) hL ?_
  refine mEv.callV (d := 9) (As := [.int (xs (i + 1))]) (st := []) (h := 0) (r := some (.int v)) (μ1 := memL r1 m) lk_L_94 rfl rfl rfl rfl rfl (law_R (A_X2_type (d := 8) e1)) ?_
  refine mEv.stp 1 (S' := (735, _, zL i, [.ref 68, .int v], memL r1 m)) rfl ?_
  refine law_arg (k := 1) rfl (by omega) hL ?_
  refine mEv.callV (d := 9) (As := [.int (xs (i + 1))]) (st := [.int v]) (h := 68) (r := some (.int v)) (μ1 := memL r1 m1) lk_L_97 rfl rfl rfl rfl rfl (law_M (A_X3_type (d := 8) e2)) ?_
  exact mEv.br 1 (S1 := (824, [], zL i, [], memL r1 m1)) (S2 := (746, _, zL i, [], memL r1 m1)) rfl (fun _ => E) (fun c => absurd rfl c)
theorem lc_clear (hi : i + 5 ≤ L) (hL : L ≤ 2560) (hB : B + 140000 < 1073741824) (h : TR B r m) (K : ∀ r' m', TR (B + 120000) r' m' → ∃ μ', mEv 10 m_L_law (some (L, xs)) (824, [], zL i, [], memL r' m') (some (.int (nI 1))) μ') : ∃ μ', mEv 10 m_L_law (some (L, xs)) (748, [], zL i, [], memL r m) (some (.int (nI 1))) μ' := by
  obtain ⟨N, len, ns, L0, ln, T, hp⟩ := h
  obtain ⟨v, r1, m1, e1, e2, h1⟩ := op_clear hp 
  obtain ⟨μ', E⟩ := K r1 m1 (h1.mono (by omega))
  refine ⟨μ', ?_⟩
  refine mEv.stp 2 (S' := (749, _, zL i, [.ref 0], memL r m)) rfl ?_
  refine mEv.callV (d := 9) (As := []) (st := []) (h := 0) (r := some (.int v)) (μ1 := memL r1 m) lk_L_98 rfl rfl rfl rfl rfl (law_R (A_X2_clear (d := 9) e1)) ?_
  refine mEv.stp 1 (S' := (753, _, zL i, [.ref 68, .int v], memL r1 m)) rfl ?_
  refine mEv.callV (d := 9) (As := []) (st := [.int v]) (h := 68) (r := some (.int v)) (μ1 := memL r1 m1) lk_L_101 rfl rfl rfl rfl rfl (law_M (A_X3_clear (d := 9) e2)) ?_
  exact mEv.br 1 (S1 := (824, [], zL i, [], memL r1 m1)) (S2 := (759, _, zL i, [], memL r1 m1)) rfl (fun _ => E) (fun c => absurd rfl c)
theorem lc_does (hi : i + 5 ≤ L) (hL : L ≤ 2560) (hB : B + 140000 < 1073741824) (h : TR B r m) (K : ∀ r' m', TR (B + 120000) r' m' → ∃ μ', mEv 10 m_L_law (some (L, xs)) (824, [], zL i, [], memL r' m') (some (.int (nI 1))) μ') : ∃ μ', mEv 10 m_L_law (some (L, xs)) (761, [], zL i, [], memL r m) (some (.int (nI 1))) μ' := by
  obtain ⟨N, len, ns, L0, ln, T, hp⟩ := h
  obtain ⟨v, r1, m1, e1, e2, h1⟩ := op_does (by omega) hp 
  obtain ⟨μ', E⟩ := K r1 m1 (h1.mono (by omega))
  refine ⟨μ', ?_⟩
  refine mEv.stp 2 (S' := (762, _, zL i, [.ref 0], memL r m)) rfl ?_
  refine mEv.callV (d := 9) (As := []) (st := []) (h := 0) (r := some (.int v)) (μ1 := memL r1 m) lk_L_102 rfl rfl rfl rfl rfl (law_R (A_X2_does (d := 3) e1)) ?_
  refine mEv.stp 1 (S' := (766, _, zL i, [.ref 68, .int v], memL r1 m)) rfl ?_
  refine mEv.callV (d := 9) (As := []) (st := [.int v]) (h := 68) (r := some (.int v)) (μ1 := memL r1 m1) lk_L_105 rfl rfl rfl rfl rfl (law_M (A_X3_does (d := 3) e2)) ?_
  exact mEv.br 1 (S1 := (824, [], zL i, [], memL r1 m1)) (S2 := (772, _, zL i, [], memL r1 m1)) rfl (fun _ => E) (fun c => absurd rfl c)
theorem lc_undo (hi : i + 5 ≤ L) (hL : L ≤ 2560) (hB : B + 140000 < 1073741824) (h : TR B r m) (K : ∀ r' m', TR (B + 120000) r' m' → ∃ μ', mEv 10 m_L_law (some (L, xs)) (824, [], zL i, [], memL r' m') (some (.int (nI 1))) μ') : ∃ μ', mEv 10 m_L_law (some (L, xs)) (774, [], zL i, [], memL r m) (some (.int (nI 1))) μ' := by
  obtain ⟨N, len, ns, L0, ln, T, hp⟩ := h
  obtain ⟨v, r1, m1, e1, e2, h1⟩ := op_undo hp 
  obtain ⟨μ', E⟩ := K r1 m1 (h1.mono (by omega))
  refine ⟨μ', ?_⟩
  refine mEv.stp 2 (S' := (775, _, zL i, [.ref 0], memL r m)) rfl ?_
  refine mEv.callV (d := 9) (As := []) (st := []) (h := 0) (r := some (.int v)) (μ1 := memL r1 m) lk_L_106 rfl rfl rfl rfl rfl (law_R (A_X2_undo (d := 7) e1)) ?_
  refine mEv.stp 1 (S' := (779, _, zL i, [.ref 68, .int v], memL r1 m)) rfl ?_
  refine mEv.callV (d := 9) (As := []) (st := [.int v]) (h := 68) (r := some (.int v)) (μ1 := memL r1 m1) lk_L_109 rfl rfl rfl rfl rfl (law_M (A_X3_undo (d := 8) e2)) ?_
  exact mEv.br 1 (S1 := (824, [], zL i, [], memL r1 m1)) (S2 := (785, _, zL i, [], memL r1 m1)) rfl (fun _ => E) (fun c => absurd rfl c)
theorem lc_told (hi : i + 5 ≤ L) (hL : L ≤ 2560) (hB : B + 140000 < 1073741824) (h : TR B r m) (K : ∀ r' m', TR (B + 120000) r' m' → ∃ μ', mEv 10 m_L_law (some (L, xs)) (824, [], zL i, [], memL r' m') (some (.int (nI 1))) μ') : ∃ μ', mEv 10 m_L_law (some (L, xs)) (787, [], zL i, [], memL r m) (some (.int (nI 1))) μ' := by
  obtain ⟨N, len, ns, L0, ln, T, hp⟩ := h
  obtain ⟨v, r1, m1, e1, e2, h1⟩ := op_told hp (xs (i + 1))
  obtain ⟨μ', E⟩ := K r1 m1 (h1.mono (by omega))
  refine ⟨μ', ?_⟩
  refine mEv.stp 2 (S' := (788, _, zL i, [.ref 0], memL r m)) rfl ?_
  refine law_arg (k := 1) rfl (by omega) hL ?_
  refine mEv.callV (d := 9) (As := [.int (xs (i + 1))]) (st := []) (h := 0) (r := some (.int v)) (μ1 := memL r1 m) lk_L_110 rfl rfl rfl rfl rfl (law_R (A_X2_told (d := 8) e1)) ?_
  refine mEv.stp 1 (S' := (797, _, zL i, [.ref 68, .int v], memL r1 m)) rfl ?_
  refine law_arg (k := 1) rfl (by omega) hL ?_
  refine mEv.callV (d := 9) (As := [.int (xs (i + 1))]) (st := [.int v]) (h := 68) (r := some (.int v)) (μ1 := memL r1 m1) lk_L_113 rfl rfl rfl rfl rfl (law_M (A_X3_told (d := 8) e2)) ?_
  exact mEv.br 1 (S1 := (824, [], zL i, [], memL r1 m1)) (S2 := (808, _, zL i, [], memL r1 m1)) rfl (fun _ => E) (fun c => absurd rfl c)
theorem lc_digest (hi : i + 5 ≤ L) (hL : L ≤ 2560) (hB : B + 140000 < 1073741824) (h : TR B r m) (K : ∀ r' m', TR (B + 120000) r' m' → ∃ μ', mEv 10 m_L_law (some (L, xs)) (824, [], zL i, [], memL r' m') (some (.int (nI 1))) μ') : ∃ μ', mEv 10 m_L_law (some (L, xs)) (810, [], zL i, [], memL r m) (some (.int (nI 1))) μ' := by
  obtain ⟨N, len, ns, L0, ln, T, hp⟩ := h
  obtain ⟨v, e1, e2⟩ := op_digest (by omega) hp
  obtain ⟨μ', E⟩ := K r m (TR.mono (TR.of hp) (by omega))
  refine ⟨μ', ?_⟩
  refine mEv.stp 2 (S' := (811, _, zL i, [.ref 0], memL r m)) rfl ?_
  refine mEv.callV (d := 9) (As := []) (st := []) (h := 0) (r := some (.long v)) (μ1 := memL r m) lk_L_114 rfl rfl rfl rfl rfl (law_R (A_X2_digest (d := 7) e1)) ?_
  refine mEv.stp 1 (S' := (815, _, zL i, [.ref 68, .long v], memL r m)) rfl ?_
  refine mEv.callV (d := 9) (As := []) (st := [.long v]) (h := 68) (r := some (.long v)) (μ1 := memL r m) lk_L_118 rfl rfl rfl rfl rfl (law_M (A_X3_digest (d := 6) e2)) ?_
  refine mEv.br 2 (g := lg_cmp v v = nI 0) (S1 := (824, [], zL i, [], memL r m)) (S2 := (822, _, zL i, [], memL r m)) rfl (fun _ => E) (fun c => absurd (cmp_self v) c)
set_option maxRecDepth 100000 in
theorem law_loop (hL : L ≤ 2560) : ∀ (k i B : Nat) (r : RouS) (m : ModS), L ≤ i + 5 * k + 4 → i ≤ 2565 → B + 120000 * k + 140000 < 1073741824 → TR B r m → ∃ μ', mEv 10 m_L_law (some (L, xs)) (18, [], zL i, [], memL r m) (some (.int (nI 1))) μ' := by
  have hend : ∀ (i : Nat) (r : RouS) (m : ModS), L < i + 5 → i ≤ 2565 → ∃ μ', mEv 10 m_L_law (some (L, xs)) (18, [], zL i, [], memL r m) (some (.int (nI 1))) μ' := by
    intro i r m h1 h2
    refine ⟨memL r m, ?_⟩
    refine mEv.stp 3 (S' := (20, _, zL i, [.ref 1000000, .int (nI i)], memL r m)) rfl ?_
    refine mEv.slen ?_
    have hc : nI L - nI 5 < nI i := by
      by_cases h5 : L < 5
      · exact i_nlt (q_neglt (by omega) (by omega) h5) (by omega)
      · rw [q_sub (by omega), q_lt (by omega) (by omega)]
        omega
    refine mEv.br 3 (g := nI L - nI 5 < nI i) (S1 := (830, [], zL i, [], memL r m)) (S2 := (26, _, zL i, [], memL r m)) rfl (fun _ => ?_) (fun c => absurd hc c)
    refine mEv.stp 2 (S' := (831, _, zL i, [.int (nI 1)], memL r m)) rfl ?_
    exact mEv.reti ⟨_, rfl, rfl⟩
  intro k
  induction k with
  | zero => intro i B r m h1 h2 h3 h4; exact hend i r m (by omega) h2
  | succ k ih =>
    intro i B r m h1 h2 h3 h4
    by_cases hi : L < i + 5
    · exact hend i r m hi h2
    have hi : i + 5 ≤ L := by omega
    have K : ∀ r' m', TR (B + 120000) r' m' → ∃ μ', mEv 10 m_L_law (some (L, xs)) (824, [], zL i, [], memL r' m') (some (.int (nI 1))) μ' := by
      intro r' m' h'
      obtain ⟨μ', E⟩ := ih (i + 5) (B + 120000) r' m' (by omega) (by omega) (by omega) h'
      refine ⟨μ', mEv.stp 3 (S' := (18, [], [some (.ref 1000000), some (.ref 0), some (.ref 68), some (.int (nI i + nI 5))], [], memL r' m')) rfl ?_⟩
      rw [q_add]
      exact E
    have hB : B + 140000 < 1073741824 := by omega
    have hsw : ∃ μ', mEv 10 m_L_law (some (L, xs)) (mSw (xs i &&& nI 31) [(nI 0, 148), (nI 1, 171), (nI 2, 224), (nI 3, 257), (nI 4, 280), (nI 5, 313), (nI 6, 336), (nI 7, 379), (nI 8, 412), (nI 9, 455), (nI 10, 478), (nI 11, 511), (nI 12, 534), (nI 13, 557), (nI 14, 600), (nI 15, 623), (nI 16, 636), (nI 17, 669), (nI 18, 702), (nI 19, 725), (nI 20, 748), (nI 21, 761), (nI 22, 774), (nI 23, 787), (nI 24, 810)] 824, [], zL i, [], memL r m) (some (.int (nI 1))) μ' := by
      refine law_sw (fun _ => lc_towns hi hL hB h4 K) (fun _ => ?_)
      refine law_sw (fun _ => lc_link hi hL hB h4 K) (fun _ => ?_)
      refine law_sw (fun _ => lc_links hi hL hB h4 K) (fun _ => ?_)
      refine law_sw (fun _ => lc_back hi hL hB h4 K) (fun _ => ?_)
      refine law_sw (fun _ => lc_load hi hL hB h4 K) (fun _ => ?_)
      refine law_sw (fun _ => lc_seed hi hL hB h4 K) (fun _ => ?_)
      refine law_sw (fun _ => lc_of hi hL hB h4 K) (fun _ => ?_)
      refine law_sw (fun _ => lc_sticky hi hL hB h4 K) (fun _ => ?_)
      refine law_sw (fun _ => lc_call hi hL hB h4 K) (fun _ => ?_)
      refine law_sw (fun _ => lc_hours hi hL hB h4 K) (fun _ => ?_)
      refine law_sw (fun _ => lc_going hi hL hB h4 K) (fun _ => ?_)
      refine law_sw (fun _ => lc_ends hi hL hB h4 K) (fun _ => ?_)
      refine law_sw (fun _ => lc_all hi hL hB h4 K) (fun _ => ?_)
      refine law_sw (fun _ => lc_pair hi hL hB h4 K) (fun _ => ?_)
      refine law_sw (fun _ => lc_worst hi hL hB h4 K) (fun _ => ?_)
      refine law_sw (fun _ => lc_burden hi hL hB h4 K) (fun _ => ?_)
      refine law_sw (fun _ => lc_would hi hL hB h4 K) (fun _ => ?_)
      refine law_sw (fun _ => lc_best hi hL hB h4 K) (fun _ => ?_)
      refine law_sw (fun _ => lc_choked hi hL hB h4 K) (fun _ => ?_)
      refine law_sw (fun _ => lc_type hi hL hB h4 K) (fun _ => ?_)
      refine law_sw (fun _ => lc_clear hi hL hB h4 K) (fun _ => ?_)
      refine law_sw (fun _ => lc_does hi hL hB h4 K) (fun _ => ?_)
      refine law_sw (fun _ => lc_undo hi hL hB h4 K) (fun _ => ?_)
      refine law_sw (fun _ => lc_told hi hL hB h4 K) (fun _ => ?_)
      refine law_sw (fun _ => lc_digest hi hL hB h4 K) (fun _ => ?_)
      exact K r m (h4.mono (by omega))
    obtain ⟨μ', E⟩ := hsw
    refine ⟨μ', ?_⟩
    refine mEv.stp 3 (S' := (20, _, zL i, [.ref 1000000, .int (nI i)], memL r m)) rfl ?_
    refine mEv.slen ?_
    have hc : ¬ nI L - nI 5 < nI i := by
      rw [q_sub (by omega), q_lt (by omega) (by omega)]
      omega
    refine mEv.br 3 (g := nI L - nI 5 < nI i) (S1 := (830, [], zL i, [], memL r m)) (S2 := (26, _, zL i, [], memL r m)) rfl (fun c => absurd c hc) (fun _ => ?_)
    refine mEv.stp 2 (S' := (28, _, zL i, [.int (nI i), .ref 1000000], memL r m)) rfl ?_
    refine mEv.sld (inb_nI (by omega) (by omega)) ?_
    rw [q_cl (by omega)]
    exact mEv.stp 3 (S' := (mSw (xs i &&& nI 31) [(nI 0, 148), (nI 1, 171), (nI 2, 224), (nI 3, 257), (nI 4, 280), (nI 5, 313), (nI 6, 336), (nI 7, 379), (nI 8, 412), (nI 9, 455), (nI 10, 478), (nI 11, 511), (nI 12, 534), (nI 13, 557), (nI 14, 600), (nI 15, 623), (nI 16, 636), (nI 17, 669), (nI 18, 702), (nI 19, 725), (nI 20, 748), (nI 21, 761), (nI 22, 774), (nI 23, 787), (nI 24, 810)] 824, [], zL i, [], memL r m)) rfl E
end LAW
