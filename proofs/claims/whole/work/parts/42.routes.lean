/-! worlds in a row, by their first place -/
def mWo (σ : Nat → Nat) (tA : Nat → ClassId) : Nat → MMe → va_W
  | _, [] => []
  | k, c :: r => (σ k, cE σ tA c) :: mWo σ tA (k + 1) r
theorem mWo_at {σ : Nat → Nat} {tA : Nat → ClassId} : ∀ (μ : MMe) (k i : Nat), (mWo σ tA k μ)[i]? = μ[i]?.map (fun c => (σ (k + i), cE σ tA c))
  | [], k, i => by unfold mWo; rw [List.getElem?_nil, List.getElem?_nil]; rfl
  | c :: r, k, 0 => rfl
  | c :: r, k, i + 1 => by
    unfold mWo
    rw [List.getElem?_cons_succ, List.getElem?_cons_succ, mWo_at r (k + 1) i, show k + 1 + i = k + (i + 1) by omega]
theorem mW_o {σ : Nat → Nat} {tA : Nat → ClassId} {μ : MMe} : mW σ tA μ = mWo σ tA 0 μ := by
  apply List.ext_getElem?
  intro i
  rw [mWo_at]
  unfold mW
  rw [List.getElem?_mapIdx, Nat.zero_add]
theorem mWo_app {σ : Nat → Nat} {tA : Nat → ClassId} : ∀ (a b : MMe) (k : Nat), mWo σ tA k (a ++ b) = mWo σ tA k a ++ mWo σ tA (k + a.length) b
  | [], b, k => rfl
  | c :: r, b, k => by
    show (σ k, cE σ tA c) :: mWo σ tA (k + 1) (r ++ b) = ((σ k, cE σ tA c) :: mWo σ tA (k + 1) r) ++ mWo σ tA (k + (r.length + 1)) b
    rw [mWo_app r b (k + 1), List.cons_append, show k + 1 + r.length = k + (r.length + 1) by omega]
theorem mWo_N {σ ρ : Nat → Nat} {tA : Nat → ClassId} {k : Nat} {n : NetS} (h : ∀ j, j < 9 → σ (k + j) = ρ j) : mWo σ tA k (memNb k n) = mW ρ tA (memN n) := by
  rw [mW_o]
  have h0 : σ k = ρ 0 := h 0 (by omega)
  have h1 : σ (k + 1) = ρ 1 := h 1 (by omega)
  have h2 : σ (k + 2) = ρ 2 := h 2 (by omega)
  have h3 : σ (k + 3) = ρ 3 := h 3 (by omega)
  have h4 : σ (k + 4) = ρ 4 := h 4 (by omega)
  have h5 : σ (k + 5) = ρ 5 := h 5 (by omega)
  have h6 : σ (k + 6) = ρ 6 := h 6 (by omega)
  have h7 : σ (k + 7) = ρ 7 := h 7 (by omega)
  have h8 : σ (k + 8) = ρ 8 := h 8 (by omega)
  show ([(σ k, Sum.inr (0, [.int (gN_tc n), .int (gN_hb n), .int (gN_x n), .int (gN_hg n), .int (gN_cc n), .ref (σ (k + 1)), .ref (σ (k + 2)), .ref (σ (k + 3)), .ref (σ (k + 4)), .ref (σ (k + 5)), .ref (σ (k + 6)), .ref (σ (k + 7)), .ref (σ (k + 8))])), (σ (k + 1), Sum.inl (tA 0, 36, .inl (gN_w n))), (σ (k + 2), Sum.inl (tA 0, 36, .inl (gN_r n))), (σ (k + 3), Sum.inl (tA 0, 36, .inl (gN_hd n))), (σ (k + 4), Sum.inl (tA 0, 36, .inl (gN_st n))), (σ (k + 5), Sum.inl (tA 0, 180, .inl (gN_ct n))), (σ (k + 6), Sum.inl (tA 0, 5, .inl (gN_tt n))), (σ (k + 7), Sum.inl (tA 0, 24, .inl (gN_ld n))), (σ (k + 8), Sum.inl (tA 0, 320, .inl (gN_ca n)))] : va_W) = _
  rw [h0, h1, h2, h3, h4, h5, h6, h7, h8]
  rfl
theorem mWo_T {σ ρ : Nat → Nat} {tA : Nat → ClassId} {k : Nat} {t : TextS} (h : ∀ j, j < 3 → σ (k + j) = ρ j) : mWo σ tA k (memTb k t) = mW ρ tA (memT t) := by
  rw [mW_o]
  have h0 : σ k = ρ 0 := h 0 (by omega)
  have h1 : σ (k + 1) = ρ 1 := h 1 (by omega)
  have h2 : σ (k + 2) = ρ 2 := h 2 (by omega)
  show ([(σ k, Sum.inr (1, [.ref (σ (k + 1)), .ref (σ (k + 2)), .int (gT_ln t), .int (gT_oc t), .int (gT_tn t), .int (gT_pl t), .int (gT_ft t)])), (σ (k + 1), Sum.inl (tA 0, 120, .inl (gT_by t))), (σ (k + 2), Sum.inl (tA 0, 160, .inl (gT_od t)))] : va_W) = _
  rw [h0, h1, h2]
  rfl
/-- the world while the object is made -/
def wX (tA : Nat → ClassId) (h0 : Nat) (o : va_E) (W1 W2 : va_W) (q : Nat) (f : Nat → Option Nat) (W3 : va_W) : va_W := (h0, o) :: ((W1 ++ W2) ++ ((q, .inl (tA 1, 5, .inr (.inr (.inr (.inr f))))) :: W3))
section
variable {tA : Nat → ClassId} {h0 q : Nat} {o o' : va_E} {W1 W2 W3 X : va_W} {f f' : Nat → Option Nat}
theorem wX_app : wX tA h0 o W1 W2 q f W3 ++ X = wX tA h0 o W1 W2 q f (W3 ++ X) := by
  unfold wX
  rw [List.cons_append, List.append_assoc, List.cons_append]
theorem wX_s0 : (wX tA h0 o W1 W2 q f W3).set 0 (h0, o') = wX tA h0 o' W1 W2 q f W3 := rfl
theorem wX_g (h1 : W1.length = 9) (h2 : W2.length = 9) : (wX tA h0 o W1 W2 q f W3)[19]? = some (q, .inl (tA 1, 5, .inr (.inr (.inr (.inr f))))) := by
  unfold wX
  rw [List.getElem?_cons_succ, List.getElem?_append_right (by rw [List.length_append, h1, h2]; omega), List.length_append, h1, h2]
  rfl
theorem wX_s (h1 : W1.length = 9) (h2 : W2.length = 9) : (wX tA h0 o W1 W2 q f W3).set 19 (q, .inl (tA 1, 5, .inr (.inr (.inr (.inr f'))))) = wX tA h0 o W1 W2 q f' W3 := by
  unfold wX
  rw [List.set_cons_succ, List.set_append_right _ _ (by rw [List.length_append, h1, h2]; omega), List.length_append, h1, h2]
  rfl
theorem wX_l (h1 : W1.length = 9) (h2 : W2.length = 9) : (wX tA h0 o W1 W2 q f W3).length = 20 + W3.length := by
  unfold wX
  rw [List.length_cons, List.length_append, List.length_append, h1, h2, List.length_cons]
  omega
theorem wX_h (h1 : W1.length = 9) (h2 : W2.length = 9) : (wX tA h0 o W1 W2 q f (W3 ++ X))[20 + W3.length]? = X[0]? := by
  rw [← wX_app, List.getElem?_append_right (by rw [wX_l h1 h2]; omega), wX_l h1 h2, Nat.sub_self]
end
section ROW
variable {M : MB} {R : Room} {p : Program} {l : Launch} {e : Env} {s : State} {m : MethodId} {args : Array Value} {below : List Frame} {meth : Method} {c : Code} {D : va_G} {tA : Nat → ClassId} {A : Nat → Prop} {H0 H : Heap} {locs : List Loc} {cells slots : Nat} {Q : State → Prop} {pc : Nat} {ls : Array Slot} {rest : List Value} {ws : va_W}
set_option maxHeartbeats 4000000 in
/-- anewarray of nets -/
theorem n_arq (C : nCx M R p s m args c D tA A H0) {idx : Nat} {n : Int32} {N : Nat} (hcl : Cond.classLink M.1.cls idx RX0 ∈ mTt) (hn : ¬ n < 0) (hN : n.toNatClampNeg = N) (hby : N * 4 ≤ 536870912) (hcells : cells + 1 ≤ R.cells) (hslots : slots + N ≤ R.slots) (hdg : decode M.2.1 pc = .ok (.anewarray idx, 3)) (hP : va_P D cls_ ws H) (hD : va_D A ws) (hS : va_S A H0 H locs)
    (kk : ∀ (q : Nat) (H1 : Heap), va_P D cls_ (ws ++ [(q, .inl (tA 1, N, .inr (.inr (.inr (.inr (fun _ => none))))))]) H1 → va_D A (ws ++ [(q, .inl (tA 1, N, .inr (.inr (.inr (.inr (fun _ => none))))))]) → va_S A H0 H1 locs → W p l e R s m args below meth c H1 locs (cells + 1) (slots + N) Q (F0 m (pc + 3) ls (.ref q :: rest))) : W p l e R s m args below meth c H locs cells slots Q (F0 m pc ls (.int n :: rest)) := by
  obtain ⟨hx, hb, hml, hown, hts, hK, hAO, hA⟩ := C
  refine va_newq hx hb hown (hts _ hcl) hAO hK hP hD hS hA hn hN hby hcells hslots hdg (fun q cA H1 hK1 hP1 hD1 hS1 => ?_)
  obtain ⟨kA, comp, -, -, -, e1⟩ := (hK1.2 2 (cA, .object RX0) rfl).2
  obtain ⟨kB, comq, -, -, -, e2⟩ := (hK.2 1 (tA 1, .object RX0) rfl).2
  have e3 : cA = tA 1 := Option.some.inj (e1.symm.trans e2)
  subst e3
  exact kk q H1 hP1 hD1 hS1
theorem ln_X2_0 : mLkN RX2 7 9 0 m_X0_init := ⟨⟨RX0, TX0, 13, rfl, rfl, m_at (i := 59) (by decide +kernel) rfl, m_at (i := 60) (by decide +kernel) rfl, m_at (i := 46) (by decide +kernel) rfl⟩, m_at (i := 61) (by decide +kernel) rfl, m_at (i := 62) (by decide +kernel) rfl, mGi_cons (m_at (i := 63) (by decide +kernel) rfl) mTt_good, rfl, rfl, by decide +kernel, Nat.le_of_ble_eq_true rfl⟩
theorem ln_X2_1 : mLkN RX2 23 25 1 m_X1_init := ⟨⟨RX1, TX1, 7, rfl, rfl, m_at (i := 132) (by decide +kernel) rfl, m_at (i := 133) (by decide +kernel) rfl, m_at (i := 47) (by decide +kernel) rfl⟩, m_at (i := 134) (by decide +kernel) rfl, m_at (i := 135) (by decide +kernel) rfl, mGi_cons (m_at (i := 136) (by decide +kernel) rfl) mTt_good, rfl, rfl, by decide +kernel, Nat.le_of_ble_eq_true rfl⟩
set_option maxHeartbeats 4000000 in
set_option maxRecDepth 100000 in
/-- one more state's net -/
theorem x2_it (C : nCx m_X2_init (nRm 3 67 5094) p s m args c D tA A H0) {h0 q : Nat} {v0 v1 v3 : Value} {W1 W2 W3 : va_W} {f : Nat → Option Nat} {i : Nat} (hi : i < 5) (hW1 : W1.length = 9) (hW2 : W2.length = 9) (hcells : cells + 9 ≤ 67) (hslots : slots + 686 ≤ 5094)
    (hP : va_P D cls_ (wX tA h0 (.inr (2, [v0, v1, .ref q, v3, .int 0, .int 0, .int 0, .int 0, .int 0])) W1 W2 q f W3) H) (hD : va_D A (wX tA h0 (.inr (2, [v0, v1, .ref q, v3, .int 0, .int 0, .int 0, .int 0, .int 0])) W1 W2 q f W3)) (hS : va_S A H0 H locs) (hl : lv_has ls 2 [(1, .int (nI i)), (0, .ref h0)])
    (kk : ∀ (σ : Nat → Nat) (n : NetS) (H1 : Heap) (locs1 : List Loc) (ls1 : Array Slot), va_P D cls_ (wX tA h0 (.inr (2, [v0, v1, .ref q, v3, .int 0, .int 0, .int 0, .int 0, .int 0])) W1 W2 q (va_up f i (some (σ 0))) (W3 ++ mW σ tA (memN n))) H1 → va_D A (wX tA h0 (.inr (2, [v0, v1, .ref q, v3, .int 0, .int 0, .int 0, .int 0, .int 0])) W1 W2 q (va_up f i (some (σ 0))) (W3 ++ mW σ tA (memN n))) → va_S A H0 H1 locs1 → lv_has ls1 2 [(1, .int (nI (i + 1))), (0, .ref h0)] → RC n (sBg 4) → W p l e (nRm 3 67 5094) s m args below meth c H1 locs1 (cells + 9) (slots + 686) Q (F0 m 36 ls1 [])) : W p l e (nRm 3 67 5094) s m args below meth c H locs cells slots Q (F0 m 36 ls []) := by
  obtain ⟨hx, hb, hml, hown, hts, hK, hAO, hA⟩ := id C
  refine lv_iload_n hx hb di_X2_36 rfl (lv_at hl 0 rfl) ?_
  refine lv_iconst (v := nI 5) hx hb di_X2_37 (by decide) ?_
  refine lv_icmp_ge (tgt := 60) hx hb di_X2_38 (by decide) (fun c1 => ?_) (fun c1 => ?_)
  · rw [q_le (by omega) (by omega)] at c1
    omega
  refine lv_aload_n hx hb di_X2_41 rfl (lv_at hl 1 rfl) ?_
  obtain ⟨Cn, T, N, hc, hk, hw⟩ := FL_ok (own := RX2) (idx := 19) (ci := 2) (k := 2) (by decide +kernel)
  refine va_get hx hb hts (m_clsT hc) hown hK hP 0 rfl hc 2 hk (hts _ (mTt_in hw rfl)) (fun _ h9 => h9) (v := .ref q) rfl di_X2_42 ?_
  refine lv_iload_n hx hb di_X2_45 rfl (lv_at hl 0 rfl) ?_
  refine n_new C (i1 := 7) (i2 := 9) (ci := 0) (d := 2) (mc := 8) (ms := 673) (k1 := 13) (N := m_X0_init) (ty := tyX0) rfl tyX0_ok (fs := [.int 0, .int 0, .int 0, .int 0, .int 0, .null, .null, .null, .null, .null, .null, .null, .null]) rfl ln_X2_0 N_X0 di_X2_46 di_X2_49 di_X2_50 hl.1 rfl (by show cells + 9 ≤ 67; omega) (by show slots + 686 ≤ 5094; omega) (Nat.le_refl _) (Nat.le_refl _) hP hD hS (fun σ μ H1 locs1 hPm hP hD hS => ?_)
  obtain ⟨n, rfl, hR⟩ := hPm
  rw [wX_app] at hP hD
  have hv : (wX tA h0 (.inr (2, [v0, v1, .ref q, v3, .int 0, .int 0, .int 0, .int 0, .int 0])) W1 W2 q f (W3 ++ mW σ tA (memN n)))[20 + W3.length]? = some (σ 0, cE σ tA (.inr (0, [.int (gN_tc n), .int (gN_hb n), .int (gN_x n), .int (gN_hg n), .int (gN_cc n), .ref 1, .ref 2, .ref 3, .ref 4, .ref 5, .ref 6, .ref 7, .ref 8]))) := by
    rw [wX_h hW1 hW2]
    exact mW_at rfl
  refine va_astq hx hb hK hP hD hS 19 1 (20 + W3.length) 0 (wX_g hW1 hW2) rfl hv (r := (RX0, TX0, 13)) rfl (by
    intro h
    rcases h with h | h
    · rw [show (0 : Int32) = nI 0 from nI_0.symm, q_lt (by omega) (by omega)] at h
      omega
    · rw [q_cl (by omega)] at h
      omega) di_X2_53 (fun H2 locs2 hP hD hS => ?_)
  rw [wX_s hW1 hW2, q_cl (by omega)] at hP hD
  refine lv_iinc (k := 0) (v := nI (i + 1)) (lv' := [(1, .int (nI (i + 1))), (0, .ref h0)]) hx hb di_X2_54 hl rfl (by rw [← q_add]; rfl) (by decide) rfl (fun ls1 hl1 => ?_)
  refine lv_goto (tgt := 36) hx hb di_X2_57 (by decide) ?_
  exact kk σ n H2 locs2 ls1 hP hD hS hl1 hR
end ROW
