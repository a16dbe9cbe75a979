/-! what a net does, in natural numbers: N 0 towns, 1 back, 2 x, 3 hours, 4 calls; 5.. wires, 41.. reserves, 77.. sticky, 113 + 5 c + w counts, 293.. loads, 317.. calls -/
def sFr (N : Nat → Nat) (l : Nat) : Nat := N (5 + l) - hC N l (N 4)
def sSv (N : Nat → Nat) (l : Nat) : Bool := Nat.blt (N (41 + l)) (sFr N l)
def sCt (w c : Nat) (N : Nat → Nat) : Nat → Nat := uN N (113 + 5 * c + w) (N (113 + 5 * c + w) + 1)
def sX (x : Nat) : Nat := (x * 1103515245 + 12345) % 2147483648
def sTn (t a b : Nat) : Nat := if (if t < min a b then t else t + 1) < max a b then (if t < min a b then t else t + 1) else (if t < min a b then t else t + 1) + 1
/-- drawing anew -/
def sRd (a b : Nat) (N : Nat → Nat) : Nat → Nat := uN (uN N 2 (sX (N 2))) (77 + (6 * a + b)) (sTn (sX (N 2) / 65536 % (N 0 - 2)) a b)
/-- a call's row -/
def sAd (a b t h : Nat) (N : Nat → Nat) : Nat → Nat := uN (uN (uN (uN (uN N 4 (N 4 + 1)) (317 + 4 * N 4) a) (317 + (4 * N 4 + 1)) b) (317 + (4 * N 4 + 2)) t) (317 + (4 * N 4 + 3)) h
def sGo (a b t h : Nat) (N : Nat → Nat) : Nat → Nat := sAd a b t h (sCt (if t = NV then 1 else 2) (6 * a + b) N)
def sAsk (a b h : Nat) (N : Nat → Nat) : Nat × (Nat → Nat) :=
  let c := 6 * a + b
  let N1 := sCt 0 c N
  if N 4 = 80 then (RF, sCt 4 c N1)
  else if 0 < sFr N1 (lk a b) then (NV, sGo a b NV h N1)
  else if sSv N1 (lk a (N1 (77 + c))) && sSv N1 (lk (N1 (77 + c)) b) then (N1 (77 + c), sGo a b (N1 (77 + c)) h N1)
  else if sSv N1 (lk a (N1 (77 + c))) && decide (N1 1 = 1) then
    let N2 := sRd a b (sCt 3 c N1)
    if sSv N2 (lk a (N2 (77 + c))) && sSv N2 (lk (N2 (77 + c)) b) then (N2 (77 + c), sGo a b (N2 (77 + c)) h N2)
    else (RF, sRd a b (sCt 4 c N2))
  else (RF, sRd a b (sCt 4 c N1))
/-- a call is as it may be -/
def cOk (N : Nat → Nat) (k : Nat) : Prop := N (317 + 4 * k) < N 0 ∧ N (317 + 4 * k + 1) < N 0 ∧ N (317 + 4 * k) ≠ N (317 + 4 * k + 1) ∧ (N (317 + 4 * k + 2) = NV ∨ (N (317 + 4 * k + 2) < N 0 ∧ N (317 + 4 * k + 2) ≠ N (317 + 4 * k) ∧ N (317 + 4 * k + 2) ≠ N (317 + 4 * k + 1))) ∧ 1 ≤ N (317 + 4 * k + 3) ∧ N (317 + 4 * k + 3) ≤ 24
/-- what holds of every net; B bounds hours and counts -/
def WF (B : Nat) (N : Nat → Nat) : Prop := (3 ≤ N 0 ∧ N 0 ≤ 6) ∧ N 1 ≤ 1 ∧ N 2 < 2147483648 ∧ N 3 ≤ B ∧ N 4 ≤ 80 ∧ (∀ c, c < 36 → N (5 + c) ≤ 30) ∧ (∀ c, c < 36 → N (41 + c) ≤ 30) ∧ (∀ a b, a < N 0 → b < N 0 → a ≠ b → N (77 + (6 * a + b)) < N 0 ∧ N (77 + (6 * a + b)) ≠ a ∧ N (77 + (6 * a + b)) ≠ b) ∧ (∀ h, h < 24 → N (293 + h) ≤ 9) ∧ (∀ k, k < N 4 → cOk N k) ∧ (∀ w, w < 5 → sC N w 36 ≤ B)
/-- the class's net holds N -/
def RC (n : NetS) (N : Nat → Nat) : Prop := gN_tc n = nI (N 0) ∧ gN_hb n = nI (N 1) ∧ gN_x n = nI (N 2) ∧ gN_hg n = nI (N 3) ∧ gN_cc n = nI (N 4) ∧ aR (gN_w n) N 5 36 ∧ aR (gN_r n) N 41 36 ∧ aR (gN_st n) N 77 36 ∧ (∀ w c, w < 5 → c < 36 → gN_ct n (36 * w + c) = nI (N (113 + 5 * c + w))) ∧ aR (gN_ld n) N 293 24 ∧ aR (gN_ca n) N 317 (4 * N 4) ∧ (∀ c, c < 36 → gN_hd n c = nI (hC N c (N 4))) ∧ (∀ w, w < 5 → gN_tt n w = nI (sC N w 36))
/-- the reference's row holds N -/
def RM (f : Nat → Int32) (N : Nat → Nat) : Prop := aR f N 0 (317 + 4 * N 4)
theorem sTn_ok {n t a b : Nat} (hn : n ≤ 6) (ha : a < n) (hb : b < n) (hab : a ≠ b) (ht : t < n - 2) : sTn t a b < n ∧ sTn t a b ≠ a ∧ sTn t a b ≠ b := by
  unfold sTn
  by_cases h1 : t < min a b
  · simp only [if_pos h1]
    split <;> omega
  · simp only [if_neg h1]
    split <;> omega
theorem sX_lt (x : Nat) : sX x < 2147483648 := Nat.mod_lt _ (by omega)
/-! one by one: the class's small methods -/
section
variable {B : Nat} {N : Nat → Nat} {n : NetS}
theorem X_pair (a b : Nat) : F_X0_pairCell (nI a) (nI b) = some (nI (6 * a + b)) := by
  unfold F_X0_pairCell
  rw [q_mul, q_add, Nat.mul_comm]
theorem X_link {a b : Nat} (ha : a < 6) (hb : b < 6) : F_X0_linkCell (nI a) (nI b) = some (nI (lk a b)) := by
  unfold F_X0_linkCell lk
  by_cases h : a < b
  · rw [i_leF h (by omega), if_pos h, q_mul, q_add, Nat.mul_comm]
  · rw [i_leT (by omega) (by omega), if_neg h, q_mul, q_add, Nat.mul_comm]
theorem X_free (hB : B < 1073741824) (hW : WF B N) (hR : RC n N) {l : Nat} (hl : l < 36) : F_X0_freeWires (nI l) n = some (nI (sFr N l)) := by
  obtain ⟨h0, h1, h2, h3, h4, w1, w2, w3, w4, w5, w6⟩ := hW
  obtain ⟨r1, r2, r3, r4, r5, r6, r7, r8, r9, r10, r11, r12, r13⟩ := hR
  have e1 := r6 l hl
  have e2 := r12 l hl
  have e3 := w1 l hl
  have e4 := hC_le N l (N 4)
  unfold F_X0_freeWires sFr
  rw [q_gI hl (by omega), q_gI hl (by omega), q_cl (by omega), e1, e2]
  by_cases h : hC N l (N 4) ≤ N (5 + l)
  · rw [q_sub h, i_leT (by omega) (by omega)]
  · have hn := q_neglt (a := N (5 + l)) (b := hC N l (N 4)) (by omega) (by omega) (by omega)
    rw [if_neg (fun q => absurd hn (Int32.not_lt.mpr q)), show N (5 + l) - hC N l (N 4) = 0 by omega]
theorem X_serves (hB : B < 1073741824) (hW : WF B N) (hR : RC n N) {l : Nat} (hl : l < 36) : F_X0_servesOver (nI l) n = some (nI (if sSv N l = true then 1 else 0)) := by
  obtain ⟨h0, h1, h2, h3, h4, w1, w2, w3, w4, w5, w6⟩ := hW
  obtain ⟨r1, r2, r3, r4, r5, r6, r7, r8, r9, r10, r11, r12, r13⟩ := hR
  have e1 := r6 l hl
  have e2 := r12 l hl
  have e3 := w1 l hl
  have e4 := hC_le N l (N 4)
  have e5 := r7 l hl
  have e6 := w2 l hl
  unfold F_X0_servesOver sSv sFr
  rw [q_gI hl (by omega), q_gI hl (by omega), q_gI hl (by omega), q_cl (by omega), e1, e2, e5]
  by_cases h : hC N l (N 4) ≤ N (5 + l)
  · rw [q_sub h]
    by_cases h2 : N (5 + l) - hC N l (N 4) ≤ N (41 + l)
    · rw [i_leT h2 (by omega), if_neg (by rw [Nat.blt_eq]; omega)]
    · rw [i_leF (by omega) (by omega), if_pos (by rw [Nat.blt_eq]; omega)]
  · have hn := q_neglt (a := N (5 + l)) (b := hC N l (N 4)) (by omega) (by omega) (by omega)
    rw [if_pos (Int32.le_of_lt (i_nlt hn (by omega))), if_neg (by rw [Nat.blt_eq]; omega)]
end
