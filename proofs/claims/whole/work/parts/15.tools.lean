/-! numbers: everything is nI of a natural number (negatives: of 2^32 less) -/
theorem q_gI {α : Type} {j n : Nat} {k : Option α} (h : j < n) (hn : n < 2147483648) : gI (nI j) n k = k := by
  unfold gI
  refine if_pos ?_
  unfold inb
  rw [nI_clamp (by omega)]
  simp only [Bool.and_eq_true, Bool.not_eq_true', decide_eq_false_iff_not, Nat.blt_eq]
  exact ⟨nI_pos (by omega), h⟩
theorem q_gZ {α : Type} {j : Nat} {k : Option α} (h0 : 0 < j) (h : j < 2147483648) : gZ (nI j) k = k := by
  unfold gZ
  refine if_pos ?_
  rw [nI_0]
  exact nI_ne0 h0 (by omega)
theorem q_gZL {α : Type} {j : Nat} {k : Option α} (h0 : 0 < j) (h : j < 9223372036854775808) : gZL (lN j) k = k := by
  unfold gZL
  refine if_pos ?_
  rw [show (0 : Int64) = lN 0 from rfl, pk_lEQ (by omega) (by omega)]
  omega
theorem q_cl {j : Nat} (h : j < 2147483648) : Int32.toNatClampNeg (nI j) = j := nI_clamp (by omega)
theorem q_le {a b : Nat} (ha : a < 2147483648) (hb : b < 2147483648) : (nI a ≤ nI b) = (a ≤ b) := propext (nI_leI (by omega) (by omega))
theorem q_lt {a b : Nat} (ha : a < 2147483648) (hb : b < 2147483648) : (nI a < nI b) = (a < b) := propext (nI_ltI (by omega) (by omega))
theorem q_eq {a b : Nat} (ha : a < 4294967296) (hb : b < 4294967296) : (nI a = nI b) = (a = b) := by
  apply propext
  constructor
  · intro h
    have h1 := congrArg (fun z => z.toBitVec.toNat) h
    simp only [pk_tn (show a < 2 ^ 32 by omega), pk_tn (show b < 2 ^ 32 by omega)] at h1
    exact h1
  · intro h; rw [h]
theorem q_sub {a b : Nat} (h : b ≤ a) : nI a - nI b = nI (a - b) := pk_sub h
theorem q_add (a b : Nat) : nI a + nI b = nI (a + b) := nI_add a b
theorem q_mul (a b : Nat) : nI a * nI b = nI (a * b) := pk_mul a b
theorem q_div {a d : Nat} (ha : a < 2147483648) (h0 : 0 < d) (hd : d < 2147483648) : nI a / nI d = nI (a / d) := pk_div (by omega) h0 (by omega)
theorem q_rem {a d : Nat} (ha : a < 2147483648) (h0 : 0 < d) (hd : d < 2147483648) : nI a - nI (a / d) * nI d = nI (a % d) := by
  rw [← q_div ha h0 hd]
  exact pk_rem (by omega) h0 (by omega)
theorem q_rem2 {a d : Nat} (ha : a < 2147483648) (h0 : 0 < d) (hd : d < 2147483648) : nI a - nI (a / d * d) = nI (a % d) := by
  rw [← q_mul]
  exact q_rem ha h0 hd
theorem q_n1 : -nI 1 = nI 4294967295 := by decide +kernel
theorem q_n2 : -nI 2 = nI 4294967294 := by decide +kernel
theorem q_n3 : -nI 3 = nI 4294967293 := by decide +kernel
theorem q_n4 : -nI 4 = nI 4294967292 := by decide +kernel
theorem q_n5 : -nI 5 = nI 4294967291 := by decide +kernel
theorem q_n10 : -nI 10 = nI 4294967286 := by decide +kernel
theorem q_wrap (a : Nat) : nI (a + 4294967296) = nI a := by
  unfold nI
  apply Int32.toBitVec_inj.mp
  apply BitVec.eq_of_toNat_eq
  show (BitVec.ofNat 32 (a + 4294967296)).toNat = (BitVec.ofNat 32 a).toNat
  rw [BitVec.toNat_ofNat, BitVec.toNat_ofNat]
  omega
/-- one off -/
theorem q_dec {a : Nat} : nI (a + 1) + nI 4294967295 = nI a := by
  rw [q_add, show a + 1 + 4294967295 = a + 4294967296 by omega, q_wrap]
theorem q_neglt {a b : Nat} (ha : a < 1073741824) (hb : b < 1073741824) (h : a < b) : nI a - nI b < nI 0 := by
  rw [nI_0]
  exact pk_sneg (by omega) h
section
variable {α : Type} {a b : Nat} {x y : α}
theorem i_leT (h : a ≤ b) (hb : b < 2147483648) : (if nI a ≤ nI b then x else y) = x := if_pos (by rw [q_le (by omega) hb]; exact h)
theorem i_leF (h : b < a) (ha : a < 2147483648) : (if nI a ≤ nI b then x else y) = y := if_neg (by rw [q_le ha (by omega)]; omega)
theorem i_ltT (h : a < b) (hb : b < 2147483648) : (if nI a < nI b then x else y) = x := if_pos (by rw [q_lt (by omega) hb]; exact h)
theorem i_ltF (h : b ≤ a) (ha : a < 2147483648) : (if nI a < nI b then x else y) = y := if_neg (by rw [q_lt ha (by omega)]; omega)
theorem i_eqT (h : a = b) : (if nI a = nI b then x else y) = x := if_pos (by rw [h])
theorem i_eqF (h : a ≠ b) (ha : a < 4294967296) (hb : b < 4294967296) : (if nI a = nI b then x else y) = y := if_neg (by rw [q_eq ha hb]; exact h)
theorem i_neT (h : a ≠ b) (ha : a < 4294967296) (hb : b < 4294967296) : (if ¬ nI a = nI b then x else y) = x := if_pos (by rw [q_eq ha hb]; exact h)
theorem i_neF (h : a = b) : (if ¬ nI a = nI b then x else y) = y := if_neg (fun q => q (by rw [h]))
theorem i_neF_ {u v : Int32} (h : u = v) : (if ¬ u = v then x else y) = y := if_neg (fun q => q h)
/-- any int against a number -/
theorem i_any (v : Int32) : ∃ k : Nat, k < 4294967296 ∧ v = nI k := by
  refine ⟨v.toBitVec.toNat, v.toBitVec.isLt, ?_⟩
  apply Int32.toBitVec_inj.mp
  apply BitVec.eq_of_toNat_eq
  rw [pk_tn (show v.toBitVec.toNat < 2 ^ 32 from v.toBitVec.isLt)]
/-- an int below 0 or a number -/
theorem i_sgn (v : Int32) : (v < nI 0) ∨ ∃ k : Nat, k < 2147483648 ∧ v = nI k := by
  by_cases h : v < nI 0
  · exact Or.inl h
  · right
    rw [nI_0] at h
    obtain ⟨k, h1, h2⟩ := nI_of h
    exact ⟨k, by omega, h2⟩
theorem i_nle {v : Int32} {k : Nat} (h : v < nI 0) (hk : k < 2147483648) : ¬ nI k ≤ v := fun q => by
  have h1 : nI 0 ≤ nI k := by rw [q_le (by omega) hk]; omega
  exact absurd (Int32.lt_of_lt_of_le h h1) (Int32.not_lt.mpr q)
theorem i_nlt {v : Int32} {k : Nat} (h : v < nI 0) (hk : k < 2147483648) : v < nI k := by
  have h1 : nI 0 ≤ nI k := by rw [q_le (by omega) hk]; omega
  exact Int32.lt_of_lt_of_le h h1
end
/-! loops -/
theorem q_wh {σ ρ : Type} {b : σ → Option (σ ⊕ ρ)} {x : σ} {n : Nat} : mWh b (n + 1) x = match b x with
    | some (.inl y) => mWh b n y
    | some (.inr r) => some r
    | none => none := rfl
theorem q_whl {σ ρ : Type} {b : σ → Option (σ ⊕ ρ)} {x y : σ} {n : Nat} (h : b x = some (.inl y)) : mWh b (n + 1) x = mWh b n y := by rw [q_wh, h]
theorem q_whr {σ ρ : Type} {b : σ → Option (σ ⊕ ρ)} {x : σ} {r : ρ} {n : Nat} (h : b x = some (.inr r)) : mWh b (n + 1) x = some r := by rw [q_wh, h]
/-- a loop that counts: states S i from i up to e, then out -/
theorem q_for {σ ρ : Type} {b : σ → Option (σ ⊕ ρ)} (S : Nat → σ) (e : Nat) (r : ρ) (hs : ∀ i, i < e → b (S i) = some (.inl (S (i + 1)))) (hx : b (S e) = some (.inr r)) : ∀ (m i n : Nat), e - i = m → i ≤ e → m < n → mWh b n (S i) = some r
  | 0, i, n + 1, h1, h2, h3 => by
    have : i = e := by omega
    subst this
    exact q_whr hx
  | m + 1, i, n + 1, h1, h2, h3 => by
    rw [q_whl (hs i (by omega))]
    exact q_for S e r hs hx m (i + 1) n (by omega) (by omega) (by omega)
theorem q_for0 {σ ρ : Type} {b : σ → Option (σ ⊕ ρ)} (S : Nat → σ) (e : Nat) (r : ρ) (he : e < 4000) (hs : ∀ i, i < e → b (S i) = some (.inl (S (i + 1)))) (hx : b (S e) = some (.inr r)) : mWh b fuel0 (S 0) = some r :=
  q_for S e r hs hx e 0 fuel0 (by omega) (by omega) (by unfold fuel0; omega)
/-- a loop that counts, by an invariant -/
theorem q_inv {σ ρ : Type} {b : σ → Option (σ ⊕ ρ)} (I : Nat → σ → Prop) (X : ρ → Prop) (e : Nat) (hs : ∀ i x, i < e → I i x → ∃ y, b x = some (.inl y) ∧ I (i + 1) y) (hx : ∀ x, I e x → ∃ r, b x = some (.inr r) ∧ X r) : ∀ (m i n : Nat) (x : σ), e - i = m → i ≤ e → m < n → I i x → ∃ r, mWh b n x = some r ∧ X r
  | 0, i, n + 1, x, h1, h2, h3, h => by
    have : i = e := by omega
    subst this
    obtain ⟨r, h4, h5⟩ := hx x h
    exact ⟨r, q_whr h4, h5⟩
  | m + 1, i, n + 1, x, h1, h2, h3, h => by
    obtain ⟨y, h4, h5⟩ := hs i x (by omega) h
    rw [q_whl h4]
    exact q_inv I X e hs hx m (i + 1) n y (by omega) (by omega) (by omega) h5
theorem q_inv0 {σ ρ : Type} {b : σ → Option (σ ⊕ ρ)} (I : Nat → σ → Prop) (X : ρ → Prop) (e : Nat) (he : e < 4000) {x : σ} (h0 : I 0 x) (hs : ∀ i x, i < e → I i x → ∃ y, b x = some (.inl y) ∧ I (i + 1) y) (hx : ∀ x, I e x → ∃ r, b x = some (.inr r) ∧ X r) : ∃ r, mWh b fuel0 x = some r ∧ X r :=
  q_inv I X e hs hx e 0 fuel0 x (by omega) (by omega) (by unfold fuel0; omega) h0
/-! states as functions of places: the reference's rows, in natural numbers -/
def uN (N : Nat → Nat) (k v : Nat) : Nat → Nat := fun j => if j = k then v else N j
theorem uN_s {N : Nat → Nat} {k v : Nat} : uN N k v k = v := if_pos rfl
theorem uN_n {N : Nat → Nat} {k v j : Nat} (h : j ≠ k) : uN N k v j = N j := if_neg h
def aR (g : Nat → Int32) (N : Nat → Nat) (o c : Nat) : Prop := ∀ j, j < c → g j = nI (N (o + j))
theorem aR.put {g : Nat → Int32} {N : Nat → Nat} {o c j v : Nat} (h : aR g N o c) : aR (upd g j (nI v)) (uN N (o + j) v) o c := by
  intro i hi
  unfold upd uN
  by_cases e : i = j
  · rw [if_pos e, if_pos (by omega)]
  · rw [if_neg e, if_neg (by omega)]; exact h i hi
theorem aR.off {g : Nat → Int32} {N : Nat → Nat} {o c k v : Nat} (h : aR g N o c) (hk : k < o ∨ o + c ≤ k) : aR g (uN N k v) o c := by
  intro i hi
  unfold uN
  rw [if_neg (by omega)]
  exact h i hi
theorem aR.get {g : Nat → Int32} {N : Nat → Nat} {o c j : Nat} (h : aR g N o c) (hj : j < c) : g j = nI (N (o + j)) := h j hj
theorem aR.push {g : Nat → Int32} {N : Nat → Nat} {o c v : Nat} (h : aR g N o c) : aR (upd g c (nI v)) (uN N (o + c) v) o (c + 1) := by
  intro i hi
  unfold upd uN
  by_cases e : i = c
  · rw [if_pos e, if_pos (by omega)]
  · rw [if_neg e, if_neg (by omega)]; exact h i (by omega)
theorem aR.le {g : Nat → Int32} {N : Nat → Nat} {o c c' : Nat} (h : aR g N o c) (hc : c' ≤ c) : aR g N o c' := fun i hi => h i (by omega)
theorem aR.eq {g : Nat → Int32} {N N' : Nat → Nat} {o c : Nat} (h : aR g N o c) (he : ∀ j, j < c → N' (o + j) = N (o + j)) : aR g N' o c := fun i hi => by rw [he i hi]; exact h i hi
/-- no town between -/
abbrev NV : Nat := 4294967295
abbrev RF : Nat := 4294967291
def lk (a b : Nat) : Nat := if a < b then 6 * a + b else 6 * b + a
theorem lk_lt {a b : Nat} (ha : a < 6) (hb : b < 6) : lk a b < 36 := by unfold lk; split <;> omega
theorem lk_c (a b : Nat) : lk a b = lk b a := by unfold lk; split <;> split <;> omega
/-- whether call k holds a wire of link c straight, over another town -/
def cS (N : Nat → Nat) (c k : Nat) : Bool := decide (N (317 + 4 * k + 2) = NV) && decide (lk (N (317 + 4 * k)) (N (317 + 4 * k + 1)) = c)
def cO (N : Nat → Nat) (c k : Nat) : Bool := !decide (N (317 + 4 * k + 2) = NV) && (decide (lk (N (317 + 4 * k)) (N (317 + 4 * k + 2)) = c) || decide (lk (N (317 + 4 * k + 2)) (N (317 + 4 * k + 1)) = c))
def hC (N : Nat → Nat) (c : Nat) : Nat → Nat
  | 0 => 0
  | m + 1 => hC N c m + if (cS N c m || cO N c m) = true then 1 else 0
def oC (N : Nat → Nat) (c : Nat) : Nat → Nat
  | 0 => 0
  | m + 1 => oC N c m + if cO N c m = true then 1 else 0
def sC (N : Nat → Nat) (w : Nat) : Nat → Nat
  | 0 => 0
  | c + 1 => sC N w c + N (113 + 5 * c + w)
theorem hC_le (N : Nat → Nat) (c : Nat) : ∀ m, hC N c m ≤ m
  | 0 => Nat.le_refl 0
  | m + 1 => by
    have := hC_le N c m
    unfold hC
    split <;> omega
theorem oC_le (N : Nat → Nat) (c : Nat) : ∀ m, oC N c m ≤ m
  | 0 => Nat.le_refl 0
  | m + 1 => by
    have := oC_le N c m
    unfold oC
    split <;> omega
theorem hC_eq {N N' : Nat → Nat} {c : Nat} : ∀ {m : Nat}, (∀ j, j < 4 * m → N' (317 + j) = N (317 + j)) → hC N' c m = hC N c m
  | 0, _ => rfl
  | m + 1, h => by
    unfold hC
    rw [hC_eq (fun j hj => h j (by omega))]
    have h0 := h (4 * m) (by omega)
    have h1 := h (4 * m + 1) (by omega)
    have h2 := h (4 * m + 2) (by omega)
    unfold cS cO
    rw [show 317 + 4 * m + 1 = 317 + (4 * m + 1) from rfl, show 317 + 4 * m + 2 = 317 + (4 * m + 2) from rfl, h0, h1, h2]
theorem oC_eq {N N' : Nat → Nat} {c : Nat} : ∀ {m : Nat}, (∀ j, j < 4 * m → N' (317 + j) = N (317 + j)) → oC N' c m = oC N c m
  | 0, _ => rfl
  | m + 1, h => by
    unfold oC
    rw [oC_eq (fun j hj => h j (by omega))]
    have h0 := h (4 * m) (by omega)
    have h1 := h (4 * m + 1) (by omega)
    have h2 := h (4 * m + 2) (by omega)
    unfold cO
    rw [show 317 + 4 * m + 1 = 317 + (4 * m + 1) from rfl, show 317 + 4 * m + 2 = 317 + (4 * m + 2) from rfl, h0, h1, h2]
theorem sC_eq {N N' : Nat → Nat} {w : Nat} : ∀ {m : Nat}, (∀ c, c < m → N' (113 + 5 * c + w) = N (113 + 5 * c + w)) → sC N' w m = sC N w m
  | 0, _ => rfl
  | m + 1, h => by
    unfold sC
    rw [sC_eq (fun c hc => h c (by omega)), h m (by omega)]
theorem sC_ge {N : Nat → Nat} {w : Nat} : ∀ {m c : Nat}, c < m → N (113 + 5 * c + w) ≤ sC N w m
  | m + 1, c, h => by
    unfold sC
    by_cases e : c = m
    · subst e; omega
    · have := sC_ge (N := N) (w := w) (m := m) (c := c) (by omega)
      omega
theorem sC_inc {N : Nat → Nat} {w c v : Nat} (hw : w < 5) : ∀ {m : Nat}, c < m → sC (uN N (113 + 5 * c + w) (N (113 + 5 * c + w) + v)) w m = sC N w m + v
  | m + 1, h => by
    unfold sC
    by_cases e : c = m
    · subst e
      rw [uN_s, sC_eq (fun i hi => uN_n (by omega))]
      omega
    · rw [sC_inc hw (by omega), uN_n (by omega)]
      omega
