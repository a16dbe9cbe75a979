/-! what a run of a body comes to, and a call's contract, without the JVM's state -/
def mRet (M : MB) (pc : Nat) (r : Option Value) : Prop := match r with
  | none => decode M.2.1 pc = .ok (.return_, 1) ∧ M.2.2.2.1 = none
  | some (.int v) => decode M.2.1 pc = .ok (.ireturn, 1) ∧ ∃ ty, M.2.2.2.1 = some ty ∧ narrow ty (.int v) = .int v
  | some (.long _) => decode M.2.1 pc = .ok (.lreturn, 1) ∧ M.2.2.2.1 = some .long
  | _ => False
def mEv (d : Nat) (M : MB) (scr : Option (Nat × (Nat → Int32))) (S : MSt) (r : Option Value) (μ' : MMe) : Prop :=
  ∀ (p : Program) (l : Launch) (e : Env) (R : Room) (s : State) (m : MethodId) (args : Array Value) (below : List Frame) (meth : Method) (c : Code) (D : va_G) (σ : Nat → Nat) (tA : Nat → ClassId) (A : Nat → Prop) (H0 : Heap) (cells slots : Nat) (Q : State → Prop),
    mCx M d scr p R s m args c D σ tA A H0 → cells ≤ R.cells → slots ≤ R.slots →
    (∀ (pc : Nat) (H : Heap) (locs : List Loc) (ls : Array Slot), mRet M pc r → va_P D cls_ (mW σ tA μ') H → va_D A (mW σ tA μ') → va_S A H0 H locs → W p l e R s m args below meth c H locs cells slots Q (F0 m pc ls (r.toList.map (cV σ)))) →
    mChk M.1.cls M.2.1 S.1 S.2.1 = true → mWk M p l e R s m args below meth c D σ tA A H0 cells slots Q S
section EV
variable {d : Nat} {M : MB} {scr : Option (Nat × (Nat → Int32))} {S S' S1 S2 : MSt} {r : Option Value} {μ μ' μ1 : MMe}
theorem mEv.stp (k : Nat) (h : mStps M.2.2.2.2 k S = some S') (E : mEv d M scr S' r μ') : mEv d M scr S r μ' := fun p l e R s m args below meth c D σ tA A H0 cells slots Q hC hc hs hret hk =>
  mStps_ok hC k hk h (fun hk1 => E p l e R s m args below meth c D σ tA A H0 cells slots Q hC hc hs hret hk1)
theorem mEv.gd {g : Prop} {inst : Decidable g} (k : Nat) (h : mStps M.2.2.2.2 k S = @ite _ g inst (some S') none) (hg : g) (E : mEv d M scr S' r μ') : mEv d M scr S r μ' := mEv.stp k (h.trans (if_pos hg)) E
theorem mEv.br {g : Prop} {inst : Decidable g} (k : Nat) (h : mStps M.2.2.2.2 k S = some (@ite _ g inst S1 S2)) (E1 : g → mEv d M scr S1 r μ') (E2 : ¬ g → mEv d M scr S2 r μ') : mEv d M scr S r μ' := by
  refine mEv.stp k h ?_
  by_cases hg : g
  · rw [if_pos hg]; exact E1 hg
  · rw [if_neg hg]; exact E2 hg
theorem mEv.sw {x v : Int32} {t df : Nat} {ps : List (Int32 × Nat)} {z : List (Option Value)} {st : List Value} (E1 : x = v → mEv d M scr (t, [], z, st, μ) r μ') (E2 : ¬ x = v → mEv d M scr (mSw x ps df, [], z, st, μ) r μ') : mEv d M scr (mSw x ((v, t) :: ps) df, [], z, st, μ) r μ' := by
  show mEv d M scr ((if x = v then t else mSw x ps df), [], z, st, μ) r μ'
  by_cases hg : x = v
  · rw [if_pos hg]; exact E1 hg
  · rw [if_neg hg]; exact E2 hg
theorem mEv.reti {pc n a b : Nat} {cd : List MEn} {z : List (Option Value)} {v : Int32} (hn : ∃ ty, M.2.2.2.1 = some ty ∧ narrow ty (.int v) = .int v) : mEv d M scr (pc, (.ireturn, n, a, b) :: cd, z, [.int v], μ) (some (.int v)) μ := by
  intro p l e R s m args below meth c D σ tA A H0 cells slots Q hC hc hs hret hk H locs ls hP hD hS hL
  obtain ⟨hd, ho, -⟩ := mChk.head hk
  simp only [mOpd, Nat.beq_eq] at ho
  subst ho
  exact hret pc H locs ls ⟨hd, hn⟩ hP hD hS
theorem mEv.retl {pc n a b : Nat} {cd : List MEn} {z : List (Option Value)} {v : Int64} (hn : M.2.2.2.1 = some .long) : mEv d M scr (pc, (.lreturn, n, a, b) :: cd, z, [.long v], μ) (some (.long v)) μ := by
  intro p l e R s m args below meth c D σ tA A H0 cells slots Q hC hc hs hret hk H locs ls hP hD hS hL
  obtain ⟨hd, ho, -⟩ := mChk.head hk
  simp only [mOpd, Nat.beq_eq] at ho
  subst ho
  exact hret pc H locs ls ⟨hd, hn⟩ hP hD hS
theorem mEv.retv {pc n a b : Nat} {cd : List MEn} {z : List (Option Value)} (hn : M.2.2.2.1 = none) : mEv d M scr (pc, (.return_, n, a, b) :: cd, z, [], μ) none μ := by
  intro p l e R s m args below meth c D σ tA A H0 cells slots Q hC hc hs hret hk H locs ls hP hD hS hL
  obtain ⟨hd, ho, -⟩ := mChk.head hk
  simp only [mOpd, Nat.beq_eq] at ho
  subst ho
  exact hret pc H locs ls ⟨hd, hn⟩ hP hD hS
end EV
def mWs (M : MB) : List Cond := .code M.1 M.2.1 M.2.2.1 M.2.2.2.1 :: mTt
def mRm (d : Nat) : Room := { frames := d, cells := 0, slots := 0, locals := 40 * d }
def mBf (D : va_G) (σ : Nat → Nat) (tA : Nat → ClassId) (sz : Nat) (μ : MMe) : State → Prop := fun U => U.heap.size = sz ∧ va_P D cls_ (mW σ tA μ) U.heap ∧ va_K D cls_ (mTy tA) U ∧ va_D (fun _ => True) (mW σ tA μ)
def mQ (D : va_G) (σ : Nat → Nat) (tA : Nat → ClassId) (A : Nat → Prop) (r : Option Value) (μ' : MMe) : Array Value → State → Outcome → State → Prop := fun _ st oc t => (oc = .returned (r.map (cV σ)) ∧ va_P D cls_ (mW σ tA μ') t.heap ∧ va_K D cls_ (mTy tA) t ∧ va_D A (mW σ tA μ')) ∧ va_F A st t
def mCall (d : Nat) (M : MB) (as : List Value) (μ : MMe) (r : Option Value) (μ' : MMe) : Prop :=
  ∀ (l : Launch) (D : va_G) (σ : Nat → Nat) (tA : Nat → ClassId) (sz : Nat), Met l M.1 (mWs M) (mRm d) (va_Pc (as.map (cV σ)) (mBf D σ tA sz μ)) (mQ D σ tA (va_A (mW σ tA μ) sz) r μ') 0 0 (va_A (mW σ tA μ) sz)
/-! the locals with which a body begins -/
def mEn : List Value → List (Option Value)
  | [] => []
  | v :: vs => if v.category = 2 then some v :: none :: mEn vs else some v :: mEn vs
def mEnt (nL : Nat) (as : List Value) : List (Option Value) := mEn as ++ List.replicate (nL - (mEn as).length) none
theorem cV_cat {σ : Nat → Nat} {v : Value} : (cV σ v).category = v.category := by cases v <;> rfl
theorem mEn_c {σ : Nat → Nat} : ∀ as : List Value, cL σ (mEn as) = mEn (as.map (cV σ))
  | [] => rfl
  | v :: vs => by
    rw [List.map_cons]
    unfold mEn
    rw [cV_cat]
    by_cases h : v.category = 2
    · rw [if_pos h, if_pos h, ← mEn_c vs]; rfl
    · rw [if_neg h, if_neg h, ← mEn_c vs]; rfl
theorem mEnt_c {σ : Nat → Nat} {nL : Nat} {as : List Value} : cL σ (mEnt nL as) = mEnt nL (as.map (cV σ)) := by
  unfold mEnt
  rw [← mEn_c, cL_len]
  unfold cL
  rw [List.map_append, List.map_replicate]
  rfl
theorem mEn_args : ∀ (as : List Value) (i0 j : Nat) (v : Value), (mEn as)[j]? = some (some v) → (i0 + j, v) ∈ lv_args i0 as
  | [], i0, j, v, h => by simp [mEn] at h
  | w :: ws, i0, j, v, h => by
    unfold mEn at h
    unfold lv_args
    by_cases hc : w.category = 2
    · rw [if_pos hc] at h ⊢
      match j, h with
      | 0, h => cases h; exact List.mem_cons_self
      | 1, h => cases h
      | j + 2, h =>
        have := mEn_args ws (i0 + 2) j v h
        rw [show i0 + (j + 2) = i0 + 2 + j by omega]
        exact List.mem_cons_of_mem _ this
    · rw [if_neg hc] at h ⊢
      match j, h with
      | 0, h => cases h; exact List.mem_cons_self
      | j + 1, h =>
        have := mEn_args ws (i0 + 1) j v h
        rw [show i0 + (j + 1) = i0 + 1 + j by omega]
        exact List.mem_cons_of_mem _ this
theorem mEn_len : ∀ as : List Value, (mEn as).length = (lg_sl as).length
  | [] => rfl
  | v :: vs => by
    unfold mEn
    show _ = (List.flatMap _ (v :: vs)).length
    rw [List.flatMap_cons]
    by_cases h : v.category = 2
    · rw [if_pos h, if_pos h]; show (mEn vs).length + 2 = _; rw [mEn_len vs, List.length_append]; show _ = 2 + (lg_sl vs).length; omega
    · rw [if_neg h, if_neg h]; show (mEn vs).length + 1 = _; rw [mEn_len vs, List.length_append]; show _ = 1 + (lg_sl vs).length; omega
theorem mEnt_has {vs : List Value} {nL : Nat} (h : (mEn vs).length ≤ nL) : mL ((lg_sl vs ++ List.replicate (nL - (lg_sl vs).length) Slot.unset).toArray) nL (mEnt nL vs) := by
  have h1 := lv_entry vs (n := nL) (by rw [← mEn_len]; exact h)
  refine ⟨⟨h1.1, h1.2.1, fun q hq => h1.2.2 q ?_⟩, ?_⟩
  · obtain ⟨j, v⟩ := q
    have hj := mAs_iff.mp hq
    unfold mEnt at hj
    by_cases hl : j < (mEn vs).length
    · rw [List.getElem?_append_left hl] at hj
      have := mEn_args vs 0 j v hj
      rwa [Nat.zero_add] at this
    · rw [List.getElem?_append_right (by omega)] at hj
      have := List.eq_of_mem_replicate (List.mem_of_getElem? hj)
      cases this
  · unfold mEnt
    rw [List.length_append, List.length_replicate]
    omega
set_option maxHeartbeats 4000000 in
/-- a body's run is the method's contract -/
theorem mCall.intro {d : Nat} {M : MB} {as : List Value} {μ : MMe} {r : Option Value} {μ' : MMe} (hok : mOk M) (hpl : plainFor M.1 = true) (hmax : Nat.ble (mEn as).length M.2.2.1 = true) (E : mEv d M none (0, [], mEnt M.2.2.1 as, [], μ) r μ') : mCall d M as μ r μ' := by
  intro l D σ tA sz
  refine va_MetF (cc := M.2.1) (maxL := M.2.2.1) (ret := M.2.2.2.1) hpl rfl ?_
  intro p e s m args below meth c s₁ B hml hv
  obtain ⟨rfl, hsz, hP, hK, hD0⟩ := hv
  have hx := B.exec
  have hb := B.bytes
  have hr := B.returns
  have hts := atoms_spec (ws := mWs M) B.pre
  have hown : s.vm.findClass M.1.cls = some m.cls := findClass_of_methodNamed B.named
  have hlocks := B.notSynchronized
  subst hsz
  have hD := hD0.self (sz := s.heap.size)
  have hA : ∀ q : Nat, s.heap.size ≤ q → va_A (mW σ tA μ) s.heap.size q := fun q h => Or.inr h
  have hS : va_S (va_A (mW σ tA μ) s.heap.size) s.heap s.heap [] := va_S.rf
  rw [lg_entry_eq]
  have hlen : (mEn (as.map (cV σ))).length ≤ M.2.2.1 := by rw [← mEn_c, cL_len]; exact Nat.le_of_ble_eq_true hmax
  have hl := mEnt_has hlen
  rw [← mEnt_c] at hl
  refine E p l e _ s m _ below meth c D σ tA (va_A (mW σ tA μ) s.heap.size) s.heap 0 0 _ ⟨hx, hb, hml, hown, fun w hw => hts w (List.mem_cons_of_mem _ hw), hK, hA, Nat.le_refl _, Nat.le_refl _, hok, fun L xs h => by cases h⟩ (Nat.le_refl _) (Nat.le_refl _) ?_ rfl s.heap [] _ hP hD hS hl
  intro pc H locs ls hret hP1 hD1 hS1
  cases r with
  | none => exact W.vret hx hb (hr.trans hret.2) (fun t ht hW => ⟨⟨rfl, by rw [ht]; exact hP1, va_K.moved hW.alike hK, hD1⟩, hS1.F ht⟩) hS1.2.2 hret.1
  | some v =>
    cases v with
    | int v =>
      obtain ⟨h1, ty, h2, h3⟩ := hret
      exact W.zret hx hb (hr.trans h2) h3 (fun t ht hW => ⟨⟨rfl, by rw [ht]; exact hP1, va_K.moved hW.alike hK, hD1⟩, hS1.F ht⟩) hS1.2.2 h1
    | long v => exact W.lret hx hb (hr.trans hret.2) (fun t ht hW => ⟨⟨rfl, by rw [ht]; exact hP1, va_K.moved hW.alike hK, hD1⟩, hS1.F ht⟩) hS1.2.2 hret.1
    | _ => exact hret.elim
