/-! cells, values and worlds: places for addresses -/
def cV (σ : Nat → Nat) : Value → Value
  | .ref i => .ref (σ i)
  | v => v
def cE (σ : Nat → Nat) (tA : Nat → ClassId) : va_E → va_E
  | .inl (t, n, .inl f) => .inl (tA t, n, .inl f)
  | .inl (t, n, .inr (.inr (.inr (.inr g)))) => .inl (tA t, n, .inr (.inr (.inr (.inr (fun k => (g k).map σ)))))
  | .inl (t, x) => .inl (tA t, x)
  | .inr (ci, fs) => .inr (ci, fs.map (cV σ))
def mW (σ : Nat → Nat) (tA : Nat → ClassId) (μ : MMe) : va_W := μ.mapIdx (fun i c => (σ i, cE σ tA c))
theorem mW_at {σ : Nat → Nat} {tA : Nat → ClassId} {μ : MMe} {k : Nat} {c : va_E} (h : μ[k]? = some c) : (mW σ tA μ)[k]? = some (σ k, cE σ tA c) := by
  unfold mW
  rw [List.getElem?_mapIdx, h]
  rfl
theorem mW_set {σ : Nat → Nat} {tA : Nat → ClassId} {μ : MMe} {k : Nat} {c : va_E} : (mW σ tA μ).set k (σ k, cE σ tA c) = mW σ tA (μ.set k c) := by
  unfold mW
  rw [List.mapIdx_set]
def mTy (tA : Nat → ClassId) : List (ClassId × FieldType) := [(tA 0, .int), (tA 1, .object RX0)]
/-! locals -/
def mAs (l : List (Option Value)) : List (Nat × Value) := (List.range l.length).filterMap (fun i => (l[i]?.join).map (fun v => (i, v)))
theorem mAs_iff {l : List (Option Value)} {i : Nat} {v : Value} : (i, v) ∈ mAs l ↔ l[i]? = some (some v) := by
  unfold mAs
  rw [List.mem_filterMap]
  constructor
  · rintro ⟨j, hj, h⟩
    cases hl : l[j]? with
    | none => rw [hl] at h; simp at h
    | some o =>
      rw [hl] at h
      cases o with
      | none => simp at h
      | some w =>
        simp at h
        obtain ⟨rfl, rfl⟩ := h
        exact hl
  · intro h
    refine ⟨i, List.mem_range.mpr (List.getElem?_eq_some_iff.mp h).1, ?_⟩
    rw [h]
    rfl
def mL (ls : Array Slot) (nL : Nat) (l : List (Option Value)) : Prop := lv_has ls nL (mAs l) ∧ l.length = nL
theorem mL.get {ls : Array Slot} {nL : Nat} {l : List (Option Value)} {i : Nat} {v : Value} (h : mL ls nL l) (hi : l[i]? = some (some v)) : ls[i]? = some (.val v) := h.1.2.2 (i, v) (mAs_iff.mpr hi)
theorem mLng_cat {v : Value} (h : v.category = 2) : mLng (some (some v)) = true := by
  cases v <;> first | rfl | (simp [Value.category] at h)
theorem mL.set1 {ls : Array Slot} {nL : Nat} {l : List (Option Value)} {i : Nat} {v : Value} (hl : l.length = nL) (h0 : mS0 l i = true)
    (h : lv_has ls nL ((i, v) :: (mAs l).filter (fun q => !(q.1 == i) && !(q.1 + 1 == i && q.2.category == 2)))) : mL ls nL (l.set i (some v)) := by
  refine ⟨⟨h.1, h.2.1, fun q hq => ?_⟩, by rw [List.length_set]; exact hl⟩
  obtain ⟨j, w⟩ := q
  have hj := mAs_iff.mp hq
  by_cases e : j = i
  · subst e
    have hlt : j < l.length := by
      have := (List.getElem?_eq_some_iff.mp hj).1
      rwa [List.length_set] at this
    rw [List.getElem?_set_self hlt] at hj
    cases hj
    exact h.2.2 _ List.mem_cons_self
  · rw [List.getElem?_set_ne (fun z => e z.symm)] at hj
    refine h.2.2 _ (List.mem_cons_of_mem _ (List.mem_filter.mpr ⟨mAs_iff.mpr hj, ?_⟩))
    have e1 : (j == i) = false := by simpa using e
    simp only [e1, Bool.not_false, Bool.true_and, Bool.not_eq_true', Bool.and_eq_false_iff]
    by_cases e2 : j + 1 = i
    · right
      subst e2
      simp only [beq_eq_false_iff_ne, ne_eq]
      intro hc
      simp only [mS0, hj, mLng_cat hc] at h0
      cases h0
    · left
      simpa using e2
theorem mL.set2 {ls : Array Slot} {nL : Nat} {l : List (Option Value)} {i : Nat} {v : Value} (hl : l.length = nL) (h0 : mS0 l i = true)
    (h : lv_has ls nL ((i, v) :: (mAs l).filter (fun q => !(q.1 == i) && (!(q.1 == i + 1) && !(q.1 + 1 == i && q.2.category == 2))))) : mL ls nL ((l.set i (some v)).set (i + 1) none) := by
  refine ⟨⟨h.1, h.2.1, fun q hq => ?_⟩, by rw [List.length_set, List.length_set]; exact hl⟩
  obtain ⟨j, w⟩ := q
  have hj := mAs_iff.mp hq
  by_cases e3 : j = i + 1
  · subst e3
    have hlt : i + 1 < (l.set i (some v)).length := by
      have := (List.getElem?_eq_some_iff.mp hj).1
      rwa [List.length_set] at this
    rw [List.getElem?_set_self hlt] at hj
    cases hj
  rw [List.getElem?_set_ne (fun z => e3 z.symm)] at hj
  by_cases e : j = i
  · subst e
    have hlt : j < l.length := by
      have := (List.getElem?_eq_some_iff.mp hj).1
      rwa [List.length_set] at this
    rw [List.getElem?_set_self hlt] at hj
    cases hj
    exact h.2.2 _ List.mem_cons_self
  · rw [List.getElem?_set_ne (fun z => e z.symm)] at hj
    refine h.2.2 _ (List.mem_cons_of_mem _ (List.mem_filter.mpr ⟨mAs_iff.mpr hj, ?_⟩))
    have e1 : (j == i) = false := by simpa using e
    have e4 : (j == i + 1) = false := by simpa using e3
    simp only [e1, e4, Bool.not_false, Bool.true_and, Bool.not_eq_true', Bool.and_eq_false_iff]
    by_cases e2 : j + 1 = i
    · right
      subst e2
      simp only [beq_eq_false_iff_ne, ne_eq]
      intro hc
      simp only [mS0, hj, mLng_cat hc] at h0
      cases h0
    · left
      simpa using e2
def cL (σ : Nat → Nat) (l : List (Option Value)) : List (Option Value) := l.map (Option.map (cV σ))
theorem cL_at {σ : Nat → Nat} {l : List (Option Value)} {i : Nat} {v : Value} (h : l[i]? = some (some v)) : (cL σ l)[i]? = some (some (cV σ v)) := by
  unfold cL
  rw [List.getElem?_map, h]
  rfl
theorem cL_set {σ : Nat → Nat} {l : List (Option Value)} {i : Nat} {o : Option Value} : cL σ (l.set i o) = (cL σ l).set i (o.map (cV σ)) := by
  unfold cL
  rw [List.map_set]
theorem cL_lng {σ : Nat → Nat} {l : List (Option Value)} {i : Nat} : mLng (cL σ l)[i]? = mLng l[i]? := by
  unfold cL
  rw [List.getElem?_map]
  cases l[i]? with
  | none => rfl
  | some o =>
    cases o with
    | none => rfl
    | some v => cases v <;> rfl
theorem cL_s0 {σ : Nat → Nat} {l : List (Option Value)} {i : Nat} : mS0 (cL σ l) i = mS0 l i := by
  cases i with
  | zero => rfl
  | succ j => show (!mLng (cL σ l)[j]?) = !mLng l[j]?; rw [cL_lng]
theorem cL_len {σ : Nat → Nat} {l : List (Option Value)} : (cL σ l).length = l.length := by unfold cL; rw [List.length_map]
/-! numbers -/
theorem mC_ofInt {k : Int} (h : decide (Int32.ofInt k = mC k) = true) : Int32.ofInt k = mC k := of_decide_eq_true h
theorem mC_eq (k : Int) : Int32.ofInt k = mC k := by
  cases k with
  | ofNat n => show Int32.ofInt (n : Int) = Int32.ofNat n; exact Int32.ofInt_eq_ofNat
  | negSucc n =>
    show Int32.ofInt (Int.negSucc n) = -nI (n + 1)
    rw [show Int.negSucc n = -((n + 1 : Nat) : Int) from rfl, Int32.ofInt_neg]
    congr 1
theorem inb_in {i : Int32} {n : Nat} (h : inb i n = true) : vp_in i n := by
  unfold inb at h
  simp only [Bool.and_eq_true, Bool.not_eq_true', decide_eq_false_iff_not, Nat.blt_eq] at h
  rintro (h1 | h1)
  · exact h.1 h1
  · omega
theorem mSw_ts {x : Int32} {pc : Nat} {d : Nat} : ∀ (os : List Int) (lo : Int), 0 ≤ lo → lo + os.length ≤ 1000 →
    (mSw x (mTs pc lo os) d = if h : lo ≤ x.toInt ∧ x.toInt < lo + os.length then ((pc : Int) + os[(x.toInt - lo).toNat]'(by omega)).toNat else d) := by
  intro os
  induction os with
  | nil =>
    intro lo h1 h2
    rw [dif_neg (by rw [List.length_nil]; omega)]
    rfl
  | cons o os ih =>
    intro lo h1 h2
    have hl : lo + 1 + os.length ≤ 1000 := by
      rw [List.length_cons] at h2; omega
    have hlo : lo < 1000 := by omega
    show (if x = mC lo then _ else mSw x (mTs pc (lo + 1) os) d) = _
    obtain ⟨n, rfl⟩ := Int.eq_ofNat_of_zero_le h1
    have hn : (mC (n : Int)).toInt = (n : Int) := nI_toInt (by omega)
    by_cases hx : x = mC (n : Int)
    · subst hx
      rw [if_pos rfl, dif_pos (by rw [hn, List.length_cons]; omega)]
      have : ((mC (n : Int)).toInt - (n : Int)).toNat = 0 := by rw [hn]; omega
      simp only [this, List.getElem_cons_zero]
    · rw [if_neg hx, ih (n + 1) (by omega) hl]
      have hne : x.toInt ≠ n := fun q => hx (Int32.toInt_inj.mp (q.trans hn.symm))
      by_cases hc : (n : Int) + 1 ≤ x.toInt ∧ x.toInt < (n : Int) + 1 + os.length
      · rw [dif_pos hc, dif_pos (by rw [List.length_cons]; omega)]
        have : (x.toInt - (n : Int)).toNat = (x.toInt - ((n : Int) + 1)).toNat + 1 := by omega
        simp only [this, List.getElem_cons_succ]
      · rw [dif_neg hc, dif_neg (by rw [List.length_cons]; omega)]
theorem mSw_ls {x : Int32} {pc : Nat} {d : Int} : ∀ (ps : List (Int × Int)), ps.all (fun q => decide (0 ≤ q.1) && decide (q.1 < 1000) && decide (0 ≤ (pc : Int) + q.2)) = true →
    mSw x (mLs pc ps) ((pc : Int) + d).toNat = ((pc : Int) + Op.lookupswitch.offset ps d x.toInt).toNat := by
  intro ps
  induction ps with
  | nil => intro _; rfl
  | cons q ps ih =>
    intro h
    obtain ⟨k, o⟩ := q
    rw [List.all_cons] at h
    simp only [Bool.and_eq_true, decide_eq_true_eq] at h
    obtain ⟨⟨⟨h1, h2⟩, h3⟩, h4⟩ := h
    obtain ⟨n, rfl⟩ := Int.eq_ofNat_of_zero_le h1
    have hn : (mC (n : Int)).toInt = (n : Int) := nI_toInt (by omega)
    rw [Op.lookupswitch.offset_cons]
    show (if x = mC (n : Int) then _ else _) = _
    by_cases hx : x = mC (n : Int)
    · rw [if_pos hx, if_pos (by rw [hx, hn])]
    · rw [if_neg hx, if_neg (fun q => hx (Int32.toInt_inj.mp (q.symm.trans hn.symm)))]
      exact ih h4
/-! where a walk of a method's body stands -/
def mCx (M : MB) (d : Nat) (scr : Option (Nat × (Nat → Int32))) (p : Program) (R : Room) (s : State) (m : MethodId) (args : Array Value) (c : Code) (D : va_G) (σ : Nat → Nat) (tA : Nat → ClassId) (A : Nat → Prop) (H0 : Heap) : Prop :=
  p.tables.exec = Jvm.exec ∧ c.code = M.2.1 ∧ c.maxLocals = M.2.2.1 ∧ s.vm.findClass M.1.cls = some m.cls ∧ (∀ w ∈ mTt, w.before args s = true) ∧ va_K D cls_ (mTy tA) s ∧ (∀ q, H0.size ≤ q → A q) ∧ d ≤ R.frames ∧ 40 * d ≤ R.locals ∧ mOk M ∧
  ∀ L xs, scr = some (L, xs) → va_X (σ 1000000) L xs s H0 ∧ σ 1000000 < H0.size ∧ ¬ A (σ 1000000)
def mWk (M : MB) (p : Program) (l : Launch) (e : Env) (R : Room) (s : State) (m : MethodId) (args : Array Value) (below : List Frame) (meth : Method) (c : Code) (D : va_G) (σ : Nat → Nat) (tA : Nat → ClassId) (A : Nat → Prop) (H0 : Heap) (cells slots : Nat) (Q : State → Prop) (S : MSt) : Prop :=
  ∀ (H : Heap) (locs : List Loc) (ls : Array Slot), va_P D cls_ (mW σ tA S.2.2.2.2) H → va_D A (mW σ tA S.2.2.2.2) → va_S A H0 H locs → mL ls M.2.2.1 (cL σ S.2.2.1) → W p l e R s m args below meth c H locs cells slots Q (F0 m S.1 ls (S.2.2.2.1.map (cV σ)))
