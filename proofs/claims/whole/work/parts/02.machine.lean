/-! A small machine over worlds of fixed cells: what its steps are; why each of them is a walk of the JVM's -/
abbrev MEn : Type := Instr × Nat × Nat × Nat
abbrev MMe : Type := List va_E
abbrev MSt : Type := Nat × List MEn × List (Option Value) × List Value × MMe
abbrev MB : Type := MethodName × ByteArray × Nat × Option FieldType × List (Nat × List MEn)
def mC (n : Int) : Int32 := match n with
  | .ofNat k => nI k
  | .negSucc k => -nI (k + 1)
/-- an index within, as a Bool -/
def inb (i : Int32) (n : Nat) : Bool := !(decide (i < 0)) && Nat.blt i.toNatClampNeg n
def mT (TL : List (Nat × List MEn)) (pc : Nat) : List MEn := (TL.lookup pc).getD []
def mSw (x : Int32) : List (Int32 × Nat) → Nat → Nat
  | [], d => d
  | (v, t) :: r, d => if x = v then t else mSw x r d
def mTs (pc : Nat) (lo : Int) : List Int → List (Int32 × Nat)
  | [] => []
  | o :: os => (mC lo, ((pc : Int) + o).toNat) :: mTs pc (lo + 1) os
def mLs (pc : Nat) : List (Int × Int) → List (Int32 × Nat)
  | [] => []
  | (k, o) :: os => (mC k, ((pc : Int) + o).toNat) :: mLs pc os
def mLng : Option (Option Value) → Bool
  | some (some (.long _)) => true
  | some (some (.double _)) => true
  | _ => false
def mS0 (l : List (Option Value)) : Nat → Bool
  | 0 => true
  | j + 1 => !mLng l[j]?
def mEx (TL : List (Nat × List MEn)) (pc : Nat) (i : Instr) (n a b : Nat) (r : List MEn) (l : List (Option Value)) (st : List Value) (μ : MMe) : Option MSt :=
  match i with
  | .iconst k => some (pc + n, r, l, .int (mC k) :: st, μ)
  | .bipush k => some (pc + n, r, l, .int (mC k) :: st, μ)
  | .sipush k => some (pc + n, r, l, .int (mC k) :: st, μ)
  | .ldc _ => some (pc + n, r, l, .int (nI a) :: st, μ)
  | .ldc2_w _ => some (pc + n, r, l, .long (lN a) :: st, μ)
  | .iload_n k => match l[(k : Nat)]? with
    | some (some (.int x)) => some (pc + n, r, l, .int x :: st, μ)
    | _ => none
  | .iload k => match l[k]? with
    | some (some (.int x)) => some (pc + n, r, l, .int x :: st, μ)
    | _ => none
  | .lload_n k => match l[(k : Nat)]? with
    | some (some (.long x)) => some (pc + n, r, l, .long x :: st, μ)
    | _ => none
  | .lload k => match l[k]? with
    | some (some (.long x)) => some (pc + n, r, l, .long x :: st, μ)
    | _ => none
  | .aload_n k => match l[(k : Nat)]? with
    | some (some (.ref x)) => some (pc + n, r, l, .ref x :: st, μ)
    | _ => none
  | .aload k => match l[k]? with
    | some (some (.ref x)) => some (pc + n, r, l, .ref x :: st, μ)
    | _ => none
  | .istore_n k => match st with
    | .int x :: s => if Nat.blt (k : Nat) l.length && mS0 l (k : Nat) then some (pc + n, r, l.set (k : Nat) (some (.int x)), s, μ) else none
    | _ => none
  | .istore k => match st with
    | .int x :: s => if Nat.blt k l.length && mS0 l k then some (pc + n, r, l.set k (some (.int x)), s, μ) else none
    | _ => none
  | .astore_n k => match st with
    | .ref x :: s => if Nat.blt (k : Nat) l.length && mS0 l (k : Nat) then some (pc + n, r, l.set (k : Nat) (some (.ref x)), s, μ) else none
    | _ => none
  | .astore k => match st with
    | .ref x :: s => if Nat.blt k l.length && mS0 l k then some (pc + n, r, l.set k (some (.ref x)), s, μ) else none
    | _ => none
  | .lstore_n k => match st with
    | .long x :: s => if Nat.blt ((k : Nat) + 1) l.length && mS0 l (k : Nat) then some (pc + n, r, (l.set (k : Nat) (some (.long x))).set ((k : Nat) + 1) none, s, μ) else none
    | _ => none
  | .lstore k => match st with
    | .long x :: s => if Nat.blt (k + 1) l.length && mS0 l k then some (pc + n, r, (l.set k (some (.long x))).set (k + 1) none, s, μ) else none
    | _ => none
  | .iinc k c => match l[k]? with
    | some (some (.int x)) => if Nat.blt k l.length && mS0 l k then some (pc + n, r, l.set k (some (.int (x + mC c))), st, μ) else none
    | _ => none
  | .iadd => match st with
    | .int y :: .int x :: s => some (pc + n, r, l, .int (x + y) :: s, μ)
    | _ => none
  | .isub => match st with
    | .int y :: .int x :: s => some (pc + n, r, l, .int (x - y) :: s, μ)
    | _ => none
  | .imul => match st with
    | .int y :: .int x :: s => some (pc + n, r, l, .int (x * y) :: s, μ)
    | _ => none
  | .iand => match st with
    | .int y :: .int x :: s => some (pc + n, r, l, .int (x &&& y) :: s, μ)
    | _ => none
  | .ixor => match st with
    | .int y :: .int x :: s => some (pc + n, r, l, .int (x ^^^ y) :: s, μ)
    | _ => none
  | .ineg => match st with
    | .int x :: s => some (pc + n, r, l, .int (-x) :: s, μ)
    | _ => none
  | .idiv => match st with
    | .int y :: .int x :: s => if ¬ y = nI 0 then some (pc + n, r, l, .int (x / y) :: s, μ) else none
    | _ => none
  | .irem => match st with
    | .int y :: .int x :: s => if ¬ y = nI 0 then some (pc + n, r, l, .int (x - x / y * y) :: s, μ) else none
    | _ => none
  | .ladd => match st with
    | .long y :: .long x :: s => some (pc + n, r, l, .long (x + y) :: s, μ)
    | _ => none
  | .lmul => match st with
    | .long y :: .long x :: s => some (pc + n, r, l, .long (x * y) :: s, μ)
    | _ => none
  | .lrem => match st with
    | .long y :: .long x :: s => if ¬ y = 0 then some (pc + n, r, l, .long (x - x / y * y) :: s, μ) else none
    | _ => none
  | .lcmp => match st with
    | .long y :: .long x :: s => some (pc + n, r, l, .int (lg_cmp x y) :: s, μ)
    | _ => none
  | .i2l => match st with
    | .int x :: s => some (pc + n, r, l, .long x.toInt64 :: s, μ)
    | _ => none
  | .l2i => match st with
    | .long x :: s => some (pc + n, r, l, .int x.toInt32 :: s, μ)
    | _ => none
  | .dup => match st with
    | .int x :: s => some (pc + n, r, l, .int x :: .int x :: s, μ)
    | .ref x :: s => some (pc + n, r, l, .ref x :: .ref x :: s, μ)
    | _ => none
  | .dup2 => match st with
    | .int x :: .ref y :: s => some (pc + n, r, l, .int x :: .ref y :: .int x :: .ref y :: s, μ)
    | _ => none
  | .pop => match st with
    | .int _ :: s => some (pc + n, r, l, s, μ)
    | _ => none
  | .goto _ => some (a, [], l, st, μ)
  | .ifCond c _ => match st with
    | .int x :: s => (match c with
      | .eq => some (if x = nI 0 then (a, [], l, s, μ) else (pc + n, r, l, s, μ))
      | .ne => some (if ¬ x = nI 0 then (a, [], l, s, μ) else (pc + n, r, l, s, μ))
      | .lt => some (if x < nI 0 then (a, [], l, s, μ) else (pc + n, r, l, s, μ))
      | .ge => some (if nI 0 ≤ x then (a, [], l, s, μ) else (pc + n, r, l, s, μ))
      | .gt => some (if nI 0 < x then (a, [], l, s, μ) else (pc + n, r, l, s, μ))
      | .le => some (if x ≤ nI 0 then (a, [], l, s, μ) else (pc + n, r, l, s, μ)))
    | _ => none
  | .if_icmp c _ => match st with
    | .int y :: .int x :: s => (match c with
      | .eq => some (if x = y then (a, [], l, s, μ) else (pc + n, r, l, s, μ))
      | .ne => some (if ¬ x = y then (a, [], l, s, μ) else (pc + n, r, l, s, μ))
      | .lt => some (if x < y then (a, [], l, s, μ) else (pc + n, r, l, s, μ))
      | .ge => some (if y ≤ x then (a, [], l, s, μ) else (pc + n, r, l, s, μ))
      | .gt => some (if y < x then (a, [], l, s, μ) else (pc + n, r, l, s, μ))
      | .le => some (if x ≤ y then (a, [], l, s, μ) else (pc + n, r, l, s, μ)))
    | _ => none
  | .tableswitch d lo _ offs => match st with
    | .int x :: s => (fun t => some (t, [], l, s, μ)) (mSw x (mTs pc lo offs.toList) ((pc : Int) + d).toNat)
    | _ => none
  | .lookupswitch d ps => match st with
    | .int x :: s => (fun t => some (t, [], l, s, μ)) (mSw x (mLs pc ps.toList) ((pc : Int) + d).toNat)
    | _ => none
  | .getfield _ => match st with
    | .ref h :: s => (match μ[h]? with
      | some (.inr (ci, fs)) => if Nat.beq ci a then (match fs[b]? with
        | some v => some (pc + n, r, l, v :: s, μ)
        | none => none) else none
      | _ => none)
    | _ => none
  | .putfield _ => match st with
    | .int v :: .ref h :: s => (match μ[h]? with
      | some (.inr (ci, fs)) => if Nat.beq ci a && Nat.blt b fs.length then some (pc + n, r, l, s, μ.set h (.inr (ci, fs.set b (.int v)))) else none
      | _ => none)
    | _ => none
  | .iaload => match st with
    | .int i :: .ref h :: s => (match μ[h]? with
      | some (.inl (0, z, .inl f)) => if inb i z = true then some (pc + n, r, l, .int (f i.toNatClampNeg) :: s, μ) else none
      | _ => none)
    | _ => none
  | .iastore => match st with
    | .int x :: .int i :: .ref h :: s => (match μ[h]? with
      | some (.inl (0, z, .inl f)) => if inb i z = true then some (pc + n, r, l, s, μ.set h (.inl (0, z, .inl (upd f i.toNatClampNeg x)))) else none
      | _ => none)
    | _ => none
  | .aaload => match st with
    | .int i :: .ref h :: s => (match μ[h]? with
      | some (.inl (1, z, .inr (.inr (.inr (.inr g))))) => if inb i z = true then some (pc + n, r, l, va_rf (g i.toNatClampNeg) :: s, μ) else none
      | _ => none)
    | _ => none
  | .arraylength => match st with
    | .ref h :: s => (match μ[h]? with
      | some (.inl (0, z, _)) => some (pc + n, r, l, .int (nI z) :: s, μ)
      | _ => none)
    | _ => none
  | _ => none
def mStp (TL : List (Nat × List MEn)) (S : MSt) : Option MSt := match S with
  | (pc, [], l, st, μ) => (match TL.lookup pc with
    | some (e :: r) => some (pc, e :: r, l, st, μ)
    | _ => none)
  | (pc, (i, n, a, b) :: r, l, st, μ) => mEx TL pc i n a b r l st μ
def mStps (TL : List (Nat × List MEn)) : Nat → MSt → Option MSt
  | 0, S => some S
  | 1, S => mStp TL S
  | k + 2, S => (mStp TL S).bind (mStps TL (k + 1))
/-! the table of a method is what its bytes say -/
def mOpd (own : String) (pc : Nat) (i : Instr) (n a b : Nat) : Bool := match i with
  | .iconst _ => Nat.beq n 1
  | .bipush k => Nat.beq n 2 && decide ((Int8.ofInt k).toInt32 = mC k)
  | .sipush k => Nat.beq n 3 && decide ((Int16.ofInt k).toInt32 = mC k)
  | .ldc idx => Nat.beq n 2 && decide ((own, idx, a) ∈ CIk)
  | .ldc2_w idx => Nat.beq n 3 && decide ((own, idx, a) ∈ CLk)
  | .goto off => Nat.beq n 3 && decide ((pc : Int) + off = (a : Int))
  | .ifCond _ off => Nat.beq n 3 && decide ((pc : Int) + off = (a : Int))
  | .if_icmp _ off => Nat.beq n 3 && decide ((pc : Int) + off = (a : Int))
  | .tableswitch d lo hi offs => decide (0 ≤ (pc : Int) + d) && decide (0 ≤ lo) && decide (hi < 1000) && decide ((offs.size : Int) = hi - lo + 1) && offs.toList.all (fun o => decide (0 ≤ (pc : Int) + o))
  | .lookupswitch d ps => decide (0 ≤ (pc : Int) + d) && (ps.toList.zip (ps.toList.drop 1)).all (fun (a, next) => a.1 < next.1) && ps.toList.all (fun q => decide (0 ≤ q.1) && decide (q.1 < 1000) && decide (0 ≤ (pc : Int) + q.2))
  | .getfield idx => Nat.beq n 3 && decide ((own, idx, a, b) ∈ FLk)
  | .putfield idx => Nat.beq n 3 && decide ((own, idx, a, b) ∈ FLk) && (match cls_[a]? with
    | some (_, T, _) => decide ((T b).2.2.1 = "I") && !(T b).2.2.2
    | none => false)
  | .iinc _ c => Nat.beq n 3 && decide (Int32.ofInt c = mC c)
  | .iload_n _ | .lload_n _ | .aload_n _ | .istore_n _ | .lstore_n _ | .astore_n _ => Nat.beq n 1
  | .iload _ | .lload _ | .aload _ | .istore _ | .lstore _ | .astore _ => Nat.beq n 2
  | .iadd | .isub | .imul | .iand | .ixor | .ineg | .idiv | .irem | .ladd | .lmul | .lrem | .lcmp | .i2l | .l2i | .dup | .dup2 | .pop | .iaload | .iastore | .aaload | .arraylength => Nat.beq n 1
  | .ireturn | .lreturn | .return_ => Nat.beq n 1
  | .invokevirtual _ | .invokestatic _ => Nat.beq n 3
  | _ => false
def mChk (own : String) (bytes : ByteArray) : Nat → List MEn → Bool
  | _, [] => true
  | pc, (i, n, a, b) :: r => (match decode bytes pc with
    | .ok (i', n') => decide (i' = i) && Nat.beq n' n
    | _ => false) && (mOpd own pc i n a b && mChk own bytes (pc + n) r)
def mOk (M : MB) : Prop := ∀ q ∈ M.2.2.2.2, mChk M.1.cls M.2.1 q.1 q.2 = true
theorem mOk.of {M : MB} (h : M.2.2.2.2.all (fun q => mChk M.1.cls M.2.1 q.1 q.2) = true) : mOk M := fun q hq => List.all_eq_true.mp h q hq
theorem mLook {α : Type} {TL : List (Nat × α)} {pc : Nat} {r : α} (h : TL.lookup pc = some r) : (pc, r) ∈ TL := by
  induction TL with
  | nil => cases h
  | cons q t ih =>
    obtain ⟨k, v⟩ := q
    rw [List.lookup_cons] at h
    by_cases hk : pc = k
    · subst hk
      simp at h
      subst h
      exact List.mem_cons_self
    · rw [show (pc == k) = false from by simpa using hk] at h
      exact List.mem_cons_of_mem _ (ih h)
theorem mOk.at {M : MB} (h : mOk M) (pc : Nat) : mChk M.1.cls M.2.1 pc (mT M.2.2.2.2 pc) = true := by
  unfold mT
  cases hl : List.lookup pc M.2.2.2.2 with
  | none => rfl
  | some r => exact h _ (mLook hl)
theorem mChk.head {own : String} {bytes : ByteArray} {pc n a b : Nat} {i : Instr} {r : List MEn} (h : mChk own bytes pc ((i, n, a, b) :: r) = true) : decode bytes pc = .ok (i, n) ∧ mOpd own pc i n a b = true ∧ mChk own bytes (pc + n) r = true := by
  unfold mChk at h
  cases hd : decode bytes pc with
  | error e => rw [hd] at h; simp at h
  | ok q =>
    obtain ⟨i', n'⟩ := q
    rw [hd] at h
    simp only [Bool.and_eq_true, decide_eq_true_eq, Nat.beq_eq] at h
    obtain ⟨⟨rfl, rfl⟩, h2, h3⟩ := h
    exact ⟨rfl, h2, h3⟩
/-! the tables' words -/
theorem FL_all : (FLk.zip FLw).all (fun q => match cls_[q.1.2.2.1]? with
    | some (_, T, N) => decide (q.1.2.2.2 < N) && decide (lw_tbl[q.2]? = some (.fieldLink q.1.1 q.1.2.1 (T q.1.2.2.2).1 (T q.1.2.2.2).2.1 (T q.1.2.2.2).2.2.1))
    | none => false) = true := by decide +kernel
theorem FL_len : FLk.length ≤ FLw.length := by decide +kernel
theorem m_zip {α β : Type} {P : α × β → Bool} {l : List α} {w : List β} (hl : l.length ≤ w.length) (h : (l.zip w).all P = true) {q : α} (hq : q ∈ l) : ∃ b, P (q, b) = true := by
  obtain ⟨i, hi, rfl⟩ := List.mem_iff_getElem.mp hq
  refine ⟨w[i], List.all_eq_true.mp h _ ?_⟩
  have : (l.zip w)[i]? = some (l[i], w[i]) := by
    rw [List.getElem?_eq_getElem (by rw [List.length_zip]; omega)]
    simp
  exact List.mem_of_getElem? this
theorem FL_ok {own : String} {idx ci k : Nat} (h : (own, idx, ci, k) ∈ FLk) : ∃ C T N, cls_[ci]? = some (C, T, N) ∧ k < N ∧ Cond.fieldLink own idx (T k).1 (T k).2.1 (T k).2.2.1 ∈ lw_tbl := by
  obtain ⟨w, hw⟩ := m_zip FL_len FL_all h
  dsimp only at hw
  cases hc : cls_[ci]? with
  | none => rw [hc] at hw; cases hw
  | some q =>
    obtain ⟨C, T, N⟩ := q
    rw [hc] at hw
    simp only [Bool.and_eq_true, decide_eq_true_eq] at hw
    exact ⟨C, T, N, rfl, hw.1, List.mem_of_getElem? hw.2⟩
theorem CI_all : (CIk.zip CIw).all (fun q => decide (lw_tbl[q.2]? = some (.constant q.1.1 q.1.2.1 (nI q.1.2.2)))) = true := by decide +kernel
theorem CI_ok {own : String} {idx a : Nat} (h : (own, idx, a) ∈ CIk) : Cond.constant own idx (nI a) ∈ lw_tbl := by
  obtain ⟨w, hw⟩ := m_zip (by decide +kernel) CI_all h
  exact List.mem_of_getElem? (of_decide_eq_true hw)
theorem CL_all : (CLk.zip CLw).all (fun q => decide (lw_tbl[q.2]? = some (.constantLong q.1.1 q.1.2.1 (lN q.1.2.2)))) = true := by decide +kernel
theorem CL_ok {own : String} {idx a : Nat} (h : (own, idx, a) ∈ CLk) : Cond.constantLong own idx (lN a) ∈ lw_tbl := by
  obtain ⟨w, hw⟩ := m_zip (by decide +kernel) CL_all h
  exact List.mem_of_getElem? (of_decide_eq_true hw)
theorem m_cls {ci : Nat} {C : String} {T : u_T} {N : Nat} (h : cls_[ci]? = some (C, T, N)) : (∀ w ∈ u_ws C T N, w ∈ lw_tbl) ∧ (∃ ty : Nat → FieldType, ∀ k, k < N → parseFieldDescriptor (T k).2.2.1 = some (ty k)) ∧ (∀ a, a < N → ∀ b, b < N → a ≠ b → (T a).2.1 ≠ (T b).2.1) := by
  match ci, h with
  | 0, h => cases h; exact ⟨inlX0, ⟨_, tyX0_ok⟩, nmX0⟩
  | 1, h => cases h; exact ⟨inlX1, ⟨_, tyX1_ok⟩, nmX1⟩
  | 2, h => cases h; exact ⟨inlX2, ⟨_, tyX2_ok⟩, nmX2⟩
  | 3, h => cases h; exact ⟨inlX3, ⟨_, tyX3_ok⟩, nmX3⟩
  | k + 4, h => simp [cls_] at h
def mTt : List Cond := lw_tbl.filter goodWord
theorem mTt_in {w : Cond} (h : w ∈ lw_tbl) (g : goodWord w = true) : w ∈ mTt := List.mem_filter.mpr ⟨h, g⟩
theorem mTt_good : GoodIn mTt mTt := fun w h => ⟨h, good_of_word (List.mem_filter.mp h).2⟩
theorem m_clsT {ci : Nat} {C : String} {T : u_T} {N : Nat} (h : cls_[ci]? = some (C, T, N)) : ∀ w ∈ u_ws C T N, w ∈ mTt := by
  intro w hw
  refine mTt_in ((m_cls h).1 w hw) ?_
  obtain ⟨k, -, rfl⟩ := List.mem_map.mp hw
  unfold u_lay
  by_cases hf : (T k).2.2.2 = true
  · rw [if_pos hf]; rfl
  · rw [if_neg hf]; rfl
