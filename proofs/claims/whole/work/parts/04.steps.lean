set_option maxHeartbeats 4000000 in
theorem mEx_iconst {M : MB} {d : Nat} {scr : Option (Nat × (Nat → Int32))} {p : Program} {l : Launch} {e : Env} {R : Room} {s : State} {m : MethodId} {args : Array Value} {below : List Frame} {meth : Method} {c : Code} {D : va_G} {σ : Nat → Nat} {tA : Nat → ClassId} {A : Nat → Prop} {H0 : Heap} {cells slots : Nat} {Q : State → Prop} (hC : mCx M d scr p R s m args c D σ tA A H0) {pc n a b : Nat} {v : Int} {r : List MEn} {z : List (Option Value)} {st : List Value} {μ : MMe} {S : MSt} (hk : mChk M.1.cls M.2.1 pc ((.iconst v, n, a, b) :: r) = true) (h : mEx M.2.2.2.2 pc (.iconst v) n a b r z st μ = some S) (k : mChk M.1.cls M.2.1 S.1 S.2.1 = true → mWk M p l e R s m args below meth c D σ tA A H0 cells slots Q S) : mWk M p l e R s m args below meth c D σ tA A H0 cells slots Q (pc, (.iconst v, n, a, b) :: r, z, st, μ) := by
  obtain ⟨hd, ho, hr⟩ := mChk.head hk
  intro H locs ls hP hD hS hL
  obtain ⟨hx, hb, hml, hown, hts, hK, hA, hfr, hlo, hok, hsc⟩ := hC
  show W p l e R s m args below meth c H locs cells slots Q (F0 m pc ls (st.map (cV σ)))
  replace hD : va_D A (mW σ tA μ) := hD
  replace hP : va_P D cls_ (mW σ tA μ) H := hP
  replace hL : mL ls M.2.2.1 (cL σ z) := hL
  simp only [mEx] at h
  simp only [mOpd, Bool.and_eq_true, Nat.beq_eq, decide_eq_true_eq] at ho
  subst ho
  cases h
  exact lv_iconst hx hb hd (mC_eq v) (k hr H locs ls hP hD hS hL)
set_option maxHeartbeats 4000000 in
theorem mEx_bipush {M : MB} {d : Nat} {scr : Option (Nat × (Nat → Int32))} {p : Program} {l : Launch} {e : Env} {R : Room} {s : State} {m : MethodId} {args : Array Value} {below : List Frame} {meth : Method} {c : Code} {D : va_G} {σ : Nat → Nat} {tA : Nat → ClassId} {A : Nat → Prop} {H0 : Heap} {cells slots : Nat} {Q : State → Prop} (hC : mCx M d scr p R s m args c D σ tA A H0) {pc n a b : Nat} {v : Int} {r : List MEn} {z : List (Option Value)} {st : List Value} {μ : MMe} {S : MSt} (hk : mChk M.1.cls M.2.1 pc ((.bipush v, n, a, b) :: r) = true) (h : mEx M.2.2.2.2 pc (.bipush v) n a b r z st μ = some S) (k : mChk M.1.cls M.2.1 S.1 S.2.1 = true → mWk M p l e R s m args below meth c D σ tA A H0 cells slots Q S) : mWk M p l e R s m args below meth c D σ tA A H0 cells slots Q (pc, (.bipush v, n, a, b) :: r, z, st, μ) := by
  obtain ⟨hd, ho, hr⟩ := mChk.head hk
  intro H locs ls hP hD hS hL
  obtain ⟨hx, hb, hml, hown, hts, hK, hA, hfr, hlo, hok, hsc⟩ := hC
  show W p l e R s m args below meth c H locs cells slots Q (F0 m pc ls (st.map (cV σ)))
  replace hD : va_D A (mW σ tA μ) := hD
  replace hP : va_P D cls_ (mW σ tA μ) H := hP
  replace hL : mL ls M.2.2.1 (cL σ z) := hL
  simp only [mEx] at h
  simp only [mOpd, Bool.and_eq_true, Nat.beq_eq, decide_eq_true_eq] at ho
  obtain ⟨rfl, ho⟩ := ho
  cases h
  exact lv_bipush hx hb hd ho (k hr H locs ls hP hD hS hL)
set_option maxHeartbeats 4000000 in
theorem mEx_sipush {M : MB} {d : Nat} {scr : Option (Nat × (Nat → Int32))} {p : Program} {l : Launch} {e : Env} {R : Room} {s : State} {m : MethodId} {args : Array Value} {below : List Frame} {meth : Method} {c : Code} {D : va_G} {σ : Nat → Nat} {tA : Nat → ClassId} {A : Nat → Prop} {H0 : Heap} {cells slots : Nat} {Q : State → Prop} (hC : mCx M d scr p R s m args c D σ tA A H0) {pc n a b : Nat} {v : Int} {r : List MEn} {z : List (Option Value)} {st : List Value} {μ : MMe} {S : MSt} (hk : mChk M.1.cls M.2.1 pc ((.sipush v, n, a, b) :: r) = true) (h : mEx M.2.2.2.2 pc (.sipush v) n a b r z st μ = some S) (k : mChk M.1.cls M.2.1 S.1 S.2.1 = true → mWk M p l e R s m args below meth c D σ tA A H0 cells slots Q S) : mWk M p l e R s m args below meth c D σ tA A H0 cells slots Q (pc, (.sipush v, n, a, b) :: r, z, st, μ) := by
  obtain ⟨hd, ho, hr⟩ := mChk.head hk
  intro H locs ls hP hD hS hL
  obtain ⟨hx, hb, hml, hown, hts, hK, hA, hfr, hlo, hok, hsc⟩ := hC
  show W p l e R s m args below meth c H locs cells slots Q (F0 m pc ls (st.map (cV σ)))
  replace hD : va_D A (mW σ tA μ) := hD
  replace hP : va_P D cls_ (mW σ tA μ) H := hP
  replace hL : mL ls M.2.2.1 (cL σ z) := hL
  simp only [mEx] at h
  simp only [mOpd, Bool.and_eq_true, Nat.beq_eq, decide_eq_true_eq] at ho
  obtain ⟨rfl, ho⟩ := ho
  cases h
  exact lv_sipush hx hb hd ho (k hr H locs ls hP hD hS hL)
set_option maxHeartbeats 4000000 in
theorem mEx_ldc {M : MB} {d : Nat} {scr : Option (Nat × (Nat → Int32))} {p : Program} {l : Launch} {e : Env} {R : Room} {s : State} {m : MethodId} {args : Array Value} {below : List Frame} {meth : Method} {c : Code} {D : va_G} {σ : Nat → Nat} {tA : Nat → ClassId} {A : Nat → Prop} {H0 : Heap} {cells slots : Nat} {Q : State → Prop} (hC : mCx M d scr p R s m args c D σ tA A H0) {pc n a b : Nat} {v : Nat} {r : List MEn} {z : List (Option Value)} {st : List Value} {μ : MMe} {S : MSt} (hk : mChk M.1.cls M.2.1 pc ((.ldc v, n, a, b) :: r) = true) (h : mEx M.2.2.2.2 pc (.ldc v) n a b r z st μ = some S) (k : mChk M.1.cls M.2.1 S.1 S.2.1 = true → mWk M p l e R s m args below meth c D σ tA A H0 cells slots Q S) : mWk M p l e R s m args below meth c D σ tA A H0 cells slots Q (pc, (.ldc v, n, a, b) :: r, z, st, μ) := by
  obtain ⟨hd, ho, hr⟩ := mChk.head hk
  intro H locs ls hP hD hS hL
  obtain ⟨hx, hb, hml, hown, hts, hK, hA, hfr, hlo, hok, hsc⟩ := hC
  show W p l e R s m args below meth c H locs cells slots Q (F0 m pc ls (st.map (cV σ)))
  replace hD : va_D A (mW σ tA μ) := hD
  replace hP : va_P D cls_ (mW σ tA μ) H := hP
  replace hL : mL ls M.2.2.1 (cL σ z) := hL
  simp only [mEx] at h
  simp only [mOpd, Bool.and_eq_true, Nat.beq_eq, decide_eq_true_eq] at ho
  obtain ⟨rfl, ho⟩ := ho
  cases h
  exact lv_ldc hx hb hown (hts _ (mTt_in (CI_ok ho) rfl)) hd (k hr H locs ls hP hD hS hL)
set_option maxHeartbeats 4000000 in
theorem mEx_ldc2 {M : MB} {d : Nat} {scr : Option (Nat × (Nat → Int32))} {p : Program} {l : Launch} {e : Env} {R : Room} {s : State} {m : MethodId} {args : Array Value} {below : List Frame} {meth : Method} {c : Code} {D : va_G} {σ : Nat → Nat} {tA : Nat → ClassId} {A : Nat → Prop} {H0 : Heap} {cells slots : Nat} {Q : State → Prop} (hC : mCx M d scr p R s m args c D σ tA A H0) {pc n a b : Nat} {v : Nat} {r : List MEn} {z : List (Option Value)} {st : List Value} {μ : MMe} {S : MSt} (hk : mChk M.1.cls M.2.1 pc ((.ldc2_w v, n, a, b) :: r) = true) (h : mEx M.2.2.2.2 pc (.ldc2_w v) n a b r z st μ = some S) (k : mChk M.1.cls M.2.1 S.1 S.2.1 = true → mWk M p l e R s m args below meth c D σ tA A H0 cells slots Q S) : mWk M p l e R s m args below meth c D σ tA A H0 cells slots Q (pc, (.ldc2_w v, n, a, b) :: r, z, st, μ) := by
  obtain ⟨hd, ho, hr⟩ := mChk.head hk
  intro H locs ls hP hD hS hL
  obtain ⟨hx, hb, hml, hown, hts, hK, hA, hfr, hlo, hok, hsc⟩ := hC
  show W p l e R s m args below meth c H locs cells slots Q (F0 m pc ls (st.map (cV σ)))
  replace hD : va_D A (mW σ tA μ) := hD
  replace hP : va_P D cls_ (mW σ tA μ) H := hP
  replace hL : mL ls M.2.2.1 (cL σ z) := hL
  simp only [mEx] at h
  simp only [mOpd, Bool.and_eq_true, Nat.beq_eq, decide_eq_true_eq] at ho
  obtain ⟨rfl, ho⟩ := ho
  cases h
  exact lv_ldc2 hx hb hown (hts _ (mTt_in (CL_ok ho) rfl)) hd (k hr H locs ls hP hD hS hL)
set_option maxHeartbeats 4000000 in
theorem mEx_iload_n {M : MB} {d : Nat} {scr : Option (Nat × (Nat → Int32))} {p : Program} {l : Launch} {e : Env} {R : Room} {s : State} {m : MethodId} {args : Array Value} {below : List Frame} {meth : Method} {c : Code} {D : va_G} {σ : Nat → Nat} {tA : Nat → ClassId} {A : Nat → Prop} {H0 : Heap} {cells slots : Nat} {Q : State → Prop} (hC : mCx M d scr p R s m args c D σ tA A H0) {pc n a b : Nat} {v : Fin 4} {r : List MEn} {z : List (Option Value)} {st : List Value} {μ : MMe} {S : MSt} (hk : mChk M.1.cls M.2.1 pc ((.iload_n v, n, a, b) :: r) = true) (h : mEx M.2.2.2.2 pc (.iload_n v) n a b r z st μ = some S) (k : mChk M.1.cls M.2.1 S.1 S.2.1 = true → mWk M p l e R s m args below meth c D σ tA A H0 cells slots Q S) : mWk M p l e R s m args below meth c D σ tA A H0 cells slots Q (pc, (.iload_n v, n, a, b) :: r, z, st, μ) := by
  obtain ⟨hd, ho, hr⟩ := mChk.head hk
  intro H locs ls hP hD hS hL
  obtain ⟨hx, hb, hml, hown, hts, hK, hA, hfr, hlo, hok, hsc⟩ := hC
  show W p l e R s m args below meth c H locs cells slots Q (F0 m pc ls (st.map (cV σ)))
  replace hD : va_D A (mW σ tA μ) := hD
  replace hP : va_P D cls_ (mW σ tA μ) H := hP
  replace hL : mL ls M.2.2.1 (cL σ z) := hL
  simp only [mEx] at h
  simp only [mOpd, Bool.and_eq_true, Nat.beq_eq, decide_eq_true_eq] at ho
  subst ho
  split at h
  rotate_left
  · cases h
  rename_i x hz
  cases h
  exact lv_iload_n hx hb hd rfl (hL.get (cL_at hz)) (k hr H locs ls hP hD hS hL)
set_option maxHeartbeats 4000000 in
theorem mEx_iload {M : MB} {d : Nat} {scr : Option (Nat × (Nat → Int32))} {p : Program} {l : Launch} {e : Env} {R : Room} {s : State} {m : MethodId} {args : Array Value} {below : List Frame} {meth : Method} {c : Code} {D : va_G} {σ : Nat → Nat} {tA : Nat → ClassId} {A : Nat → Prop} {H0 : Heap} {cells slots : Nat} {Q : State → Prop} (hC : mCx M d scr p R s m args c D σ tA A H0) {pc n a b : Nat} {v : Nat} {r : List MEn} {z : List (Option Value)} {st : List Value} {μ : MMe} {S : MSt} (hk : mChk M.1.cls M.2.1 pc ((.iload v, n, a, b) :: r) = true) (h : mEx M.2.2.2.2 pc (.iload v) n a b r z st μ = some S) (k : mChk M.1.cls M.2.1 S.1 S.2.1 = true → mWk M p l e R s m args below meth c D σ tA A H0 cells slots Q S) : mWk M p l e R s m args below meth c D σ tA A H0 cells slots Q (pc, (.iload v, n, a, b) :: r, z, st, μ) := by
  obtain ⟨hd, ho, hr⟩ := mChk.head hk
  intro H locs ls hP hD hS hL
  obtain ⟨hx, hb, hml, hown, hts, hK, hA, hfr, hlo, hok, hsc⟩ := hC
  show W p l e R s m args below meth c H locs cells slots Q (F0 m pc ls (st.map (cV σ)))
  replace hD : va_D A (mW σ tA μ) := hD
  replace hP : va_P D cls_ (mW σ tA μ) H := hP
  replace hL : mL ls M.2.2.1 (cL σ z) := hL
  simp only [mEx] at h
  simp only [mOpd, Bool.and_eq_true, Nat.beq_eq, decide_eq_true_eq] at ho
  subst ho
  split at h
  rotate_left
  · cases h
  rename_i x hz
  cases h
  exact lv_iload hx hb hd (hL.get (cL_at hz)) (k hr H locs ls hP hD hS hL)
set_option maxHeartbeats 4000000 in
theorem mEx_lload_n {M : MB} {d : Nat} {scr : Option (Nat × (Nat → Int32))} {p : Program} {l : Launch} {e : Env} {R : Room} {s : State} {m : MethodId} {args : Array Value} {below : List Frame} {meth : Method} {c : Code} {D : va_G} {σ : Nat → Nat} {tA : Nat → ClassId} {A : Nat → Prop} {H0 : Heap} {cells slots : Nat} {Q : State → Prop} (hC : mCx M d scr p R s m args c D σ tA A H0) {pc n a b : Nat} {v : Fin 4} {r : List MEn} {z : List (Option Value)} {st : List Value} {μ : MMe} {S : MSt} (hk : mChk M.1.cls M.2.1 pc ((.lload_n v, n, a, b) :: r) = true) (h : mEx M.2.2.2.2 pc (.lload_n v) n a b r z st μ = some S) (k : mChk M.1.cls M.2.1 S.1 S.2.1 = true → mWk M p l e R s m args below meth c D σ tA A H0 cells slots Q S) : mWk M p l e R s m args below meth c D σ tA A H0 cells slots Q (pc, (.lload_n v, n, a, b) :: r, z, st, μ) := by
  obtain ⟨hd, ho, hr⟩ := mChk.head hk
  intro H locs ls hP hD hS hL
  obtain ⟨hx, hb, hml, hown, hts, hK, hA, hfr, hlo, hok, hsc⟩ := hC
  show W p l e R s m args below meth c H locs cells slots Q (F0 m pc ls (st.map (cV σ)))
  replace hD : va_D A (mW σ tA μ) := hD
  replace hP : va_P D cls_ (mW σ tA μ) H := hP
  replace hL : mL ls M.2.2.1 (cL σ z) := hL
  simp only [mEx] at h
  simp only [mOpd, Bool.and_eq_true, Nat.beq_eq, decide_eq_true_eq] at ho
  subst ho
  split at h
  rotate_left
  · cases h
  rename_i x hz
  cases h
  exact lv_lload_n hx hb hd rfl (hL.get (cL_at hz)) (k hr H locs ls hP hD hS hL)
set_option maxHeartbeats 4000000 in
theorem mEx_lload {M : MB} {d : Nat} {scr : Option (Nat × (Nat → Int32))} {p : Program} {l : Launch} {e : Env} {R : Room} {s : State} {m : MethodId} {args : Array Value} {below : List Frame} {meth : Method} {c : Code} {D : va_G} {σ : Nat → Nat} {tA : Nat → ClassId} {A : Nat → Prop} {H0 : Heap} {cells slots : Nat} {Q : State → Prop} (hC : mCx M d scr p R s m args c D σ tA A H0) {pc n a b : Nat} {v : Nat} {r : List MEn} {z : List (Option Value)} {st : List Value} {μ : MMe} {S : MSt} (hk : mChk M.1.cls M.2.1 pc ((.lload v, n, a, b) :: r) = true) (h : mEx M.2.2.2.2 pc (.lload v) n a b r z st μ = some S) (k : mChk M.1.cls M.2.1 S.1 S.2.1 = true → mWk M p l e R s m args below meth c D σ tA A H0 cells slots Q S) : mWk M p l e R s m args below meth c D σ tA A H0 cells slots Q (pc, (.lload v, n, a, b) :: r, z, st, μ) := by
  obtain ⟨hd, ho, hr⟩ := mChk.head hk
  intro H locs ls hP hD hS hL
  obtain ⟨hx, hb, hml, hown, hts, hK, hA, hfr, hlo, hok, hsc⟩ := hC
  show W p l e R s m args below meth c H locs cells slots Q (F0 m pc ls (st.map (cV σ)))
  replace hD : va_D A (mW σ tA μ) := hD
  replace hP : va_P D cls_ (mW σ tA μ) H := hP
  replace hL : mL ls M.2.2.1 (cL σ z) := hL
  simp only [mEx] at h
  simp only [mOpd, Bool.and_eq_true, Nat.beq_eq, decide_eq_true_eq] at ho
  subst ho
  split at h
  rotate_left
  · cases h
  rename_i x hz
  cases h
  exact lv_lload hx hb hd (hL.get (cL_at hz)) (k hr H locs ls hP hD hS hL)
set_option maxHeartbeats 4000000 in
theorem mEx_aload_n {M : MB} {d : Nat} {scr : Option (Nat × (Nat → Int32))} {p : Program} {l : Launch} {e : Env} {R : Room} {s : State} {m : MethodId} {args : Array Value} {below : List Frame} {meth : Method} {c : Code} {D : va_G} {σ : Nat → Nat} {tA : Nat → ClassId} {A : Nat → Prop} {H0 : Heap} {cells slots : Nat} {Q : State → Prop} (hC : mCx M d scr p R s m args c D σ tA A H0) {pc n a b : Nat} {v : Fin 4} {r : List MEn} {z : List (Option Value)} {st : List Value} {μ : MMe} {S : MSt} (hk : mChk M.1.cls M.2.1 pc ((.aload_n v, n, a, b) :: r) = true) (h : mEx M.2.2.2.2 pc (.aload_n v) n a b r z st μ = some S) (k : mChk M.1.cls M.2.1 S.1 S.2.1 = true → mWk M p l e R s m args below meth c D σ tA A H0 cells slots Q S) : mWk M p l e R s m args below meth c D σ tA A H0 cells slots Q (pc, (.aload_n v, n, a, b) :: r, z, st, μ) := by
  obtain ⟨hd, ho, hr⟩ := mChk.head hk
  intro H locs ls hP hD hS hL
  obtain ⟨hx, hb, hml, hown, hts, hK, hA, hfr, hlo, hok, hsc⟩ := hC
  show W p l e R s m args below meth c H locs cells slots Q (F0 m pc ls (st.map (cV σ)))
  replace hD : va_D A (mW σ tA μ) := hD
  replace hP : va_P D cls_ (mW σ tA μ) H := hP
  replace hL : mL ls M.2.2.1 (cL σ z) := hL
  simp only [mEx] at h
  simp only [mOpd, Bool.and_eq_true, Nat.beq_eq, decide_eq_true_eq] at ho
  subst ho
  split at h
  rotate_left
  · cases h
  rename_i x hz
  cases h
  exact lv_aload_n hx hb hd rfl (hL.get (cL_at hz)) (k hr H locs ls hP hD hS hL)
set_option maxHeartbeats 4000000 in
theorem mEx_aload {M : MB} {d : Nat} {scr : Option (Nat × (Nat → Int32))} {p : Program} {l : Launch} {e : Env} {R : Room} {s : State} {m : MethodId} {args : Array Value} {below : List Frame} {meth : Method} {c : Code} {D : va_G} {σ : Nat → Nat} {tA : Nat → ClassId} {A : Nat → Prop} {H0 : Heap} {cells slots : Nat} {Q : State → Prop} (hC : mCx M d scr p R s m args c D σ tA A H0) {pc n a b : Nat} {v : Nat} {r : List MEn} {z : List (Option Value)} {st : List Value} {μ : MMe} {S : MSt} (hk : mChk M.1.cls M.2.1 pc ((.aload v, n, a, b) :: r) = true) (h : mEx M.2.2.2.2 pc (.aload v) n a b r z st μ = some S) (k : mChk M.1.cls M.2.1 S.1 S.2.1 = true → mWk M p l e R s m args below meth c D σ tA A H0 cells slots Q S) : mWk M p l e R s m args below meth c D σ tA A H0 cells slots Q (pc, (.aload v, n, a, b) :: r, z, st, μ) := by
  obtain ⟨hd, ho, hr⟩ := mChk.head hk
  intro H locs ls hP hD hS hL
  obtain ⟨hx, hb, hml, hown, hts, hK, hA, hfr, hlo, hok, hsc⟩ := hC
  show W p l e R s m args below meth c H locs cells slots Q (F0 m pc ls (st.map (cV σ)))
  replace hD : va_D A (mW σ tA μ) := hD
  replace hP : va_P D cls_ (mW σ tA μ) H := hP
  replace hL : mL ls M.2.2.1 (cL σ z) := hL
  simp only [mEx] at h
  simp only [mOpd, Bool.and_eq_true, Nat.beq_eq, decide_eq_true_eq] at ho
  subst ho
  split at h
  rotate_left
  · cases h
  rename_i x hz
  cases h
  exact lv_aload hx hb hd (hL.get (cL_at hz)) (k hr H locs ls hP hD hS hL)
set_option maxHeartbeats 4000000 in
theorem mEx_istore_n {M : MB} {d : Nat} {scr : Option (Nat × (Nat → Int32))} {p : Program} {l : Launch} {e : Env} {R : Room} {s : State} {m : MethodId} {args : Array Value} {below : List Frame} {meth : Method} {c : Code} {D : va_G} {σ : Nat → Nat} {tA : Nat → ClassId} {A : Nat → Prop} {H0 : Heap} {cells slots : Nat} {Q : State → Prop} (hC : mCx M d scr p R s m args c D σ tA A H0) {pc n a b : Nat} {v : Fin 4} {r : List MEn} {z : List (Option Value)} {st : List Value} {μ : MMe} {S : MSt} (hk : mChk M.1.cls M.2.1 pc ((.istore_n v, n, a, b) :: r) = true) (h : mEx M.2.2.2.2 pc (.istore_n v) n a b r z st μ = some S) (k : mChk M.1.cls M.2.1 S.1 S.2.1 = true → mWk M p l e R s m args below meth c D σ tA A H0 cells slots Q S) : mWk M p l e R s m args below meth c D σ tA A H0 cells slots Q (pc, (.istore_n v, n, a, b) :: r, z, st, μ) := by
  obtain ⟨hd, ho, hr⟩ := mChk.head hk
  intro H locs ls hP hD hS hL
  obtain ⟨hx, hb, hml, hown, hts, hK, hA, hfr, hlo, hok, hsc⟩ := hC
  show W p l e R s m args below meth c H locs cells slots Q (F0 m pc ls (st.map (cV σ)))
  replace hD : va_D A (mW σ tA μ) := hD
  replace hP : va_P D cls_ (mW σ tA μ) H := hP
  replace hL : mL ls M.2.2.1 (cL σ z) := hL
  simp only [mEx] at h
  simp only [mOpd, Bool.and_eq_true, Nat.beq_eq, decide_eq_true_eq] at ho
  subst ho
  split at h
  rotate_left
  · cases h
  rename_i x t
  split at h
  rotate_left
  · cases h
  rename_i hg
  simp only [Bool.and_eq_true, Nat.blt_eq] at hg
  cases h
  refine lv_istore_n hx hb hd rfl hL.1 (by rw [← hL.2, cL_len]; exact hg.1) rfl (fun ls' hls => ?_)
  exact k hr H locs ls' hP hD hS (by rw [cL_set]; exact mL.set1 (hL.2) (by rw [cL_s0]; exact hg.2) hls)
set_option maxHeartbeats 4000000 in
theorem mEx_istore {M : MB} {d : Nat} {scr : Option (Nat × (Nat → Int32))} {p : Program} {l : Launch} {e : Env} {R : Room} {s : State} {m : MethodId} {args : Array Value} {below : List Frame} {meth : Method} {c : Code} {D : va_G} {σ : Nat → Nat} {tA : Nat → ClassId} {A : Nat → Prop} {H0 : Heap} {cells slots : Nat} {Q : State → Prop} (hC : mCx M d scr p R s m args c D σ tA A H0) {pc n a b : Nat} {v : Nat} {r : List MEn} {z : List (Option Value)} {st : List Value} {μ : MMe} {S : MSt} (hk : mChk M.1.cls M.2.1 pc ((.istore v, n, a, b) :: r) = true) (h : mEx M.2.2.2.2 pc (.istore v) n a b r z st μ = some S) (k : mChk M.1.cls M.2.1 S.1 S.2.1 = true → mWk M p l e R s m args below meth c D σ tA A H0 cells slots Q S) : mWk M p l e R s m args below meth c D σ tA A H0 cells slots Q (pc, (.istore v, n, a, b) :: r, z, st, μ) := by
  obtain ⟨hd, ho, hr⟩ := mChk.head hk
  intro H locs ls hP hD hS hL
  obtain ⟨hx, hb, hml, hown, hts, hK, hA, hfr, hlo, hok, hsc⟩ := hC
  show W p l e R s m args below meth c H locs cells slots Q (F0 m pc ls (st.map (cV σ)))
  replace hD : va_D A (mW σ tA μ) := hD
  replace hP : va_P D cls_ (mW σ tA μ) H := hP
  replace hL : mL ls M.2.2.1 (cL σ z) := hL
  simp only [mEx] at h
  simp only [mOpd, Bool.and_eq_true, Nat.beq_eq, decide_eq_true_eq] at ho
  subst ho
  split at h
  rotate_left
  · cases h
  rename_i x t
  split at h
  rotate_left
  · cases h
  rename_i hg
  simp only [Bool.and_eq_true, Nat.blt_eq] at hg
  cases h
  refine lv_istore hx hb hd hL.1 (by rw [← hL.2, cL_len]; exact hg.1) rfl (fun ls' hls => ?_)
  exact k hr H locs ls' hP hD hS (by rw [cL_set]; exact mL.set1 (hL.2) (by rw [cL_s0]; exact hg.2) hls)
set_option maxHeartbeats 4000000 in
theorem mEx_astore_n {M : MB} {d : Nat} {scr : Option (Nat × (Nat → Int32))} {p : Program} {l : Launch} {e : Env} {R : Room} {s : State} {m : MethodId} {args : Array Value} {below : List Frame} {meth : Method} {c : Code} {D : va_G} {σ : Nat → Nat} {tA : Nat → ClassId} {A : Nat → Prop} {H0 : Heap} {cells slots : Nat} {Q : State → Prop} (hC : mCx M d scr p R s m args c D σ tA A H0) {pc n a b : Nat} {v : Fin 4} {r : List MEn} {z : List (Option Value)} {st : List Value} {μ : MMe} {S : MSt} (hk : mChk M.1.cls M.2.1 pc ((.astore_n v, n, a, b) :: r) = true) (h : mEx M.2.2.2.2 pc (.astore_n v) n a b r z st μ = some S) (k : mChk M.1.cls M.2.1 S.1 S.2.1 = true → mWk M p l e R s m args below meth c D σ tA A H0 cells slots Q S) : mWk M p l e R s m args below meth c D σ tA A H0 cells slots Q (pc, (.astore_n v, n, a, b) :: r, z, st, μ) := by
  obtain ⟨hd, ho, hr⟩ := mChk.head hk
  intro H locs ls hP hD hS hL
  obtain ⟨hx, hb, hml, hown, hts, hK, hA, hfr, hlo, hok, hsc⟩ := hC
  show W p l e R s m args below meth c H locs cells slots Q (F0 m pc ls (st.map (cV σ)))
  replace hD : va_D A (mW σ tA μ) := hD
  replace hP : va_P D cls_ (mW σ tA μ) H := hP
  replace hL : mL ls M.2.2.1 (cL σ z) := hL
  simp only [mEx] at h
  simp only [mOpd, Bool.and_eq_true, Nat.beq_eq, decide_eq_true_eq] at ho
  subst ho
  split at h
  rotate_left
  · cases h
  rename_i x t
  split at h
  rotate_left
  · cases h
  rename_i hg
  simp only [Bool.and_eq_true, Nat.blt_eq] at hg
  cases h
  refine lv_astore_n hx hb hd rfl hL.1 (by rw [← hL.2, cL_len]; exact hg.1) rfl (fun ls' hls => ?_)
  exact k hr H locs ls' hP hD hS (by rw [cL_set]; exact mL.set1 (hL.2) (by rw [cL_s0]; exact hg.2) hls)
set_option maxHeartbeats 4000000 in
theorem mEx_astore {M : MB} {d : Nat} {scr : Option (Nat × (Nat → Int32))} {p : Program} {l : Launch} {e : Env} {R : Room} {s : State} {m : MethodId} {args : Array Value} {below : List Frame} {meth : Method} {c : Code} {D : va_G} {σ : Nat → Nat} {tA : Nat → ClassId} {A : Nat → Prop} {H0 : Heap} {cells slots : Nat} {Q : State → Prop} (hC : mCx M d scr p R s m args c D σ tA A H0) {pc n a b : Nat} {v : Nat} {r : List MEn} {z : List (Option Value)} {st : List Value} {μ : MMe} {S : MSt} (hk : mChk M.1.cls M.2.1 pc ((.astore v, n, a, b) :: r) = true) (h : mEx M.2.2.2.2 pc (.astore v) n a b r z st μ = some S) (k : mChk M.1.cls M.2.1 S.1 S.2.1 = true → mWk M p l e R s m args below meth c D σ tA A H0 cells slots Q S) : mWk M p l e R s m args below meth c D σ tA A H0 cells slots Q (pc, (.astore v, n, a, b) :: r, z, st, μ) := by
  obtain ⟨hd, ho, hr⟩ := mChk.head hk
  intro H locs ls hP hD hS hL
  obtain ⟨hx, hb, hml, hown, hts, hK, hA, hfr, hlo, hok, hsc⟩ := hC
  show W p l e R s m args below meth c H locs cells slots Q (F0 m pc ls (st.map (cV σ)))
  replace hD : va_D A (mW σ tA μ) := hD
  replace hP : va_P D cls_ (mW σ tA μ) H := hP
  replace hL : mL ls M.2.2.1 (cL σ z) := hL
  simp only [mEx] at h
  simp only [mOpd, Bool.and_eq_true, Nat.beq_eq, decide_eq_true_eq] at ho
  subst ho
  split at h
  rotate_left
  · cases h
  rename_i x t
  split at h
  rotate_left
  · cases h
  rename_i hg
  simp only [Bool.and_eq_true, Nat.blt_eq] at hg
  cases h
  refine lv_astore hx hb hd hL.1 (by rw [← hL.2, cL_len]; exact hg.1) rfl (fun ls' hls => ?_)
  exact k hr H locs ls' hP hD hS (by rw [cL_set]; exact mL.set1 (hL.2) (by rw [cL_s0]; exact hg.2) hls)
set_option maxHeartbeats 4000000 in
theorem mEx_lstore_n {M : MB} {d : Nat} {scr : Option (Nat × (Nat → Int32))} {p : Program} {l : Launch} {e : Env} {R : Room} {s : State} {m : MethodId} {args : Array Value} {below : List Frame} {meth : Method} {c : Code} {D : va_G} {σ : Nat → Nat} {tA : Nat → ClassId} {A : Nat → Prop} {H0 : Heap} {cells slots : Nat} {Q : State → Prop} (hC : mCx M d scr p R s m args c D σ tA A H0) {pc n a b : Nat} {v : Fin 4} {r : List MEn} {z : List (Option Value)} {st : List Value} {μ : MMe} {S : MSt} (hk : mChk M.1.cls M.2.1 pc ((.lstore_n v, n, a, b) :: r) = true) (h : mEx M.2.2.2.2 pc (.lstore_n v) n a b r z st μ = some S) (k : mChk M.1.cls M.2.1 S.1 S.2.1 = true → mWk M p l e R s m args below meth c D σ tA A H0 cells slots Q S) : mWk M p l e R s m args below meth c D σ tA A H0 cells slots Q (pc, (.lstore_n v, n, a, b) :: r, z, st, μ) := by
  obtain ⟨hd, ho, hr⟩ := mChk.head hk
  intro H locs ls hP hD hS hL
  obtain ⟨hx, hb, hml, hown, hts, hK, hA, hfr, hlo, hok, hsc⟩ := hC
  show W p l e R s m args below meth c H locs cells slots Q (F0 m pc ls (st.map (cV σ)))
  replace hD : va_D A (mW σ tA μ) := hD
  replace hP : va_P D cls_ (mW σ tA μ) H := hP
  replace hL : mL ls M.2.2.1 (cL σ z) := hL
  simp only [mEx] at h
  simp only [mOpd, Bool.and_eq_true, Nat.beq_eq, decide_eq_true_eq] at ho
  subst ho
  split at h
  rotate_left
  · cases h
  rename_i x t
  split at h
  rotate_left
  · cases h
  rename_i hg
  simp only [Bool.and_eq_true, Nat.blt_eq] at hg
  cases h
  refine lv_lstore_n hx hb hd rfl hL.1 (by rw [← hL.2, cL_len]; exact hg.1) rfl (fun ls' hls => ?_)
  exact k hr H locs ls' hP hD hS (by rw [cL_set, cL_set]; exact mL.set2 (hL.2) (by rw [cL_s0]; exact hg.2) hls)
set_option maxHeartbeats 4000000 in
theorem mEx_lstore {M : MB} {d : Nat} {scr : Option (Nat × (Nat → Int32))} {p : Program} {l : Launch} {e : Env} {R : Room} {s : State} {m : MethodId} {args : Array Value} {below : List Frame} {meth : Method} {c : Code} {D : va_G} {σ : Nat → Nat} {tA : Nat → ClassId} {A : Nat → Prop} {H0 : Heap} {cells slots : Nat} {Q : State → Prop} (hC : mCx M d scr p R s m args c D σ tA A H0) {pc n a b : Nat} {v : Nat} {r : List MEn} {z : List (Option Value)} {st : List Value} {μ : MMe} {S : MSt} (hk : mChk M.1.cls M.2.1 pc ((.lstore v, n, a, b) :: r) = true) (h : mEx M.2.2.2.2 pc (.lstore v) n a b r z st μ = some S) (k : mChk M.1.cls M.2.1 S.1 S.2.1 = true → mWk M p l e R s m args below meth c D σ tA A H0 cells slots Q S) : mWk M p l e R s m args below meth c D σ tA A H0 cells slots Q (pc, (.lstore v, n, a, b) :: r, z, st, μ) := by
  obtain ⟨hd, ho, hr⟩ := mChk.head hk
  intro H locs ls hP hD hS hL
  obtain ⟨hx, hb, hml, hown, hts, hK, hA, hfr, hlo, hok, hsc⟩ := hC
  show W p l e R s m args below meth c H locs cells slots Q (F0 m pc ls (st.map (cV σ)))
  replace hD : va_D A (mW σ tA μ) := hD
  replace hP : va_P D cls_ (mW σ tA μ) H := hP
  replace hL : mL ls M.2.2.1 (cL σ z) := hL
  simp only [mEx] at h
  simp only [mOpd, Bool.and_eq_true, Nat.beq_eq, decide_eq_true_eq] at ho
  subst ho
  split at h
  rotate_left
  · cases h
  rename_i x t
  split at h
  rotate_left
  · cases h
  rename_i hg
  simp only [Bool.and_eq_true, Nat.blt_eq] at hg
  cases h
  refine lv_lstore hx hb hd hL.1 (by rw [← hL.2, cL_len]; exact hg.1) rfl (fun ls' hls => ?_)
  exact k hr H locs ls' hP hD hS (by rw [cL_set, cL_set]; exact mL.set2 (hL.2) (by rw [cL_s0]; exact hg.2) hls)
set_option maxHeartbeats 4000000 in
theorem mEx_iinc {M : MB} {d : Nat} {scr : Option (Nat × (Nat → Int32))} {p : Program} {l : Launch} {e : Env} {R : Room} {s : State} {m : MethodId} {args : Array Value} {below : List Frame} {meth : Method} {c : Code} {D : va_G} {σ : Nat → Nat} {tA : Nat → ClassId} {A : Nat → Prop} {H0 : Heap} {cells slots : Nat} {Q : State → Prop} (hC : mCx M d scr p R s m args c D σ tA A H0) {pc n a b : Nat} {v : Nat} {cc : Int} {r : List MEn} {z : List (Option Value)} {st : List Value} {μ : MMe} {S : MSt} (hk : mChk M.1.cls M.2.1 pc ((.iinc v cc, n, a, b) :: r) = true) (h : mEx M.2.2.2.2 pc (.iinc v cc) n a b r z st μ = some S) (k : mChk M.1.cls M.2.1 S.1 S.2.1 = true → mWk M p l e R s m args below meth c D σ tA A H0 cells slots Q S) : mWk M p l e R s m args below meth c D σ tA A H0 cells slots Q (pc, (.iinc v cc, n, a, b) :: r, z, st, μ) := by
  obtain ⟨hd, ho, hr⟩ := mChk.head hk
  intro H locs ls hP hD hS hL
  obtain ⟨hx, hb, hml, hown, hts, hK, hA, hfr, hlo, hok, hsc⟩ := hC
  show W p l e R s m args below meth c H locs cells slots Q (F0 m pc ls (st.map (cV σ)))
  replace hD : va_D A (mW σ tA μ) := hD
  replace hP : va_P D cls_ (mW σ tA μ) H := hP
  replace hL : mL ls M.2.2.1 (cL σ z) := hL
  simp only [mEx] at h
  simp only [mOpd, Bool.and_eq_true, Nat.beq_eq, decide_eq_true_eq] at ho
  obtain ⟨rfl, ho⟩ := ho
  split at h
  rotate_left
  · cases h
  rename_i x hz
  split at h
  rotate_left
  · cases h
  rename_i hg
  simp only [Bool.and_eq_true, Nat.blt_eq] at hg
  cases h
  obtain ⟨j, hj⟩ := List.getElem?_of_mem (mAs_iff.mpr (cL_at (σ := σ) hz))
  refine lv_iinc (v := x + mC cc) hx hb hd hL.1 (k := j) hj (by rw [ho]) (by rw [← hL.2, cL_len]; exact hg.1) rfl (fun ls' hls => ?_)
  exact k hr H locs ls' hP hD hS (by rw [cL_set]; exact mL.set1 (hL.2) (by rw [cL_s0]; exact hg.2) hls)
set_option maxHeartbeats 4000000 in
theorem mEx_iadd {M : MB} {d : Nat} {scr : Option (Nat × (Nat → Int32))} {p : Program} {l : Launch} {e : Env} {R : Room} {s : State} {m : MethodId} {args : Array Value} {below : List Frame} {meth : Method} {c : Code} {D : va_G} {σ : Nat → Nat} {tA : Nat → ClassId} {A : Nat → Prop} {H0 : Heap} {cells slots : Nat} {Q : State → Prop} (hC : mCx M d scr p R s m args c D σ tA A H0) {pc n a b : Nat} {r : List MEn} {z : List (Option Value)} {st : List Value} {μ : MMe} {S : MSt} (hk : mChk M.1.cls M.2.1 pc ((.iadd, n, a, b) :: r) = true) (h : mEx M.2.2.2.2 pc (.iadd) n a b r z st μ = some S) (k : mChk M.1.cls M.2.1 S.1 S.2.1 = true → mWk M p l e R s m args below meth c D σ tA A H0 cells slots Q S) : mWk M p l e R s m args below meth c D σ tA A H0 cells slots Q (pc, (.iadd, n, a, b) :: r, z, st, μ) := by
  obtain ⟨hd, ho, hr⟩ := mChk.head hk
  intro H locs ls hP hD hS hL
  obtain ⟨hx, hb, hml, hown, hts, hK, hA, hfr, hlo, hok, hsc⟩ := hC
  show W p l e R s m args below meth c H locs cells slots Q (F0 m pc ls (st.map (cV σ)))
  replace hD : va_D A (mW σ tA μ) := hD
  replace hP : va_P D cls_ (mW σ tA μ) H := hP
  replace hL : mL ls M.2.2.1 (cL σ z) := hL
  simp only [mEx] at h
  simp only [mOpd, Bool.and_eq_true, Nat.beq_eq, decide_eq_true_eq] at ho
  subst ho
  split at h
  rotate_left
  · cases h
  rename_i y x t
  cases h
  exact lv_iadd hx hb hd (k hr H locs ls hP hD hS hL)
set_option maxHeartbeats 4000000 in
theorem mEx_isub {M : MB} {d : Nat} {scr : Option (Nat × (Nat → Int32))} {p : Program} {l : Launch} {e : Env} {R : Room} {s : State} {m : MethodId} {args : Array Value} {below : List Frame} {meth : Method} {c : Code} {D : va_G} {σ : Nat → Nat} {tA : Nat → ClassId} {A : Nat → Prop} {H0 : Heap} {cells slots : Nat} {Q : State → Prop} (hC : mCx M d scr p R s m args c D σ tA A H0) {pc n a b : Nat} {r : List MEn} {z : List (Option Value)} {st : List Value} {μ : MMe} {S : MSt} (hk : mChk M.1.cls M.2.1 pc ((.isub, n, a, b) :: r) = true) (h : mEx M.2.2.2.2 pc (.isub) n a b r z st μ = some S) (k : mChk M.1.cls M.2.1 S.1 S.2.1 = true → mWk M p l e R s m args below meth c D σ tA A H0 cells slots Q S) : mWk M p l e R s m args below meth c D σ tA A H0 cells slots Q (pc, (.isub, n, a, b) :: r, z, st, μ) := by
  obtain ⟨hd, ho, hr⟩ := mChk.head hk
  intro H locs ls hP hD hS hL
  obtain ⟨hx, hb, hml, hown, hts, hK, hA, hfr, hlo, hok, hsc⟩ := hC
  show W p l e R s m args below meth c H locs cells slots Q (F0 m pc ls (st.map (cV σ)))
  replace hD : va_D A (mW σ tA μ) := hD
  replace hP : va_P D cls_ (mW σ tA μ) H := hP
  replace hL : mL ls M.2.2.1 (cL σ z) := hL
  simp only [mEx] at h
  simp only [mOpd, Bool.and_eq_true, Nat.beq_eq, decide_eq_true_eq] at ho
  subst ho
  split at h
  rotate_left
  · cases h
  rename_i y x t
  cases h
  exact lv_isub hx hb hd (k hr H locs ls hP hD hS hL)
set_option maxHeartbeats 4000000 in
theorem mEx_imul {M : MB} {d : Nat} {scr : Option (Nat × (Nat → Int32))} {p : Program} {l : Launch} {e : Env} {R : Room} {s : State} {m : MethodId} {args : Array Value} {below : List Frame} {meth : Method} {c : Code} {D : va_G} {σ : Nat → Nat} {tA : Nat → ClassId} {A : Nat → Prop} {H0 : Heap} {cells slots : Nat} {Q : State → Prop} (hC : mCx M d scr p R s m args c D σ tA A H0) {pc n a b : Nat} {r : List MEn} {z : List (Option Value)} {st : List Value} {μ : MMe} {S : MSt} (hk : mChk M.1.cls M.2.1 pc ((.imul, n, a, b) :: r) = true) (h : mEx M.2.2.2.2 pc (.imul) n a b r z st μ = some S) (k : mChk M.1.cls M.2.1 S.1 S.2.1 = true → mWk M p l e R s m args below meth c D σ tA A H0 cells slots Q S) : mWk M p l e R s m args below meth c D σ tA A H0 cells slots Q (pc, (.imul, n, a, b) :: r, z, st, μ) := by
  obtain ⟨hd, ho, hr⟩ := mChk.head hk
  intro H locs ls hP hD hS hL
  obtain ⟨hx, hb, hml, hown, hts, hK, hA, hfr, hlo, hok, hsc⟩ := hC
  show W p l e R s m args below meth c H locs cells slots Q (F0 m pc ls (st.map (cV σ)))
  replace hD : va_D A (mW σ tA μ) := hD
  replace hP : va_P D cls_ (mW σ tA μ) H := hP
  replace hL : mL ls M.2.2.1 (cL σ z) := hL
  simp only [mEx] at h
  simp only [mOpd, Bool.and_eq_true, Nat.beq_eq, decide_eq_true_eq] at ho
  subst ho
  split at h
  rotate_left
  · cases h
  rename_i y x t
  cases h
  exact lv_imul hx hb hd (k hr H locs ls hP hD hS hL)
set_option maxHeartbeats 4000000 in
theorem mEx_iand {M : MB} {d : Nat} {scr : Option (Nat × (Nat → Int32))} {p : Program} {l : Launch} {e : Env} {R : Room} {s : State} {m : MethodId} {args : Array Value} {below : List Frame} {meth : Method} {c : Code} {D : va_G} {σ : Nat → Nat} {tA : Nat → ClassId} {A : Nat → Prop} {H0 : Heap} {cells slots : Nat} {Q : State → Prop} (hC : mCx M d scr p R s m args c D σ tA A H0) {pc n a b : Nat} {r : List MEn} {z : List (Option Value)} {st : List Value} {μ : MMe} {S : MSt} (hk : mChk M.1.cls M.2.1 pc ((.iand, n, a, b) :: r) = true) (h : mEx M.2.2.2.2 pc (.iand) n a b r z st μ = some S) (k : mChk M.1.cls M.2.1 S.1 S.2.1 = true → mWk M p l e R s m args below meth c D σ tA A H0 cells slots Q S) : mWk M p l e R s m args below meth c D σ tA A H0 cells slots Q (pc, (.iand, n, a, b) :: r, z, st, μ) := by
  obtain ⟨hd, ho, hr⟩ := mChk.head hk
  intro H locs ls hP hD hS hL
  obtain ⟨hx, hb, hml, hown, hts, hK, hA, hfr, hlo, hok, hsc⟩ := hC
  show W p l e R s m args below meth c H locs cells slots Q (F0 m pc ls (st.map (cV σ)))
  replace hD : va_D A (mW σ tA μ) := hD
  replace hP : va_P D cls_ (mW σ tA μ) H := hP
  replace hL : mL ls M.2.2.1 (cL σ z) := hL
  simp only [mEx] at h
  simp only [mOpd, Bool.and_eq_true, Nat.beq_eq, decide_eq_true_eq] at ho
  subst ho
  split at h
  rotate_left
  · cases h
  rename_i y x t
  cases h
  exact lv_iand hx hb hd (k hr H locs ls hP hD hS hL)
set_option maxHeartbeats 4000000 in
theorem mEx_ixor {M : MB} {d : Nat} {scr : Option (Nat × (Nat → Int32))} {p : Program} {l : Launch} {e : Env} {R : Room} {s : State} {m : MethodId} {args : Array Value} {below : List Frame} {meth : Method} {c : Code} {D : va_G} {σ : Nat → Nat} {tA : Nat → ClassId} {A : Nat → Prop} {H0 : Heap} {cells slots : Nat} {Q : State → Prop} (hC : mCx M d scr p R s m args c D σ tA A H0) {pc n a b : Nat} {r : List MEn} {z : List (Option Value)} {st : List Value} {μ : MMe} {S : MSt} (hk : mChk M.1.cls M.2.1 pc ((.ixor, n, a, b) :: r) = true) (h : mEx M.2.2.2.2 pc (.ixor) n a b r z st μ = some S) (k : mChk M.1.cls M.2.1 S.1 S.2.1 = true → mWk M p l e R s m args below meth c D σ tA A H0 cells slots Q S) : mWk M p l e R s m args below meth c D σ tA A H0 cells slots Q (pc, (.ixor, n, a, b) :: r, z, st, μ) := by
  obtain ⟨hd, ho, hr⟩ := mChk.head hk
  intro H locs ls hP hD hS hL
  obtain ⟨hx, hb, hml, hown, hts, hK, hA, hfr, hlo, hok, hsc⟩ := hC
  show W p l e R s m args below meth c H locs cells slots Q (F0 m pc ls (st.map (cV σ)))
  replace hD : va_D A (mW σ tA μ) := hD
  replace hP : va_P D cls_ (mW σ tA μ) H := hP
  replace hL : mL ls M.2.2.1 (cL σ z) := hL
  simp only [mEx] at h
  simp only [mOpd, Bool.and_eq_true, Nat.beq_eq, decide_eq_true_eq] at ho
  subst ho
  split at h
  rotate_left
  · cases h
  rename_i y x t
  cases h
  exact lv_ixor hx hb hd (k hr H locs ls hP hD hS hL)
set_option maxHeartbeats 4000000 in
theorem mEx_ladd {M : MB} {d : Nat} {scr : Option (Nat × (Nat → Int32))} {p : Program} {l : Launch} {e : Env} {R : Room} {s : State} {m : MethodId} {args : Array Value} {below : List Frame} {meth : Method} {c : Code} {D : va_G} {σ : Nat → Nat} {tA : Nat → ClassId} {A : Nat → Prop} {H0 : Heap} {cells slots : Nat} {Q : State → Prop} (hC : mCx M d scr p R s m args c D σ tA A H0) {pc n a b : Nat} {r : List MEn} {z : List (Option Value)} {st : List Value} {μ : MMe} {S : MSt} (hk : mChk M.1.cls M.2.1 pc ((.ladd, n, a, b) :: r) = true) (h : mEx M.2.2.2.2 pc (.ladd) n a b r z st μ = some S) (k : mChk M.1.cls M.2.1 S.1 S.2.1 = true → mWk M p l e R s m args below meth c D σ tA A H0 cells slots Q S) : mWk M p l e R s m args below meth c D σ tA A H0 cells slots Q (pc, (.ladd, n, a, b) :: r, z, st, μ) := by
  obtain ⟨hd, ho, hr⟩ := mChk.head hk
  intro H locs ls hP hD hS hL
  obtain ⟨hx, hb, hml, hown, hts, hK, hA, hfr, hlo, hok, hsc⟩ := hC
  show W p l e R s m args below meth c H locs cells slots Q (F0 m pc ls (st.map (cV σ)))
  replace hD : va_D A (mW σ tA μ) := hD
  replace hP : va_P D cls_ (mW σ tA μ) H := hP
  replace hL : mL ls M.2.2.1 (cL σ z) := hL
  simp only [mEx] at h
  simp only [mOpd, Bool.and_eq_true, Nat.beq_eq, decide_eq_true_eq] at ho
  subst ho
  split at h
  rotate_left
  · cases h
  rename_i y x t
  cases h
  exact lv_ladd hx hb hd (k hr H locs ls hP hD hS hL)
set_option maxHeartbeats 4000000 in
theorem mEx_lmul {M : MB} {d : Nat} {scr : Option (Nat × (Nat → Int32))} {p : Program} {l : Launch} {e : Env} {R : Room} {s : State} {m : MethodId} {args : Array Value} {below : List Frame} {meth : Method} {c : Code} {D : va_G} {σ : Nat → Nat} {tA : Nat → ClassId} {A : Nat → Prop} {H0 : Heap} {cells slots : Nat} {Q : State → Prop} (hC : mCx M d scr p R s m args c D σ tA A H0) {pc n a b : Nat} {r : List MEn} {z : List (Option Value)} {st : List Value} {μ : MMe} {S : MSt} (hk : mChk M.1.cls M.2.1 pc ((.lmul, n, a, b) :: r) = true) (h : mEx M.2.2.2.2 pc (.lmul) n a b r z st μ = some S) (k : mChk M.1.cls M.2.1 S.1 S.2.1 = true → mWk M p l e R s m args below meth c D σ tA A H0 cells slots Q S) : mWk M p l e R s m args below meth c D σ tA A H0 cells slots Q (pc, (.lmul, n, a, b) :: r, z, st, μ) := by
  obtain ⟨hd, ho, hr⟩ := mChk.head hk
  intro H locs ls hP hD hS hL
  obtain ⟨hx, hb, hml, hown, hts, hK, hA, hfr, hlo, hok, hsc⟩ := hC
  show W p l e R s m args below meth c H locs cells slots Q (F0 m pc ls (st.map (cV σ)))
  replace hD : va_D A (mW σ tA μ) := hD
  replace hP : va_P D cls_ (mW σ tA μ) H := hP
  replace hL : mL ls M.2.2.1 (cL σ z) := hL
  simp only [mEx] at h
  simp only [mOpd, Bool.and_eq_true, Nat.beq_eq, decide_eq_true_eq] at ho
  subst ho
  split at h
  rotate_left
  · cases h
  rename_i y x t
  cases h
  exact lv_lmul hx hb hd (k hr H locs ls hP hD hS hL)
set_option maxHeartbeats 4000000 in
theorem mEx_lcmp {M : MB} {d : Nat} {scr : Option (Nat × (Nat → Int32))} {p : Program} {l : Launch} {e : Env} {R : Room} {s : State} {m : MethodId} {args : Array Value} {below : List Frame} {meth : Method} {c : Code} {D : va_G} {σ : Nat → Nat} {tA : Nat → ClassId} {A : Nat → Prop} {H0 : Heap} {cells slots : Nat} {Q : State → Prop} (hC : mCx M d scr p R s m args c D σ tA A H0) {pc n a b : Nat} {r : List MEn} {z : List (Option Value)} {st : List Value} {μ : MMe} {S : MSt} (hk : mChk M.1.cls M.2.1 pc ((.lcmp, n, a, b) :: r) = true) (h : mEx M.2.2.2.2 pc (.lcmp) n a b r z st μ = some S) (k : mChk M.1.cls M.2.1 S.1 S.2.1 = true → mWk M p l e R s m args below meth c D σ tA A H0 cells slots Q S) : mWk M p l e R s m args below meth c D σ tA A H0 cells slots Q (pc, (.lcmp, n, a, b) :: r, z, st, μ) := by
  obtain ⟨hd, ho, hr⟩ := mChk.head hk
  intro H locs ls hP hD hS hL
  obtain ⟨hx, hb, hml, hown, hts, hK, hA, hfr, hlo, hok, hsc⟩ := hC
  show W p l e R s m args below meth c H locs cells slots Q (F0 m pc ls (st.map (cV σ)))
  replace hD : va_D A (mW σ tA μ) := hD
  replace hP : va_P D cls_ (mW σ tA μ) H := hP
  replace hL : mL ls M.2.2.1 (cL σ z) := hL
  simp only [mEx] at h
  simp only [mOpd, Bool.and_eq_true, Nat.beq_eq, decide_eq_true_eq] at ho
  subst ho
  split at h
  rotate_left
  · cases h
  rename_i y x t
  cases h
  exact W.lcmp hx hb hd (k hr H locs ls hP hD hS hL)
set_option maxHeartbeats 4000000 in
theorem mEx_ineg {M : MB} {d : Nat} {scr : Option (Nat × (Nat → Int32))} {p : Program} {l : Launch} {e : Env} {R : Room} {s : State} {m : MethodId} {args : Array Value} {below : List Frame} {meth : Method} {c : Code} {D : va_G} {σ : Nat → Nat} {tA : Nat → ClassId} {A : Nat → Prop} {H0 : Heap} {cells slots : Nat} {Q : State → Prop} (hC : mCx M d scr p R s m args c D σ tA A H0) {pc n a b : Nat} {r : List MEn} {z : List (Option Value)} {st : List Value} {μ : MMe} {S : MSt} (hk : mChk M.1.cls M.2.1 pc ((.ineg, n, a, b) :: r) = true) (h : mEx M.2.2.2.2 pc (.ineg) n a b r z st μ = some S) (k : mChk M.1.cls M.2.1 S.1 S.2.1 = true → mWk M p l e R s m args below meth c D σ tA A H0 cells slots Q S) : mWk M p l e R s m args below meth c D σ tA A H0 cells slots Q (pc, (.ineg, n, a, b) :: r, z, st, μ) := by
  obtain ⟨hd, ho, hr⟩ := mChk.head hk
  intro H locs ls hP hD hS hL
  obtain ⟨hx, hb, hml, hown, hts, hK, hA, hfr, hlo, hok, hsc⟩ := hC
  show W p l e R s m args below meth c H locs cells slots Q (F0 m pc ls (st.map (cV σ)))
  replace hD : va_D A (mW σ tA μ) := hD
  replace hP : va_P D cls_ (mW σ tA μ) H := hP
  replace hL : mL ls M.2.2.1 (cL σ z) := hL
  simp only [mEx] at h
  simp only [mOpd, Bool.and_eq_true, Nat.beq_eq, decide_eq_true_eq] at ho
  subst ho
  split at h
  rotate_left
  · cases h
  rename_i x t
  cases h
  exact lv_ineg hx hb hd (k hr H locs ls hP hD hS hL)
set_option maxHeartbeats 4000000 in
theorem mEx_i2l {M : MB} {d : Nat} {scr : Option (Nat × (Nat → Int32))} {p : Program} {l : Launch} {e : Env} {R : Room} {s : State} {m : MethodId} {args : Array Value} {below : List Frame} {meth : Method} {c : Code} {D : va_G} {σ : Nat → Nat} {tA : Nat → ClassId} {A : Nat → Prop} {H0 : Heap} {cells slots : Nat} {Q : State → Prop} (hC : mCx M d scr p R s m args c D σ tA A H0) {pc n a b : Nat} {r : List MEn} {z : List (Option Value)} {st : List Value} {μ : MMe} {S : MSt} (hk : mChk M.1.cls M.2.1 pc ((.i2l, n, a, b) :: r) = true) (h : mEx M.2.2.2.2 pc (.i2l) n a b r z st μ = some S) (k : mChk M.1.cls M.2.1 S.1 S.2.1 = true → mWk M p l e R s m args below meth c D σ tA A H0 cells slots Q S) : mWk M p l e R s m args below meth c D σ tA A H0 cells slots Q (pc, (.i2l, n, a, b) :: r, z, st, μ) := by
  obtain ⟨hd, ho, hr⟩ := mChk.head hk
  intro H locs ls hP hD hS hL
  obtain ⟨hx, hb, hml, hown, hts, hK, hA, hfr, hlo, hok, hsc⟩ := hC
  show W p l e R s m args below meth c H locs cells slots Q (F0 m pc ls (st.map (cV σ)))
  replace hD : va_D A (mW σ tA μ) := hD
  replace hP : va_P D cls_ (mW σ tA μ) H := hP
  replace hL : mL ls M.2.2.1 (cL σ z) := hL
  simp only [mEx] at h
  simp only [mOpd, Bool.and_eq_true, Nat.beq_eq, decide_eq_true_eq] at ho
  subst ho
  split at h
  rotate_left
  · cases h
  rename_i x t
  cases h
  exact lv_i2l hx hb hd rfl (k hr H locs ls hP hD hS hL)
set_option maxHeartbeats 4000000 in
theorem mEx_l2i {M : MB} {d : Nat} {scr : Option (Nat × (Nat → Int32))} {p : Program} {l : Launch} {e : Env} {R : Room} {s : State} {m : MethodId} {args : Array Value} {below : List Frame} {meth : Method} {c : Code} {D : va_G} {σ : Nat → Nat} {tA : Nat → ClassId} {A : Nat → Prop} {H0 : Heap} {cells slots : Nat} {Q : State → Prop} (hC : mCx M d scr p R s m args c D σ tA A H0) {pc n a b : Nat} {r : List MEn} {z : List (Option Value)} {st : List Value} {μ : MMe} {S : MSt} (hk : mChk M.1.cls M.2.1 pc ((.l2i, n, a, b) :: r) = true) (h : mEx M.2.2.2.2 pc (.l2i) n a b r z st μ = some S) (k : mChk M.1.cls M.2.1 S.1 S.2.1 = true → mWk M p l e R s m args below meth c D σ tA A H0 cells slots Q S) : mWk M p l e R s m args below meth c D σ tA A H0 cells slots Q (pc, (.l2i, n, a, b) :: r, z, st, μ) := by
  obtain ⟨hd, ho, hr⟩ := mChk.head hk
  intro H locs ls hP hD hS hL
  obtain ⟨hx, hb, hml, hown, hts, hK, hA, hfr, hlo, hok, hsc⟩ := hC
  show W p l e R s m args below meth c H locs cells slots Q (F0 m pc ls (st.map (cV σ)))
  replace hD : va_D A (mW σ tA μ) := hD
  replace hP : va_P D cls_ (mW σ tA μ) H := hP
  replace hL : mL ls M.2.2.1 (cL σ z) := hL
  simp only [mEx] at h
  simp only [mOpd, Bool.and_eq_true, Nat.beq_eq, decide_eq_true_eq] at ho
  subst ho
  split at h
  rotate_left
  · cases h
  rename_i x t
  cases h
  exact lv_l2i hx hb hd rfl (k hr H locs ls hP hD hS hL)
set_option maxHeartbeats 4000000 in
theorem mEx_idiv {M : MB} {d : Nat} {scr : Option (Nat × (Nat → Int32))} {p : Program} {l : Launch} {e : Env} {R : Room} {s : State} {m : MethodId} {args : Array Value} {below : List Frame} {meth : Method} {c : Code} {D : va_G} {σ : Nat → Nat} {tA : Nat → ClassId} {A : Nat → Prop} {H0 : Heap} {cells slots : Nat} {Q : State → Prop} (hC : mCx M d scr p R s m args c D σ tA A H0) {pc n a b : Nat} {r : List MEn} {z : List (Option Value)} {st : List Value} {μ : MMe} {S : MSt} (hk : mChk M.1.cls M.2.1 pc ((.idiv, n, a, b) :: r) = true) (h : mEx M.2.2.2.2 pc (.idiv) n a b r z st μ = some S) (k : mChk M.1.cls M.2.1 S.1 S.2.1 = true → mWk M p l e R s m args below meth c D σ tA A H0 cells slots Q S) : mWk M p l e R s m args below meth c D σ tA A H0 cells slots Q (pc, (.idiv, n, a, b) :: r, z, st, μ) := by
  obtain ⟨hd, ho, hr⟩ := mChk.head hk
  intro H locs ls hP hD hS hL
  obtain ⟨hx, hb, hml, hown, hts, hK, hA, hfr, hlo, hok, hsc⟩ := hC
  show W p l e R s m args below meth c H locs cells slots Q (F0 m pc ls (st.map (cV σ)))
  replace hD : va_D A (mW σ tA μ) := hD
  replace hP : va_P D cls_ (mW σ tA μ) H := hP
  replace hL : mL ls M.2.2.1 (cL σ z) := hL
  simp only [mEx] at h
  simp only [mOpd, Bool.and_eq_true, Nat.beq_eq, decide_eq_true_eq] at ho
  subst ho
  split at h
  rotate_left
  · cases h
  rename_i y x t
  split at h
  rotate_left
  · cases h
  rename_i hg
  cases h
  exact lv_idiv hx hb hd (by rw [← nI_0]; exact hg) (k hr H locs ls hP hD hS hL)
set_option maxHeartbeats 4000000 in
theorem mEx_irem {M : MB} {d : Nat} {scr : Option (Nat × (Nat → Int32))} {p : Program} {l : Launch} {e : Env} {R : Room} {s : State} {m : MethodId} {args : Array Value} {below : List Frame} {meth : Method} {c : Code} {D : va_G} {σ : Nat → Nat} {tA : Nat → ClassId} {A : Nat → Prop} {H0 : Heap} {cells slots : Nat} {Q : State → Prop} (hC : mCx M d scr p R s m args c D σ tA A H0) {pc n a b : Nat} {r : List MEn} {z : List (Option Value)} {st : List Value} {μ : MMe} {S : MSt} (hk : mChk M.1.cls M.2.1 pc ((.irem, n, a, b) :: r) = true) (h : mEx M.2.2.2.2 pc (.irem) n a b r z st μ = some S) (k : mChk M.1.cls M.2.1 S.1 S.2.1 = true → mWk M p l e R s m args below meth c D σ tA A H0 cells slots Q S) : mWk M p l e R s m args below meth c D σ tA A H0 cells slots Q (pc, (.irem, n, a, b) :: r, z, st, μ) := by
  obtain ⟨hd, ho, hr⟩ := mChk.head hk
  intro H locs ls hP hD hS hL
  obtain ⟨hx, hb, hml, hown, hts, hK, hA, hfr, hlo, hok, hsc⟩ := hC
  show W p l e R s m args below meth c H locs cells slots Q (F0 m pc ls (st.map (cV σ)))
  replace hD : va_D A (mW σ tA μ) := hD
  replace hP : va_P D cls_ (mW σ tA μ) H := hP
  replace hL : mL ls M.2.2.1 (cL σ z) := hL
  simp only [mEx] at h
  simp only [mOpd, Bool.and_eq_true, Nat.beq_eq, decide_eq_true_eq] at ho
  subst ho
  split at h
  rotate_left
  · cases h
  rename_i y x t
  split at h
  rotate_left
  · cases h
  rename_i hg
  cases h
  exact lv_irem hx hb hd (by rw [← nI_0]; exact hg) (k hr H locs ls hP hD hS hL)
set_option maxHeartbeats 4000000 in
theorem mEx_lrem {M : MB} {d : Nat} {scr : Option (Nat × (Nat → Int32))} {p : Program} {l : Launch} {e : Env} {R : Room} {s : State} {m : MethodId} {args : Array Value} {below : List Frame} {meth : Method} {c : Code} {D : va_G} {σ : Nat → Nat} {tA : Nat → ClassId} {A : Nat → Prop} {H0 : Heap} {cells slots : Nat} {Q : State → Prop} (hC : mCx M d scr p R s m args c D σ tA A H0) {pc n a b : Nat} {r : List MEn} {z : List (Option Value)} {st : List Value} {μ : MMe} {S : MSt} (hk : mChk M.1.cls M.2.1 pc ((.lrem, n, a, b) :: r) = true) (h : mEx M.2.2.2.2 pc (.lrem) n a b r z st μ = some S) (k : mChk M.1.cls M.2.1 S.1 S.2.1 = true → mWk M p l e R s m args below meth c D σ tA A H0 cells slots Q S) : mWk M p l e R s m args below meth c D σ tA A H0 cells slots Q (pc, (.lrem, n, a, b) :: r, z, st, μ) := by
  obtain ⟨hd, ho, hr⟩ := mChk.head hk
  intro H locs ls hP hD hS hL
  obtain ⟨hx, hb, hml, hown, hts, hK, hA, hfr, hlo, hok, hsc⟩ := hC
  show W p l e R s m args below meth c H locs cells slots Q (F0 m pc ls (st.map (cV σ)))
  replace hD : va_D A (mW σ tA μ) := hD
  replace hP : va_P D cls_ (mW σ tA μ) H := hP
  replace hL : mL ls M.2.2.1 (cL σ z) := hL
  simp only [mEx] at h
  simp only [mOpd, Bool.and_eq_true, Nat.beq_eq, decide_eq_true_eq] at ho
  subst ho
  split at h
  rotate_left
  · cases h
  rename_i y x t
  split at h
  rotate_left
  · cases h
  rename_i hg
  cases h
  exact lv_lrem hx hb hd (by exact hg) (k hr H locs ls hP hD hS hL)
set_option maxHeartbeats 4000000 in
theorem mEx_dup {M : MB} {d : Nat} {scr : Option (Nat × (Nat → Int32))} {p : Program} {l : Launch} {e : Env} {R : Room} {s : State} {m : MethodId} {args : Array Value} {below : List Frame} {meth : Method} {c : Code} {D : va_G} {σ : Nat → Nat} {tA : Nat → ClassId} {A : Nat → Prop} {H0 : Heap} {cells slots : Nat} {Q : State → Prop} (hC : mCx M d scr p R s m args c D σ tA A H0) {pc n a b : Nat} {r : List MEn} {z : List (Option Value)} {st : List Value} {μ : MMe} {S : MSt} (hk : mChk M.1.cls M.2.1 pc ((.dup, n, a, b) :: r) = true) (h : mEx M.2.2.2.2 pc (.dup) n a b r z st μ = some S) (k : mChk M.1.cls M.2.1 S.1 S.2.1 = true → mWk M p l e R s m args below meth c D σ tA A H0 cells slots Q S) : mWk M p l e R s m args below meth c D σ tA A H0 cells slots Q (pc, (.dup, n, a, b) :: r, z, st, μ) := by
  obtain ⟨hd, ho, hr⟩ := mChk.head hk
  intro H locs ls hP hD hS hL
  obtain ⟨hx, hb, hml, hown, hts, hK, hA, hfr, hlo, hok, hsc⟩ := hC
  show W p l e R s m args below meth c H locs cells slots Q (F0 m pc ls (st.map (cV σ)))
  replace hD : va_D A (mW σ tA μ) := hD
  replace hP : va_P D cls_ (mW σ tA μ) H := hP
  replace hL : mL ls M.2.2.1 (cL σ z) := hL
  simp only [mEx] at h
  simp only [mOpd, Bool.and_eq_true, Nat.beq_eq, decide_eq_true_eq] at ho
  subst ho
  split at h
  · rename_i x t
    cases h
    exact lv_dup hx hb hd rfl (k hr H locs ls hP hD hS hL)
  · rename_i x t
    cases h
    exact lv_dup hx hb hd rfl (k hr H locs ls hP hD hS hL)
  · cases h
set_option maxHeartbeats 4000000 in
theorem mEx_dup2 {M : MB} {d : Nat} {scr : Option (Nat × (Nat → Int32))} {p : Program} {l : Launch} {e : Env} {R : Room} {s : State} {m : MethodId} {args : Array Value} {below : List Frame} {meth : Method} {c : Code} {D : va_G} {σ : Nat → Nat} {tA : Nat → ClassId} {A : Nat → Prop} {H0 : Heap} {cells slots : Nat} {Q : State → Prop} (hC : mCx M d scr p R s m args c D σ tA A H0) {pc n a b : Nat} {r : List MEn} {z : List (Option Value)} {st : List Value} {μ : MMe} {S : MSt} (hk : mChk M.1.cls M.2.1 pc ((.dup2, n, a, b) :: r) = true) (h : mEx M.2.2.2.2 pc (.dup2) n a b r z st μ = some S) (k : mChk M.1.cls M.2.1 S.1 S.2.1 = true → mWk M p l e R s m args below meth c D σ tA A H0 cells slots Q S) : mWk M p l e R s m args below meth c D σ tA A H0 cells slots Q (pc, (.dup2, n, a, b) :: r, z, st, μ) := by
  obtain ⟨hd, ho, hr⟩ := mChk.head hk
  intro H locs ls hP hD hS hL
  obtain ⟨hx, hb, hml, hown, hts, hK, hA, hfr, hlo, hok, hsc⟩ := hC
  show W p l e R s m args below meth c H locs cells slots Q (F0 m pc ls (st.map (cV σ)))
  replace hD : va_D A (mW σ tA μ) := hD
  replace hP : va_P D cls_ (mW σ tA μ) H := hP
  replace hL : mL ls M.2.2.1 (cL σ z) := hL
  simp only [mEx] at h
  simp only [mOpd, Bool.and_eq_true, Nat.beq_eq, decide_eq_true_eq] at ho
  subst ho
  split at h
  rotate_left
  · cases h
  rename_i x y t
  cases h
  exact lv_dup2_11 hx hb hd rfl rfl (k hr H locs ls hP hD hS hL)
set_option maxHeartbeats 4000000 in
theorem mEx_pop {M : MB} {d : Nat} {scr : Option (Nat × (Nat → Int32))} {p : Program} {l : Launch} {e : Env} {R : Room} {s : State} {m : MethodId} {args : Array Value} {below : List Frame} {meth : Method} {c : Code} {D : va_G} {σ : Nat → Nat} {tA : Nat → ClassId} {A : Nat → Prop} {H0 : Heap} {cells slots : Nat} {Q : State → Prop} (hC : mCx M d scr p R s m args c D σ tA A H0) {pc n a b : Nat} {r : List MEn} {z : List (Option Value)} {st : List Value} {μ : MMe} {S : MSt} (hk : mChk M.1.cls M.2.1 pc ((.pop, n, a, b) :: r) = true) (h : mEx M.2.2.2.2 pc (.pop) n a b r z st μ = some S) (k : mChk M.1.cls M.2.1 S.1 S.2.1 = true → mWk M p l e R s m args below meth c D σ tA A H0 cells slots Q S) : mWk M p l e R s m args below meth c D σ tA A H0 cells slots Q (pc, (.pop, n, a, b) :: r, z, st, μ) := by
  obtain ⟨hd, ho, hr⟩ := mChk.head hk
  intro H locs ls hP hD hS hL
  obtain ⟨hx, hb, hml, hown, hts, hK, hA, hfr, hlo, hok, hsc⟩ := hC
  show W p l e R s m args below meth c H locs cells slots Q (F0 m pc ls (st.map (cV σ)))
  replace hD : va_D A (mW σ tA μ) := hD
  replace hP : va_P D cls_ (mW σ tA μ) H := hP
  replace hL : mL ls M.2.2.1 (cL σ z) := hL
  simp only [mEx] at h
  simp only [mOpd, Bool.and_eq_true, Nat.beq_eq, decide_eq_true_eq] at ho
  subst ho
  split at h
  rotate_left
  · cases h
  rename_i x t
  cases h
  exact lv_pop hx hb hd rfl (k hr H locs ls hP hD hS hL)
set_option maxHeartbeats 4000000 in
theorem mEx_goto {M : MB} {d : Nat} {scr : Option (Nat × (Nat → Int32))} {p : Program} {l : Launch} {e : Env} {R : Room} {s : State} {m : MethodId} {args : Array Value} {below : List Frame} {meth : Method} {c : Code} {D : va_G} {σ : Nat → Nat} {tA : Nat → ClassId} {A : Nat → Prop} {H0 : Heap} {cells slots : Nat} {Q : State → Prop} (hC : mCx M d scr p R s m args c D σ tA A H0) {pc n a b : Nat} {off : Int} {r : List MEn} {z : List (Option Value)} {st : List Value} {μ : MMe} {S : MSt} (hk : mChk M.1.cls M.2.1 pc ((.goto off, n, a, b) :: r) = true) (h : mEx M.2.2.2.2 pc (.goto off) n a b r z st μ = some S) (k : mChk M.1.cls M.2.1 S.1 S.2.1 = true → mWk M p l e R s m args below meth c D σ tA A H0 cells slots Q S) : mWk M p l e R s m args below meth c D σ tA A H0 cells slots Q (pc, (.goto off, n, a, b) :: r, z, st, μ) := by
  obtain ⟨hd, ho, hr⟩ := mChk.head hk
  intro H locs ls hP hD hS hL
  obtain ⟨hx, hb, hml, hown, hts, hK, hA, hfr, hlo, hok, hsc⟩ := hC
  show W p l e R s m args below meth c H locs cells slots Q (F0 m pc ls (st.map (cV σ)))
  replace hD : va_D A (mW σ tA μ) := hD
  replace hP : va_P D cls_ (mW σ tA μ) H := hP
  replace hL : mL ls M.2.2.1 (cL σ z) := hL
  simp only [mEx] at h
  simp only [mOpd, Bool.and_eq_true, Nat.beq_eq, decide_eq_true_eq] at ho
  obtain ⟨rfl, ho⟩ := ho
  cases h
  exact lv_goto hx hb hd ho (k rfl H locs ls hP hD hS hL)
set_option maxHeartbeats 4000000 in
theorem mEx_if_eq {M : MB} {d : Nat} {scr : Option (Nat × (Nat → Int32))} {p : Program} {l : Launch} {e : Env} {R : Room} {s : State} {m : MethodId} {args : Array Value} {below : List Frame} {meth : Method} {c : Code} {D : va_G} {σ : Nat → Nat} {tA : Nat → ClassId} {A : Nat → Prop} {H0 : Heap} {cells slots : Nat} {Q : State → Prop} (hC : mCx M d scr p R s m args c D σ tA A H0) {pc n a b : Nat} {off : Int} {r : List MEn} {z : List (Option Value)} {st : List Value} {μ : MMe} {S : MSt} (hk : mChk M.1.cls M.2.1 pc ((.ifCond .eq off, n, a, b) :: r) = true) (h : mEx M.2.2.2.2 pc (.ifCond .eq off) n a b r z st μ = some S) (k : mChk M.1.cls M.2.1 S.1 S.2.1 = true → mWk M p l e R s m args below meth c D σ tA A H0 cells slots Q S) : mWk M p l e R s m args below meth c D σ tA A H0 cells slots Q (pc, (.ifCond .eq off, n, a, b) :: r, z, st, μ) := by
  obtain ⟨hd, ho, hr⟩ := mChk.head hk
  intro H locs ls hP hD hS hL
  obtain ⟨hx, hb, hml, hown, hts, hK, hA, hfr, hlo, hok, hsc⟩ := hC
  show W p l e R s m args below meth c H locs cells slots Q (F0 m pc ls (st.map (cV σ)))
  replace hD : va_D A (mW σ tA μ) := hD
  replace hP : va_P D cls_ (mW σ tA μ) H := hP
  replace hL : mL ls M.2.2.1 (cL σ z) := hL
  simp only [mEx] at h
  simp only [mOpd, Bool.and_eq_true, Nat.beq_eq, decide_eq_true_eq] at ho
  obtain ⟨rfl, ho⟩ := ho
  split at h
  rotate_left
  · cases h
  rename_i x t
  cases h
  rw [nI_0] at k
  refine lv_if_eq hx hb hd ho (fun q => ?_) (fun q => ?_)
  · rw [if_pos q] at k
    exact k rfl H locs ls hP hD hS hL
  · rw [if_neg q] at k
    exact k hr H locs ls hP hD hS hL
set_option maxHeartbeats 4000000 in
theorem mEx_icmp_eq {M : MB} {d : Nat} {scr : Option (Nat × (Nat → Int32))} {p : Program} {l : Launch} {e : Env} {R : Room} {s : State} {m : MethodId} {args : Array Value} {below : List Frame} {meth : Method} {c : Code} {D : va_G} {σ : Nat → Nat} {tA : Nat → ClassId} {A : Nat → Prop} {H0 : Heap} {cells slots : Nat} {Q : State → Prop} (hC : mCx M d scr p R s m args c D σ tA A H0) {pc n a b : Nat} {off : Int} {r : List MEn} {z : List (Option Value)} {st : List Value} {μ : MMe} {S : MSt} (hk : mChk M.1.cls M.2.1 pc ((.if_icmp .eq off, n, a, b) :: r) = true) (h : mEx M.2.2.2.2 pc (.if_icmp .eq off) n a b r z st μ = some S) (k : mChk M.1.cls M.2.1 S.1 S.2.1 = true → mWk M p l e R s m args below meth c D σ tA A H0 cells slots Q S) : mWk M p l e R s m args below meth c D σ tA A H0 cells slots Q (pc, (.if_icmp .eq off, n, a, b) :: r, z, st, μ) := by
  obtain ⟨hd, ho, hr⟩ := mChk.head hk
  intro H locs ls hP hD hS hL
  obtain ⟨hx, hb, hml, hown, hts, hK, hA, hfr, hlo, hok, hsc⟩ := hC
  show W p l e R s m args below meth c H locs cells slots Q (F0 m pc ls (st.map (cV σ)))
  replace hD : va_D A (mW σ tA μ) := hD
  replace hP : va_P D cls_ (mW σ tA μ) H := hP
  replace hL : mL ls M.2.2.1 (cL σ z) := hL
  simp only [mEx] at h
  simp only [mOpd, Bool.and_eq_true, Nat.beq_eq, decide_eq_true_eq] at ho
  obtain ⟨rfl, ho⟩ := ho
  split at h
  rotate_left
  · cases h
  rename_i y x t
  cases h
  refine lv_icmp_eq hx hb hd ho (fun q => ?_) (fun q => ?_)
  · rw [if_pos q] at k
    exact k rfl H locs ls hP hD hS hL
  · rw [if_neg q] at k
    exact k hr H locs ls hP hD hS hL
set_option maxHeartbeats 4000000 in
theorem mEx_if_ne {M : MB} {d : Nat} {scr : Option (Nat × (Nat → Int32))} {p : Program} {l : Launch} {e : Env} {R : Room} {s : State} {m : MethodId} {args : Array Value} {below : List Frame} {meth : Method} {c : Code} {D : va_G} {σ : Nat → Nat} {tA : Nat → ClassId} {A : Nat → Prop} {H0 : Heap} {cells slots : Nat} {Q : State → Prop} (hC : mCx M d scr p R s m args c D σ tA A H0) {pc n a b : Nat} {off : Int} {r : List MEn} {z : List (Option Value)} {st : List Value} {μ : MMe} {S : MSt} (hk : mChk M.1.cls M.2.1 pc ((.ifCond .ne off, n, a, b) :: r) = true) (h : mEx M.2.2.2.2 pc (.ifCond .ne off) n a b r z st μ = some S) (k : mChk M.1.cls M.2.1 S.1 S.2.1 = true → mWk M p l e R s m args below meth c D σ tA A H0 cells slots Q S) : mWk M p l e R s m args below meth c D σ tA A H0 cells slots Q (pc, (.ifCond .ne off, n, a, b) :: r, z, st, μ) := by
  obtain ⟨hd, ho, hr⟩ := mChk.head hk
  intro H locs ls hP hD hS hL
  obtain ⟨hx, hb, hml, hown, hts, hK, hA, hfr, hlo, hok, hsc⟩ := hC
  show W p l e R s m args below meth c H locs cells slots Q (F0 m pc ls (st.map (cV σ)))
  replace hD : va_D A (mW σ tA μ) := hD
  replace hP : va_P D cls_ (mW σ tA μ) H := hP
  replace hL : mL ls M.2.2.1 (cL σ z) := hL
  simp only [mEx] at h
  simp only [mOpd, Bool.and_eq_true, Nat.beq_eq, decide_eq_true_eq] at ho
  obtain ⟨rfl, ho⟩ := ho
  split at h
  rotate_left
  · cases h
  rename_i x t
  cases h
  rw [nI_0] at k
  refine lv_if_ne hx hb hd ho (fun q => ?_) (fun q => ?_)
  · rw [if_pos q] at k
    exact k rfl H locs ls hP hD hS hL
  · rw [if_neg (fun z => z q)] at k
    exact k hr H locs ls hP hD hS hL
set_option maxHeartbeats 4000000 in
theorem mEx_icmp_ne {M : MB} {d : Nat} {scr : Option (Nat × (Nat → Int32))} {p : Program} {l : Launch} {e : Env} {R : Room} {s : State} {m : MethodId} {args : Array Value} {below : List Frame} {meth : Method} {c : Code} {D : va_G} {σ : Nat → Nat} {tA : Nat → ClassId} {A : Nat → Prop} {H0 : Heap} {cells slots : Nat} {Q : State → Prop} (hC : mCx M d scr p R s m args c D σ tA A H0) {pc n a b : Nat} {off : Int} {r : List MEn} {z : List (Option Value)} {st : List Value} {μ : MMe} {S : MSt} (hk : mChk M.1.cls M.2.1 pc ((.if_icmp .ne off, n, a, b) :: r) = true) (h : mEx M.2.2.2.2 pc (.if_icmp .ne off) n a b r z st μ = some S) (k : mChk M.1.cls M.2.1 S.1 S.2.1 = true → mWk M p l e R s m args below meth c D σ tA A H0 cells slots Q S) : mWk M p l e R s m args below meth c D σ tA A H0 cells slots Q (pc, (.if_icmp .ne off, n, a, b) :: r, z, st, μ) := by
  obtain ⟨hd, ho, hr⟩ := mChk.head hk
  intro H locs ls hP hD hS hL
  obtain ⟨hx, hb, hml, hown, hts, hK, hA, hfr, hlo, hok, hsc⟩ := hC
  show W p l e R s m args below meth c H locs cells slots Q (F0 m pc ls (st.map (cV σ)))
  replace hD : va_D A (mW σ tA μ) := hD
  replace hP : va_P D cls_ (mW σ tA μ) H := hP
  replace hL : mL ls M.2.2.1 (cL σ z) := hL
  simp only [mEx] at h
  simp only [mOpd, Bool.and_eq_true, Nat.beq_eq, decide_eq_true_eq] at ho
  obtain ⟨rfl, ho⟩ := ho
  split at h
  rotate_left
  · cases h
  rename_i y x t
  cases h
  refine lv_icmp_ne hx hb hd ho (fun q => ?_) (fun q => ?_)
  · rw [if_pos q] at k
    exact k rfl H locs ls hP hD hS hL
  · rw [if_neg (fun z => z q)] at k
    exact k hr H locs ls hP hD hS hL
set_option maxHeartbeats 4000000 in
theorem mEx_if_lt {M : MB} {d : Nat} {scr : Option (Nat × (Nat → Int32))} {p : Program} {l : Launch} {e : Env} {R : Room} {s : State} {m : MethodId} {args : Array Value} {below : List Frame} {meth : Method} {c : Code} {D : va_G} {σ : Nat → Nat} {tA : Nat → ClassId} {A : Nat → Prop} {H0 : Heap} {cells slots : Nat} {Q : State → Prop} (hC : mCx M d scr p R s m args c D σ tA A H0) {pc n a b : Nat} {off : Int} {r : List MEn} {z : List (Option Value)} {st : List Value} {μ : MMe} {S : MSt} (hk : mChk M.1.cls M.2.1 pc ((.ifCond .lt off, n, a, b) :: r) = true) (h : mEx M.2.2.2.2 pc (.ifCond .lt off) n a b r z st μ = some S) (k : mChk M.1.cls M.2.1 S.1 S.2.1 = true → mWk M p l e R s m args below meth c D σ tA A H0 cells slots Q S) : mWk M p l e R s m args below meth c D σ tA A H0 cells slots Q (pc, (.ifCond .lt off, n, a, b) :: r, z, st, μ) := by
  obtain ⟨hd, ho, hr⟩ := mChk.head hk
  intro H locs ls hP hD hS hL
  obtain ⟨hx, hb, hml, hown, hts, hK, hA, hfr, hlo, hok, hsc⟩ := hC
  show W p l e R s m args below meth c H locs cells slots Q (F0 m pc ls (st.map (cV σ)))
  replace hD : va_D A (mW σ tA μ) := hD
  replace hP : va_P D cls_ (mW σ tA μ) H := hP
  replace hL : mL ls M.2.2.1 (cL σ z) := hL
  simp only [mEx] at h
  simp only [mOpd, Bool.and_eq_true, Nat.beq_eq, decide_eq_true_eq] at ho
  obtain ⟨rfl, ho⟩ := ho
  split at h
  rotate_left
  · cases h
  rename_i x t
  cases h
  rw [nI_0] at k
  refine lv_if_lt hx hb hd ho (fun q => ?_) (fun q => ?_)
  · rw [if_pos q] at k
    exact k rfl H locs ls hP hD hS hL
  · rw [if_neg q] at k
    exact k hr H locs ls hP hD hS hL
set_option maxHeartbeats 4000000 in
theorem mEx_icmp_lt {M : MB} {d : Nat} {scr : Option (Nat × (Nat → Int32))} {p : Program} {l : Launch} {e : Env} {R : Room} {s : State} {m : MethodId} {args : Array Value} {below : List Frame} {meth : Method} {c : Code} {D : va_G} {σ : Nat → Nat} {tA : Nat → ClassId} {A : Nat → Prop} {H0 : Heap} {cells slots : Nat} {Q : State → Prop} (hC : mCx M d scr p R s m args c D σ tA A H0) {pc n a b : Nat} {off : Int} {r : List MEn} {z : List (Option Value)} {st : List Value} {μ : MMe} {S : MSt} (hk : mChk M.1.cls M.2.1 pc ((.if_icmp .lt off, n, a, b) :: r) = true) (h : mEx M.2.2.2.2 pc (.if_icmp .lt off) n a b r z st μ = some S) (k : mChk M.1.cls M.2.1 S.1 S.2.1 = true → mWk M p l e R s m args below meth c D σ tA A H0 cells slots Q S) : mWk M p l e R s m args below meth c D σ tA A H0 cells slots Q (pc, (.if_icmp .lt off, n, a, b) :: r, z, st, μ) := by
  obtain ⟨hd, ho, hr⟩ := mChk.head hk
  intro H locs ls hP hD hS hL
  obtain ⟨hx, hb, hml, hown, hts, hK, hA, hfr, hlo, hok, hsc⟩ := hC
  show W p l e R s m args below meth c H locs cells slots Q (F0 m pc ls (st.map (cV σ)))
  replace hD : va_D A (mW σ tA μ) := hD
  replace hP : va_P D cls_ (mW σ tA μ) H := hP
  replace hL : mL ls M.2.2.1 (cL σ z) := hL
  simp only [mEx] at h
  simp only [mOpd, Bool.and_eq_true, Nat.beq_eq, decide_eq_true_eq] at ho
  obtain ⟨rfl, ho⟩ := ho
  split at h
  rotate_left
  · cases h
  rename_i y x t
  cases h
  refine lv_icmp_lt hx hb hd ho (fun q => ?_) (fun q => ?_)
  · rw [if_pos q] at k
    exact k rfl H locs ls hP hD hS hL
  · rw [if_neg q] at k
    exact k hr H locs ls hP hD hS hL
set_option maxHeartbeats 4000000 in
theorem mEx_if_ge {M : MB} {d : Nat} {scr : Option (Nat × (Nat → Int32))} {p : Program} {l : Launch} {e : Env} {R : Room} {s : State} {m : MethodId} {args : Array Value} {below : List Frame} {meth : Method} {c : Code} {D : va_G} {σ : Nat → Nat} {tA : Nat → ClassId} {A : Nat → Prop} {H0 : Heap} {cells slots : Nat} {Q : State → Prop} (hC : mCx M d scr p R s m args c D σ tA A H0) {pc n a b : Nat} {off : Int} {r : List MEn} {z : List (Option Value)} {st : List Value} {μ : MMe} {S : MSt} (hk : mChk M.1.cls M.2.1 pc ((.ifCond .ge off, n, a, b) :: r) = true) (h : mEx M.2.2.2.2 pc (.ifCond .ge off) n a b r z st μ = some S) (k : mChk M.1.cls M.2.1 S.1 S.2.1 = true → mWk M p l e R s m args below meth c D σ tA A H0 cells slots Q S) : mWk M p l e R s m args below meth c D σ tA A H0 cells slots Q (pc, (.ifCond .ge off, n, a, b) :: r, z, st, μ) := by
  obtain ⟨hd, ho, hr⟩ := mChk.head hk
  intro H locs ls hP hD hS hL
  obtain ⟨hx, hb, hml, hown, hts, hK, hA, hfr, hlo, hok, hsc⟩ := hC
  show W p l e R s m args below meth c H locs cells slots Q (F0 m pc ls (st.map (cV σ)))
  replace hD : va_D A (mW σ tA μ) := hD
  replace hP : va_P D cls_ (mW σ tA μ) H := hP
  replace hL : mL ls M.2.2.1 (cL σ z) := hL
  simp only [mEx] at h
  simp only [mOpd, Bool.and_eq_true, Nat.beq_eq, decide_eq_true_eq] at ho
  obtain ⟨rfl, ho⟩ := ho
  split at h
  rotate_left
  · cases h
  rename_i x t
  cases h
  rw [nI_0] at k
  refine lv_if_ge hx hb hd ho (fun q => ?_) (fun q => ?_)
  · rw [if_pos q] at k
    exact k rfl H locs ls hP hD hS hL
  · rw [if_neg q] at k
    exact k hr H locs ls hP hD hS hL
set_option maxHeartbeats 4000000 in
theorem mEx_icmp_ge {M : MB} {d : Nat} {scr : Option (Nat × (Nat → Int32))} {p : Program} {l : Launch} {e : Env} {R : Room} {s : State} {m : MethodId} {args : Array Value} {below : List Frame} {meth : Method} {c : Code} {D : va_G} {σ : Nat → Nat} {tA : Nat → ClassId} {A : Nat → Prop} {H0 : Heap} {cells slots : Nat} {Q : State → Prop} (hC : mCx M d scr p R s m args c D σ tA A H0) {pc n a b : Nat} {off : Int} {r : List MEn} {z : List (Option Value)} {st : List Value} {μ : MMe} {S : MSt} (hk : mChk M.1.cls M.2.1 pc ((.if_icmp .ge off, n, a, b) :: r) = true) (h : mEx M.2.2.2.2 pc (.if_icmp .ge off) n a b r z st μ = some S) (k : mChk M.1.cls M.2.1 S.1 S.2.1 = true → mWk M p l e R s m args below meth c D σ tA A H0 cells slots Q S) : mWk M p l e R s m args below meth c D σ tA A H0 cells slots Q (pc, (.if_icmp .ge off, n, a, b) :: r, z, st, μ) := by
  obtain ⟨hd, ho, hr⟩ := mChk.head hk
  intro H locs ls hP hD hS hL
  obtain ⟨hx, hb, hml, hown, hts, hK, hA, hfr, hlo, hok, hsc⟩ := hC
  show W p l e R s m args below meth c H locs cells slots Q (F0 m pc ls (st.map (cV σ)))
  replace hD : va_D A (mW σ tA μ) := hD
  replace hP : va_P D cls_ (mW σ tA μ) H := hP
  replace hL : mL ls M.2.2.1 (cL σ z) := hL
  simp only [mEx] at h
  simp only [mOpd, Bool.and_eq_true, Nat.beq_eq, decide_eq_true_eq] at ho
  obtain ⟨rfl, ho⟩ := ho
  split at h
  rotate_left
  · cases h
  rename_i y x t
  cases h
  refine lv_icmp_ge hx hb hd ho (fun q => ?_) (fun q => ?_)
  · rw [if_pos q] at k
    exact k rfl H locs ls hP hD hS hL
  · rw [if_neg q] at k
    exact k hr H locs ls hP hD hS hL
set_option maxHeartbeats 4000000 in
theorem mEx_if_gt {M : MB} {d : Nat} {scr : Option (Nat × (Nat → Int32))} {p : Program} {l : Launch} {e : Env} {R : Room} {s : State} {m : MethodId} {args : Array Value} {below : List Frame} {meth : Method} {c : Code} {D : va_G} {σ : Nat → Nat} {tA : Nat → ClassId} {A : Nat → Prop} {H0 : Heap} {cells slots : Nat} {Q : State → Prop} (hC : mCx M d scr p R s m args c D σ tA A H0) {pc n a b : Nat} {off : Int} {r : List MEn} {z : List (Option Value)} {st : List Value} {μ : MMe} {S : MSt} (hk : mChk M.1.cls M.2.1 pc ((.ifCond .gt off, n, a, b) :: r) = true) (h : mEx M.2.2.2.2 pc (.ifCond .gt off) n a b r z st μ = some S) (k : mChk M.1.cls M.2.1 S.1 S.2.1 = true → mWk M p l e R s m args below meth c D σ tA A H0 cells slots Q S) : mWk M p l e R s m args below meth c D σ tA A H0 cells slots Q (pc, (.ifCond .gt off, n, a, b) :: r, z, st, μ) := by
  obtain ⟨hd, ho, hr⟩ := mChk.head hk
  intro H locs ls hP hD hS hL
  obtain ⟨hx, hb, hml, hown, hts, hK, hA, hfr, hlo, hok, hsc⟩ := hC
  show W p l e R s m args below meth c H locs cells slots Q (F0 m pc ls (st.map (cV σ)))
  replace hD : va_D A (mW σ tA μ) := hD
  replace hP : va_P D cls_ (mW σ tA μ) H := hP
  replace hL : mL ls M.2.2.1 (cL σ z) := hL
  simp only [mEx] at h
  simp only [mOpd, Bool.and_eq_true, Nat.beq_eq, decide_eq_true_eq] at ho
  obtain ⟨rfl, ho⟩ := ho
  split at h
  rotate_left
  · cases h
  rename_i x t
  cases h
  rw [nI_0] at k
  refine lv_if_gt hx hb hd ho (fun q => ?_) (fun q => ?_)
  · rw [if_pos q] at k
    exact k rfl H locs ls hP hD hS hL
  · rw [if_neg q] at k
    exact k hr H locs ls hP hD hS hL
set_option maxHeartbeats 4000000 in
theorem mEx_icmp_gt {M : MB} {d : Nat} {scr : Option (Nat × (Nat → Int32))} {p : Program} {l : Launch} {e : Env} {R : Room} {s : State} {m : MethodId} {args : Array Value} {below : List Frame} {meth : Method} {c : Code} {D : va_G} {σ : Nat → Nat} {tA : Nat → ClassId} {A : Nat → Prop} {H0 : Heap} {cells slots : Nat} {Q : State → Prop} (hC : mCx M d scr p R s m args c D σ tA A H0) {pc n a b : Nat} {off : Int} {r : List MEn} {z : List (Option Value)} {st : List Value} {μ : MMe} {S : MSt} (hk : mChk M.1.cls M.2.1 pc ((.if_icmp .gt off, n, a, b) :: r) = true) (h : mEx M.2.2.2.2 pc (.if_icmp .gt off) n a b r z st μ = some S) (k : mChk M.1.cls M.2.1 S.1 S.2.1 = true → mWk M p l e R s m args below meth c D σ tA A H0 cells slots Q S) : mWk M p l e R s m args below meth c D σ tA A H0 cells slots Q (pc, (.if_icmp .gt off, n, a, b) :: r, z, st, μ) := by
  obtain ⟨hd, ho, hr⟩ := mChk.head hk
  intro H locs ls hP hD hS hL
  obtain ⟨hx, hb, hml, hown, hts, hK, hA, hfr, hlo, hok, hsc⟩ := hC
  show W p l e R s m args below meth c H locs cells slots Q (F0 m pc ls (st.map (cV σ)))
  replace hD : va_D A (mW σ tA μ) := hD
  replace hP : va_P D cls_ (mW σ tA μ) H := hP
  replace hL : mL ls M.2.2.1 (cL σ z) := hL
  simp only [mEx] at h
  simp only [mOpd, Bool.and_eq_true, Nat.beq_eq, decide_eq_true_eq] at ho
  obtain ⟨rfl, ho⟩ := ho
  split at h
  rotate_left
  · cases h
  rename_i y x t
  cases h
  refine lv_icmp_gt hx hb hd ho (fun q => ?_) (fun q => ?_)
  · rw [if_pos q] at k
    exact k rfl H locs ls hP hD hS hL
  · rw [if_neg q] at k
    exact k hr H locs ls hP hD hS hL
set_option maxHeartbeats 4000000 in
theorem mEx_if_le {M : MB} {d : Nat} {scr : Option (Nat × (Nat → Int32))} {p : Program} {l : Launch} {e : Env} {R : Room} {s : State} {m : MethodId} {args : Array Value} {below : List Frame} {meth : Method} {c : Code} {D : va_G} {σ : Nat → Nat} {tA : Nat → ClassId} {A : Nat → Prop} {H0 : Heap} {cells slots : Nat} {Q : State → Prop} (hC : mCx M d scr p R s m args c D σ tA A H0) {pc n a b : Nat} {off : Int} {r : List MEn} {z : List (Option Value)} {st : List Value} {μ : MMe} {S : MSt} (hk : mChk M.1.cls M.2.1 pc ((.ifCond .le off, n, a, b) :: r) = true) (h : mEx M.2.2.2.2 pc (.ifCond .le off) n a b r z st μ = some S) (k : mChk M.1.cls M.2.1 S.1 S.2.1 = true → mWk M p l e R s m args below meth c D σ tA A H0 cells slots Q S) : mWk M p l e R s m args below meth c D σ tA A H0 cells slots Q (pc, (.ifCond .le off, n, a, b) :: r, z, st, μ) := by
  obtain ⟨hd, ho, hr⟩ := mChk.head hk
  intro H locs ls hP hD hS hL
  obtain ⟨hx, hb, hml, hown, hts, hK, hA, hfr, hlo, hok, hsc⟩ := hC
  show W p l e R s m args below meth c H locs cells slots Q (F0 m pc ls (st.map (cV σ)))
  replace hD : va_D A (mW σ tA μ) := hD
  replace hP : va_P D cls_ (mW σ tA μ) H := hP
  replace hL : mL ls M.2.2.1 (cL σ z) := hL
  simp only [mEx] at h
  simp only [mOpd, Bool.and_eq_true, Nat.beq_eq, decide_eq_true_eq] at ho
  obtain ⟨rfl, ho⟩ := ho
  split at h
  rotate_left
  · cases h
  rename_i x t
  cases h
  rw [nI_0] at k
  refine lv_if_le hx hb hd ho (fun q => ?_) (fun q => ?_)
  · rw [if_pos q] at k
    exact k rfl H locs ls hP hD hS hL
  · rw [if_neg q] at k
    exact k hr H locs ls hP hD hS hL
set_option maxHeartbeats 4000000 in
theorem mEx_icmp_le {M : MB} {d : Nat} {scr : Option (Nat × (Nat → Int32))} {p : Program} {l : Launch} {e : Env} {R : Room} {s : State} {m : MethodId} {args : Array Value} {below : List Frame} {meth : Method} {c : Code} {D : va_G} {σ : Nat → Nat} {tA : Nat → ClassId} {A : Nat → Prop} {H0 : Heap} {cells slots : Nat} {Q : State → Prop} (hC : mCx M d scr p R s m args c D σ tA A H0) {pc n a b : Nat} {off : Int} {r : List MEn} {z : List (Option Value)} {st : List Value} {μ : MMe} {S : MSt} (hk : mChk M.1.cls M.2.1 pc ((.if_icmp .le off, n, a, b) :: r) = true) (h : mEx M.2.2.2.2 pc (.if_icmp .le off) n a b r z st μ = some S) (k : mChk M.1.cls M.2.1 S.1 S.2.1 = true → mWk M p l e R s m args below meth c D σ tA A H0 cells slots Q S) : mWk M p l e R s m args below meth c D σ tA A H0 cells slots Q (pc, (.if_icmp .le off, n, a, b) :: r, z, st, μ) := by
  obtain ⟨hd, ho, hr⟩ := mChk.head hk
  intro H locs ls hP hD hS hL
  obtain ⟨hx, hb, hml, hown, hts, hK, hA, hfr, hlo, hok, hsc⟩ := hC
  show W p l e R s m args below meth c H locs cells slots Q (F0 m pc ls (st.map (cV σ)))
  replace hD : va_D A (mW σ tA μ) := hD
  replace hP : va_P D cls_ (mW σ tA μ) H := hP
  replace hL : mL ls M.2.2.1 (cL σ z) := hL
  simp only [mEx] at h
  simp only [mOpd, Bool.and_eq_true, Nat.beq_eq, decide_eq_true_eq] at ho
  obtain ⟨rfl, ho⟩ := ho
  split at h
  rotate_left
  · cases h
  rename_i y x t
  cases h
  refine lv_icmp_le hx hb hd ho (fun q => ?_) (fun q => ?_)
  · rw [if_pos q] at k
    exact k rfl H locs ls hP hD hS hL
  · rw [if_neg q] at k
    exact k hr H locs ls hP hD hS hL
