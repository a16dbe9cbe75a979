theorem m_offs {pc : Nat} {d k : Int} : ∀ {ps : List (Int × Int)}, ps.all (fun q => decide (0 ≤ q.1) && decide (q.1 < 1000) && decide (0 ≤ (pc : Int) + q.2)) = true → 0 ≤ (pc : Int) + d → 0 ≤ (pc : Int) + Op.lookupswitch.offset ps d k
  | [], _, h => h
  | (a, o) :: r, h, hd => by
    rw [List.all_cons] at h
    simp only [Bool.and_eq_true, decide_eq_true_eq] at h
    rw [Op.lookupswitch.offset_cons]
    by_cases e : a = k
    · rw [if_pos e]; exact h.1.2
    · rw [if_neg e]; exact m_offs h.2 hd
set_option maxHeartbeats 4000000 in
theorem mEx_tsw {M : MB} {d : Nat} {scr : Option (Nat × (Nat → Int32))} {p : Program} {l : Launch} {e : Env} {R : Room} {s : State} {m : MethodId} {args : Array Value} {below : List Frame} {meth : Method} {c : Code} {D : va_G} {σ : Nat → Nat} {tA : Nat → ClassId} {A : Nat → Prop} {H0 : Heap} {cells slots : Nat} {Q : State → Prop} (hC : mCx M d scr p R s m args c D σ tA A H0) {pc n a b : Nat} {dd lo_ hi : Int} {offs : Array Int} {r : List MEn} {z : List (Option Value)} {st : List Value} {μ : MMe} {S : MSt} (hk : mChk M.1.cls M.2.1 pc ((.tableswitch dd lo_ hi offs, n, a, b) :: r) = true) (h : mEx M.2.2.2.2 pc (.tableswitch dd lo_ hi offs) n a b r z st μ = some S) (k : mChk M.1.cls M.2.1 S.1 S.2.1 = true → mWk M p l e R s m args below meth c D σ tA A H0 cells slots Q S) : mWk M p l e R s m args below meth c D σ tA A H0 cells slots Q (pc, (.tableswitch dd lo_ hi offs, n, a, b) :: r, z, st, μ) := by
  obtain ⟨hd, ho, hr⟩ := mChk.head hk
  intro H locs ls hP hD hS hL
  obtain ⟨hx, hb, hml, hown, hts, hK, hA, hfr, hlo, hok, hsc⟩ := hC
  show W p l e R s m args below meth c H locs cells slots Q (F0 m pc ls (st.map (cV σ)))
  replace hD : va_D A (mW σ tA μ) := hD
  replace hP : va_P D cls_ (mW σ tA μ) H := hP
  replace hL : mL ls M.2.2.1 (cL σ z) := hL
  simp only [mEx] at h
  simp only [mOpd, Bool.and_eq_true, decide_eq_true_eq, List.all_eq_true] at ho
  obtain ⟨⟨⟨⟨o1, o2⟩, o3⟩, o4⟩, o5⟩ := ho
  split at h
  rotate_left
  · cases h
  rename_i x t
  have hlen : (offs.toList.length : Int) = hi - lo_ + 1 := by rw [Array.length_toList]; exact o4
  rw [mSw_ts offs.toList lo_ o2 (by omega)] at h
  by_cases hin : lo_ ≤ x.toInt ∧ x.toInt < lo_ + offs.toList.length
  · rw [dif_pos hin] at h
    cases h
    have hlt : (x.toInt - lo_).toNat < offs.toList.length := by omega
    refine lv_tableIn hx hb hd (by omega) (by omega) (off := offs.toList[(x.toInt - lo_).toNat]) (by rw [← Array.getElem?_toList, List.getElem?_eq_getElem hlt]) ?_ (k rfl H locs ls hP hD hS hL)
    have := o5 _ (List.getElem_mem hlt)
    exact (Int.toNat_of_nonneg this).symm
  · rw [dif_neg hin] at h
    cases h
    exact lv_tableOut hx hb hd (by omega) (Int.toNat_of_nonneg o1).symm (k rfl H locs ls hP hD hS hL)
set_option maxHeartbeats 4000000 in
theorem mEx_lsw {M : MB} {d : Nat} {scr : Option (Nat × (Nat → Int32))} {p : Program} {l : Launch} {e : Env} {R : Room} {s : State} {m : MethodId} {args : Array Value} {below : List Frame} {meth : Method} {c : Code} {D : va_G} {σ : Nat → Nat} {tA : Nat → ClassId} {A : Nat → Prop} {H0 : Heap} {cells slots : Nat} {Q : State → Prop} (hC : mCx M d scr p R s m args c D σ tA A H0) {pc n a b : Nat} {dd : Int} {ps : Array (Int × Int)} {r : List MEn} {z : List (Option Value)} {st : List Value} {μ : MMe} {S : MSt} (hk : mChk M.1.cls M.2.1 pc ((.lookupswitch dd ps, n, a, b) :: r) = true) (h : mEx M.2.2.2.2 pc (.lookupswitch dd ps) n a b r z st μ = some S) (k : mChk M.1.cls M.2.1 S.1 S.2.1 = true → mWk M p l e R s m args below meth c D σ tA A H0 cells slots Q S) : mWk M p l e R s m args below meth c D σ tA A H0 cells slots Q (pc, (.lookupswitch dd ps, n, a, b) :: r, z, st, μ) := by
  obtain ⟨hd, ho, hr⟩ := mChk.head hk
  intro H locs ls hP hD hS hL
  obtain ⟨hx, hb, hml, hown, hts, hK, hA, hfr, hlo, hok, hsc⟩ := hC
  show W p l e R s m args below meth c H locs cells slots Q (F0 m pc ls (st.map (cV σ)))
  replace hD : va_D A (mW σ tA μ) := hD
  replace hP : va_P D cls_ (mW σ tA μ) H := hP
  replace hL : mL ls M.2.2.1 (cL σ z) := hL
  simp only [mEx] at h
  simp only [mOpd, Bool.and_eq_true, decide_eq_true_eq] at ho
  obtain ⟨⟨o1, o2⟩, o3⟩ := ho
  split at h
  rotate_left
  · cases h
  rename_i x t
  rw [mSw_ls ps.toList o3] at h
  cases h
  refine lv_lookup hx hb hd o2 rfl ?_ (k rfl H locs ls hP hD hS hL)
  refine (Int.toNat_of_nonneg ?_).symm
  exact m_offs o3 o1
set_option maxHeartbeats 4000000 in
theorem mEx_getf {M : MB} {d : Nat} {scr : Option (Nat × (Nat → Int32))} {p : Program} {l : Launch} {e : Env} {R : Room} {s : State} {m : MethodId} {args : Array Value} {below : List Frame} {meth : Method} {c : Code} {D : va_G} {σ : Nat → Nat} {tA : Nat → ClassId} {A : Nat → Prop} {H0 : Heap} {cells slots : Nat} {Q : State → Prop} (hC : mCx M d scr p R s m args c D σ tA A H0) {pc n a b : Nat} {v : Nat} {r : List MEn} {z : List (Option Value)} {st : List Value} {μ : MMe} {S : MSt} (hk : mChk M.1.cls M.2.1 pc ((.getfield v, n, a, b) :: r) = true) (h : mEx M.2.2.2.2 pc (.getfield v) n a b r z st μ = some S) (k : mChk M.1.cls M.2.1 S.1 S.2.1 = true → mWk M p l e R s m args below meth c D σ tA A H0 cells slots Q S) : mWk M p l e R s m args below meth c D σ tA A H0 cells slots Q (pc, (.getfield v, n, a, b) :: r, z, st, μ) := by
  obtain ⟨hd, ho, hr⟩ := mChk.head hk
  intro H locs ls hP hD hS hL
  obtain ⟨hx, hb, hml, hown, hts, hK, hA, hfr, hlo, hok, hsc⟩ := hC
  show W p l e R s m args below meth c H locs cells slots Q (F0 m pc ls (st.map (cV σ)))
  replace hD : va_D A (mW σ tA μ) := hD
  replace hP : va_P D cls_ (mW σ tA μ) H := hP
  replace hL : mL ls M.2.2.1 (cL σ z) := hL
  simp only [mEx] at h
  simp only [mOpd, Bool.and_eq_true, Nat.beq_eq, decide_eq_true_eq] at ho
  obtain ⟨rfl, ho⟩ := ho
  obtain ⟨C, T, N, hc, hkN, hw⟩ := FL_ok ho
  split at h
  rotate_left
  · cases h
  rename_i q t
  split at h
  rotate_left
  · cases h
  rename_i ci fs hq
  split at h
  rotate_left
  · cases h
  rename_i he
  rw [Nat.beq_eq] at he
  subst he
  split at h
  rotate_left
  · cases h
  rename_i vv hv
  cases h
  have hWk := mW_at (σ := σ) (tA := tA) hq
  refine va_get hx hb hts (m_clsT hc) hown hK hP q (a := σ q) (fs := fs.map (cV σ)) hWk hc b hkN (hts _ (mTt_in hw rfl)) (fun _ h9 => h9) (v := cV σ vv) (by rw [List.getElem?_map, hv]; rfl) hd (k hr H locs ls hP hD hS hL)
set_option maxHeartbeats 4000000 in
theorem mEx_putf {M : MB} {d : Nat} {scr : Option (Nat × (Nat → Int32))} {p : Program} {l : Launch} {e : Env} {R : Room} {s : State} {m : MethodId} {args : Array Value} {below : List Frame} {meth : Method} {c : Code} {D : va_G} {σ : Nat → Nat} {tA : Nat → ClassId} {A : Nat → Prop} {H0 : Heap} {cells slots : Nat} {Q : State → Prop} (hC : mCx M d scr p R s m args c D σ tA A H0) {pc n a b : Nat} {v : Nat} {r : List MEn} {z : List (Option Value)} {st : List Value} {μ : MMe} {S : MSt} (hk : mChk M.1.cls M.2.1 pc ((.putfield v, n, a, b) :: r) = true) (h : mEx M.2.2.2.2 pc (.putfield v) n a b r z st μ = some S) (k : mChk M.1.cls M.2.1 S.1 S.2.1 = true → mWk M p l e R s m args below meth c D σ tA A H0 cells slots Q S) : mWk M p l e R s m args below meth c D σ tA A H0 cells slots Q (pc, (.putfield v, n, a, b) :: r, z, st, μ) := by
  obtain ⟨hd, ho, hr⟩ := mChk.head hk
  intro H locs ls hP hD hS hL
  obtain ⟨hx, hb, hml, hown, hts, hK, hA, hfr, hlo, hok, hsc⟩ := hC
  show W p l e R s m args below meth c H locs cells slots Q (F0 m pc ls (st.map (cV σ)))
  replace hD : va_D A (mW σ tA μ) := hD
  replace hP : va_P D cls_ (mW σ tA μ) H := hP
  replace hL : mL ls M.2.2.1 (cL σ z) := hL
  simp only [mEx] at h
  simp only [mOpd, Bool.and_eq_true, Nat.beq_eq, decide_eq_true_eq] at ho
  obtain ⟨⟨rfl, ho⟩, ho2⟩ := ho
  obtain ⟨C, T, N, hc, hkN, hw⟩ := FL_ok ho
  rw [hc] at ho2
  simp only [Bool.and_eq_true, decide_eq_true_eq, Bool.not_eq_true'] at ho2
  obtain ⟨hI, hfin⟩ := ho2
  split at h
  rotate_left
  · cases h
  rename_i vv q t
  split at h
  rotate_left
  · cases h
  rename_i ci fs hq
  split at h
  rotate_left
  · cases h
  rename_i he
  simp only [Bool.and_eq_true, Nat.beq_eq, Nat.blt_eq] at he
  obtain ⟨rfl, hbl⟩ := he
  cases h
  obtain ⟨ty0, hty⟩ := (m_cls hc).2.1
  have hWk := mW_at (σ := σ) (tA := tA) hq
  have hset : (mW σ tA μ).set q (σ q, Sum.inr (ci, (fs.map (cV σ)).set b (.int vv))) = mW σ tA (μ.set q (.inr (ci, fs.set b (.int vv)))) := by
    rw [← mW_set]
    show _ = (mW σ tA μ).set q (σ q, Sum.inr (ci, (fs.set b (.int vv)).map (cV σ)))
    rw [List.map_set]
    rfl
  refine va_put hx hb hts (m_clsT hc) ty0 hty (m_cls hc).2.2 hown hK hP hD hS q (a := σ q) (fs := fs.map (cV σ)) hWk hc b hkN (hts _ (mTt_in hw rfl)) (fun _ h9 => h9) hfin (ty := .int) (v := .int vv) (by rw [hI]; decide +kernel) rfl rfl (by rw [List.length_map]; exact hbl) hd (fun H1 locs1 hP hD hS => ?_)
  rw [hset] at hP hD
  exact k hr H1 locs1 ls hP hD hS hL
set_option maxHeartbeats 4000000 in
theorem mEx_iald {M : MB} {d : Nat} {scr : Option (Nat × (Nat → Int32))} {p : Program} {l : Launch} {e : Env} {R : Room} {s : State} {m : MethodId} {args : Array Value} {below : List Frame} {meth : Method} {c : Code} {D : va_G} {σ : Nat → Nat} {tA : Nat → ClassId} {A : Nat → Prop} {H0 : Heap} {cells slots : Nat} {Q : State → Prop} (hC : mCx M d scr p R s m args c D σ tA A H0) {pc n a b : Nat} {r : List MEn} {z : List (Option Value)} {st : List Value} {μ : MMe} {S : MSt} (hk : mChk M.1.cls M.2.1 pc ((.iaload, n, a, b) :: r) = true) (h : mEx M.2.2.2.2 pc (.iaload) n a b r z st μ = some S) (k : mChk M.1.cls M.2.1 S.1 S.2.1 = true → mWk M p l e R s m args below meth c D σ tA A H0 cells slots Q S) : mWk M p l e R s m args below meth c D σ tA A H0 cells slots Q (pc, (.iaload, n, a, b) :: r, z, st, μ) := by
  obtain ⟨hd, ho, hr⟩ := mChk.head hk
  intro H locs ls hP hD hS hL
  obtain ⟨hx, hb, hml, hown, hts, hK, hA, hfr, hlo, hok, hsc⟩ := hC
  show W p l e R s m args below meth c H locs cells slots Q (F0 m pc ls (st.map (cV σ)))
  replace hD : va_D A (mW σ tA μ) := hD
  replace hP : va_P D cls_ (mW σ tA μ) H := hP
  replace hL : mL ls M.2.2.1 (cL σ z) := hL
  simp only [mEx] at h
  simp only [mOpd, Bool.and_eq_true, Nat.beq_eq, decide_eq_true_eq] at ho
  subst ho
  split at h
  rotate_left
  · cases h
  rename_i ii q t
  split at h
  rotate_left
  · cases h
  rename_i n0 f hq
  split at h
  rotate_left
  · cases h
  rename_i hg
  cases h
  have hWk := mW_at (σ := σ) (tA := tA) hq
  exact va_iald hx hb hK hP q 0 (cA := tA 0) (n := n0) (f := f) hWk rfl (inb_in hg) hd (k hr H locs ls hP hD hS hL)
set_option maxHeartbeats 4000000 in
theorem mEx_iast {M : MB} {d : Nat} {scr : Option (Nat × (Nat → Int32))} {p : Program} {l : Launch} {e : Env} {R : Room} {s : State} {m : MethodId} {args : Array Value} {below : List Frame} {meth : Method} {c : Code} {D : va_G} {σ : Nat → Nat} {tA : Nat → ClassId} {A : Nat → Prop} {H0 : Heap} {cells slots : Nat} {Q : State → Prop} (hC : mCx M d scr p R s m args c D σ tA A H0) {pc n a b : Nat} {r : List MEn} {z : List (Option Value)} {st : List Value} {μ : MMe} {S : MSt} (hk : mChk M.1.cls M.2.1 pc ((.iastore, n, a, b) :: r) = true) (h : mEx M.2.2.2.2 pc (.iastore) n a b r z st μ = some S) (k : mChk M.1.cls M.2.1 S.1 S.2.1 = true → mWk M p l e R s m args below meth c D σ tA A H0 cells slots Q S) : mWk M p l e R s m args below meth c D σ tA A H0 cells slots Q (pc, (.iastore, n, a, b) :: r, z, st, μ) := by
  obtain ⟨hd, ho, hr⟩ := mChk.head hk
  intro H locs ls hP hD hS hL
  obtain ⟨hx, hb, hml, hown, hts, hK, hA, hfr, hlo, hok, hsc⟩ := hC
  show W p l e R s m args below meth c H locs cells slots Q (F0 m pc ls (st.map (cV σ)))
  replace hD : va_D A (mW σ tA μ) := hD
  replace hP : va_P D cls_ (mW σ tA μ) H := hP
  replace hL : mL ls M.2.2.1 (cL σ z) := hL
  simp only [mEx] at h
  simp only [mOpd, Bool.and_eq_true, Nat.beq_eq, decide_eq_true_eq] at ho
  subst ho
  split at h
  rotate_left
  · cases h
  rename_i xx ii q t
  split at h
  rotate_left
  · cases h
  rename_i n0 f hq
  split at h
  rotate_left
  · cases h
  rename_i hg
  cases h
  have hWk := mW_at (σ := σ) (tA := tA) hq
  refine va_iast hx hb hK hP hD hS q 0 (cA := tA 0) (n := n0) (f := f) hWk rfl (inb_in hg) hd (fun H1 locs1 hP hD hS => ?_)
  rw [show ((mW σ tA μ).set q (σ q, Sum.inl (tA 0, n0, Sum.inl (upd f ii.toNatClampNeg xx)))) = mW σ tA (μ.set q (.inl (0, n0, .inl (upd f ii.toNatClampNeg xx)))) from mW_set (c := .inl (0, n0, .inl (upd f ii.toNatClampNeg xx)))] at hP hD
  exact k hr H1 locs1 ls hP hD hS hL
set_option maxHeartbeats 4000000 in
theorem mEx_aald {M : MB} {d : Nat} {scr : Option (Nat × (Nat → Int32))} {p : Program} {l : Launch} {e : Env} {R : Room} {s : State} {m : MethodId} {args : Array Value} {below : List Frame} {meth : Method} {c : Code} {D : va_G} {σ : Nat → Nat} {tA : Nat → ClassId} {A : Nat → Prop} {H0 : Heap} {cells slots : Nat} {Q : State → Prop} (hC : mCx M d scr p R s m args c D σ tA A H0) {pc n a b : Nat} {r : List MEn} {z : List (Option Value)} {st : List Value} {μ : MMe} {S : MSt} (hk : mChk M.1.cls M.2.1 pc ((.aaload, n, a, b) :: r) = true) (h : mEx M.2.2.2.2 pc (.aaload) n a b r z st μ = some S) (k : mChk M.1.cls M.2.1 S.1 S.2.1 = true → mWk M p l e R s m args below meth c D σ tA A H0 cells slots Q S) : mWk M p l e R s m args below meth c D σ tA A H0 cells slots Q (pc, (.aaload, n, a, b) :: r, z, st, μ) := by
  obtain ⟨hd, ho, hr⟩ := mChk.head hk
  intro H locs ls hP hD hS hL
  obtain ⟨hx, hb, hml, hown, hts, hK, hA, hfr, hlo, hok, hsc⟩ := hC
  show W p l e R s m args below meth c H locs cells slots Q (F0 m pc ls (st.map (cV σ)))
  replace hD : va_D A (mW σ tA μ) := hD
  replace hP : va_P D cls_ (mW σ tA μ) H := hP
  replace hL : mL ls M.2.2.1 (cL σ z) := hL
  simp only [mEx] at h
  simp only [mOpd, Bool.and_eq_true, Nat.beq_eq, decide_eq_true_eq] at ho
  subst ho
  split at h
  rotate_left
  · cases h
  rename_i ii q t
  split at h
  rotate_left
  · cases h
  rename_i n0 f hq
  split at h
  rotate_left
  · cases h
  rename_i hg
  cases h
  have hWk := mW_at (σ := σ) (tA := tA) hq
  have hk2 := k hr H locs ls hP hD hS hL
  refine va_aldq hx hb hK hP q 1 (cA := tA 1) (C := RX0) (n := n0) (f := fun k => (f k).map σ) hWk rfl (inb_in hg) hd ?_
  rw [show va_rf ((f ii.toNatClampNeg).map σ) = cV σ (va_rf (f ii.toNatClampNeg)) from by cases f ii.toNatClampNeg <;> rfl]
  exact hk2
set_option maxHeartbeats 4000000 in
theorem mEx_alen {M : MB} {d : Nat} {scr : Option (Nat × (Nat → Int32))} {p : Program} {l : Launch} {e : Env} {R : Room} {s : State} {m : MethodId} {args : Array Value} {below : List Frame} {meth : Method} {c : Code} {D : va_G} {σ : Nat → Nat} {tA : Nat → ClassId} {A : Nat → Prop} {H0 : Heap} {cells slots : Nat} {Q : State → Prop} (hC : mCx M d scr p R s m args c D σ tA A H0) {pc n a b : Nat} {r : List MEn} {z : List (Option Value)} {st : List Value} {μ : MMe} {S : MSt} (hk : mChk M.1.cls M.2.1 pc ((.arraylength, n, a, b) :: r) = true) (h : mEx M.2.2.2.2 pc (.arraylength) n a b r z st μ = some S) (k : mChk M.1.cls M.2.1 S.1 S.2.1 = true → mWk M p l e R s m args below meth c D σ tA A H0 cells slots Q S) : mWk M p l e R s m args below meth c D σ tA A H0 cells slots Q (pc, (.arraylength, n, a, b) :: r, z, st, μ) := by
  obtain ⟨hd, ho, hr⟩ := mChk.head hk
  intro H locs ls hP hD hS hL
  obtain ⟨hx, hb, hml, hown, hts, hK, hA, hfr, hlo, hok, hsc⟩ := hC
  show W p l e R s m args below meth c H locs cells slots Q (F0 m pc ls (st.map (cV σ)))
  replace hD : va_D A (mW σ tA μ) := hD
  replace hP : va_P D cls_ (mW σ tA μ) H := hP
  replace hL : mL ls M.2.2.1 (cL σ z) := hL
  simp only [mEx] at h
  simp only [mOpd, Bool.and_eq_true, Nat.beq_eq, decide_eq_true_eq] at ho
  subst ho
  split at h
  rotate_left
  · cases h
  rename_i q t
  split at h
  rotate_left
  · cases h
  rename_i n0 ff hq
  cases h
  have hWk := mW_at (σ := σ) (tA := tA) hq
  obtain ⟨xx, hxx⟩ : ∃ y : (Nat → Int32) ⊕ (Nat → Int64) ⊕ (Nat → UInt32) ⊕ (Nat → UInt64) ⊕ (Nat → Option Nat), cE σ tA (.inl (0, n0, ff)) = .inl (tA 0, n0, y) := by
    match ff with
    | .inl f => exact ⟨_, rfl⟩
    | .inr (.inl f) => exact ⟨_, rfl⟩
    | .inr (.inr (.inl f)) => exact ⟨_, rfl⟩
    | .inr (.inr (.inr (.inl f))) => exact ⟨_, rfl⟩
    | .inr (.inr (.inr (.inr f))) => exact ⟨_, rfl⟩
  rw [hxx] at hWk
  exact va_alen hx hb hK hP q 0 (cA := tA 0) (x := (n0, xx)) hWk (ty := .int) rfl rfl hd (k hr H locs ls hP hD hS hL)
set_option maxHeartbeats 4000000 in
theorem mStp_ok {M : MB} {d : Nat} {scr : Option (Nat × (Nat → Int32))} {p : Program} {l : Launch} {e : Env} {R : Room} {s : State} {m : MethodId} {args : Array Value} {below : List Frame} {meth : Method} {c : Code} {D : va_G} {σ : Nat → Nat} {tA : Nat → ClassId} {A : Nat → Prop} {H0 : Heap} {cells slots : Nat} {Q : State → Prop} (hC : mCx M d scr p R s m args c D σ tA A H0) {S S' : MSt} (hk : mChk M.1.cls M.2.1 S.1 S.2.1 = true) (h : mStp M.2.2.2.2 S = some S') (k : mChk M.1.cls M.2.1 S'.1 S'.2.1 = true → mWk M p l e R s m args below meth c D σ tA A H0 cells slots Q S') : mWk M p l e R s m args below meth c D σ tA A H0 cells slots Q S := by
  obtain ⟨pc, cd, z, st, μ⟩ := S
  cases cd with
  | nil =>
    simp only [mStp] at h
    split at h
    rotate_left
    · cases h
    rename_i e0 r0 hl
    cases h
    refine k ?_
    have h9 := hC.2.2.2.2.2.2.2.2.2.1 _ (mLook hl)
    exact h9
  | cons q r =>
    obtain ⟨i, n, a, b⟩ := q
    have h : mEx M.2.2.2.2 pc i n a b r z st μ = some S' := h
    cases i with
    | iconst v => exact mEx_iconst hC hk h k
    | bipush v => exact mEx_bipush hC hk h k
    | sipush v => exact mEx_sipush hC hk h k
    | ldc v => exact mEx_ldc hC hk h k
    | ldc2_w v => exact mEx_ldc2 hC hk h k
    | iload_n v => exact mEx_iload_n hC hk h k
    | iload v => exact mEx_iload hC hk h k
    | istore_n v => exact mEx_istore_n hC hk h k
    | istore v => exact mEx_istore hC hk h k
    | lload_n v => exact mEx_lload_n hC hk h k
    | lload v => exact mEx_lload hC hk h k
    | lstore_n v => exact mEx_lstore_n hC hk h k
    | lstore v => exact mEx_lstore hC hk h k
    | aload_n v => exact mEx_aload_n hC hk h k
    | aload v => exact mEx_aload hC hk h k
    | astore_n v => exact mEx_astore_n hC hk h k
    | astore v => exact mEx_astore hC hk h k
    | iinc v w => exact mEx_iinc hC hk h k
    | iadd => exact mEx_iadd hC hk h k
    | isub => exact mEx_isub hC hk h k
    | imul => exact mEx_imul hC hk h k
    | iand => exact mEx_iand hC hk h k
    | ixor => exact mEx_ixor hC hk h k
    | ladd => exact mEx_ladd hC hk h k
    | lmul => exact mEx_lmul hC hk h k
    | lcmp => exact mEx_lcmp hC hk h k
    | ineg => exact mEx_ineg hC hk h k
    | i2l => exact mEx_i2l hC hk h k
    | l2i => exact mEx_l2i hC hk h k
    | idiv => exact mEx_idiv hC hk h k
    | irem => exact mEx_irem hC hk h k
    | lrem => exact mEx_lrem hC hk h k
    | dup => exact mEx_dup hC hk h k
    | dup2 => exact mEx_dup2 hC hk h k
    | pop => exact mEx_pop hC hk h k
    | goto v => exact mEx_goto hC hk h k
    | tableswitch v w x y => exact mEx_tsw hC hk h k
    | lookupswitch v w => exact mEx_lsw hC hk h k
    | getfield v => exact mEx_getf hC hk h k
    | putfield v => exact mEx_putf hC hk h k
    | iaload => exact mEx_iald hC hk h k
    | iastore => exact mEx_iast hC hk h k
    | aaload => exact mEx_aald hC hk h k
    | arraylength => exact mEx_alen hC hk h k
    | ifCond cc v => cases cc <;> first | exact mEx_if_eq hC hk h k | exact mEx_if_ne hC hk h k | exact mEx_if_lt hC hk h k | exact mEx_if_ge hC hk h k | exact mEx_if_gt hC hk h k | exact mEx_if_le hC hk h k
    | if_icmp cc v => cases cc <;> first | exact mEx_icmp_eq hC hk h k | exact mEx_icmp_ne hC hk h k | exact mEx_icmp_lt hC hk h k | exact mEx_icmp_ge hC hk h k | exact mEx_icmp_gt hC hk h k | exact mEx_icmp_le hC hk h k
    | _ => cases h
theorem mStps_ok {M : MB} {d : Nat} {scr : Option (Nat × (Nat → Int32))} {p : Program} {l : Launch} {e : Env} {R : Room} {s : State} {m : MethodId} {args : Array Value} {below : List Frame} {meth : Method} {c : Code} {D : va_G} {σ : Nat → Nat} {tA : Nat → ClassId} {A : Nat → Prop} {H0 : Heap} {cells slots : Nat} {Q : State → Prop} (hC : mCx M d scr p R s m args c D σ tA A H0) : ∀ (k : Nat) {S S' : MSt}, mChk M.1.cls M.2.1 S.1 S.2.1 = true → mStps M.2.2.2.2 k S = some S' → (mChk M.1.cls M.2.1 S'.1 S'.2.1 = true → mWk M p l e R s m args below meth c D σ tA A H0 cells slots Q S') → mWk M p l e R s m args below meth c D σ tA A H0 cells slots Q S
  | 0, S, S', hk, h, kk => by
    cases h
    exact kk hk
  | 1, S, S', hk, h, kk => mStp_ok hC hk h kk
  | n + 2, S, S', hk, h, kk => by
    have h : (mStp M.2.2.2.2 S).bind (mStps M.2.2.2.2 (n + 1)) = some S' := h
    cases h1 : mStp M.2.2.2.2 S with
    | none => rw [h1] at h; cases h
    | some S1 =>
      rw [h1] at h
      exact mStp_ok hC hk h1 (fun hk1 => mStps_ok hC (n + 1) hk1 h kk)
