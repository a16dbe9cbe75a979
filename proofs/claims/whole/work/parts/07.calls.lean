/-! calls -/
def mLkV (own : String) (idx n : Nat) (N : MB) : Prop := GoodIn mTt (wsV own idx N.1.cls N.1 (mWs N)) ∧ (N.1.cls ≠ "java/lang/invoke/MethodHandle" ∧ N.1.cls ≠ "java/lang/invoke/VarHandle" ∧ (parseMethodDescriptor N.1.desc).map (fun d => d.parameters.length) = some n) ∧ N.2.2.1 ≤ 21
def mLkS (own : String) (idx n : Nat) (N : MB) : Prop := GoodIn mTt (va_wsS own idx N.1 (mWs N)) ∧ (N.1.cls ≠ "java/lang/invoke/MethodHandle" ∧ N.1.cls ≠ "java/lang/invoke/VarHandle" ∧ (parseMethodDescriptor N.1.desc).map (fun d => d.parameters.length) = some n) ∧ N.2.2.1 ≤ 21
theorem m_at {i : Nat} {w : Cond} (h : decide (lw_tbl[i]? = some w) = true) (g : goodWord w = true) : w ∈ mTt := mTt_in (List.mem_of_getElem? (of_decide_eq_true h)) g
theorem mGi {w : Cond} (h : w ∈ mTt) : w ∈ mTt ∧ ((w.onTables && w.keeps) = true ∨ ∃ ty, w = .arrayClass ty) := mTt_good w h
theorem mGi_app {a b : List Cond} (ha : GoodIn mTt a) (hb : GoodIn mTt b) : GoodIn mTt (a ++ b) := fun w h => (List.mem_append.mp h).elim (ha w) (hb w)
theorem mGi_cons {c : Cond} {a : List Cond} (hc : c ∈ mTt) (ha : GoodIn mTt a) : GoodIn mTt (c :: a) := fun w h => (List.mem_cons.mp h).elim (fun e => e ▸ mGi hc) (ha w)
theorem mGi_nil : GoodIn mTt [] := fun w h => by cases h
theorem mLkV.of {own : String} {idx n : Nat} {N : MB} (i1 i2 i3 i4 i5 : Nat) (h1 : decide (lw_tbl[i1]? = some (.methodLink own idx N.1)) = true) (h2 : decide (lw_tbl[i2]? = some (.instanceMethod N.1)) = true) (h3 : decide (lw_tbl[i3]? = some (.selects N.1.cls N.1 N.1)) = true) (h4 : decide (lw_tbl[i4]? = some (.initialized N.1.cls)) = true) (h5 : decide (lw_tbl[i5]? = some (.code N.1 N.2.1 N.2.2.1 N.2.2.2.1)) = true)
    (h6 : N.1.cls ≠ "java/lang/invoke/MethodHandle" ∧ N.1.cls ≠ "java/lang/invoke/VarHandle" ∧ (parseMethodDescriptor N.1.desc).map (fun d => d.parameters.length) = some n) (h7 : Nat.ble N.2.2.1 21 = true) : mLkV own idx n N :=
  ⟨mGi_app (mGi_cons (m_at h1 rfl) (mGi_cons (m_at h2 rfl) (mGi_cons (m_at h3 rfl) (mGi_cons (m_at h4 rfl) mGi_nil)))) (mGi_cons (m_at h5 rfl) mTt_good), h6, Nat.le_of_ble_eq_true h7⟩
theorem mLkS.of {own : String} {idx n : Nat} {N : MB} (i1 i2 i4 i5 : Nat) (h1 : decide (lw_tbl[i1]? = some (.methodLink own idx N.1)) = true) (h2 : decide (lw_tbl[i2]? = some (.static N.1)) = true) (h4 : decide (lw_tbl[i4]? = some (.initialized N.1.cls)) = true) (h5 : decide (lw_tbl[i5]? = some (.code N.1 N.2.1 N.2.2.1 N.2.2.2.1)) = true)
    (h6 : N.1.cls ≠ "java/lang/invoke/MethodHandle" ∧ N.1.cls ≠ "java/lang/invoke/VarHandle" ∧ (parseMethodDescriptor N.1.desc).map (fun d => d.parameters.length) = some n) (h7 : Nat.ble N.2.2.1 21 = true) : mLkS own idx n N :=
  ⟨mGi_app (mGi_cons (m_at h1 rfl) (mGi_cons (m_at h2 rfl) (mGi_cons (m_at h4 rfl) mGi_nil))) (mGi_cons (m_at h5 rfl) mTt_good), h6, Nat.le_of_ble_eq_true h7⟩
def mCat (st : List Value) : Nat := (st.map fun v => v.category).sum
theorem mCat_c {σ : Nat → Nat} {st : List Value} : ((st.map (cV σ)).map fun v => v.category).sum = mCat st := by
  unfold mCat
  rw [List.map_map]
  congr 2
  funext v
  exact cV_cat
section CALLS
variable {p : Program} {l : Launch} {e : Env} {R : Room} {s : State} {m : MethodId} {args : Array Value} {below : List Frame} {meth : Method} {c : Code} {D : va_G} {σ : Nat → Nat} {tA : Nat → ClassId} {A : Nat → Prop} {H0 : Heap} {cells slots : Nat} {Q : State → Prop}
/-- behind a call -/
theorem m_after {H : Heap} {locs : List Loc} {pc : Nat} {ls : Array Slot} {st0 st : List Value} {a : Array Value} {r : Option Value} {μ μ1 : MMe} (hA : ∀ q, H0.size ≤ q → A q)
    (hr : va_Run p l e R s m args below meth c H locs cells slots 0 0 (F0 m pc ls st0) (st.map (cV σ)) (mQ D σ tA (va_A (mW σ tA μ) H.size) r μ1 a) (va_A (mW σ tA μ) H.size)) (hD : va_D A (mW σ tA μ)) (hS : va_S A H0 H locs)
    (kk : ∀ (H1 : Heap) (locs1 : List Loc), va_P D cls_ (mW σ tA μ1) H1 → va_D A (mW σ tA μ1) → va_S A H0 H1 locs1 → W p l e R s m args below meth c H1 locs1 cells slots Q (F0 m (pc + 3) ls ((r.toList ++ st).map (cV σ)))) : W p l e R s m args below meth c H locs cells slots Q (F0 m pc ls st0) := by
  have hA1 : ∀ q, va_A (mW σ tA μ) H.size q → A q := by
    intro q h
    rcases h with ⟨k, e, h⟩ | h
    · exact hD.2 k (q, e) h
    · exact hA q (Nat.le_trans hS.1 h)
  intro T hT X
  obtain ⟨v, st₀, t, T', L, h0, X', hL, e1, e2, ⟨⟨hv, hP1, hK1, hD1⟩, hz, hk⟩, stp⟩ := hr T hT X
  have hv : v = r.map (cV σ) := by injection hv
  subst hv
  rw [h0] at hz hk
  obtain ⟨t2, a1, b1⟩ := kk T'.heap (locs ++ L) (by rw [e1]; exact hP1) (hD1.weaken (fun _ _ _ h => hA1 _ h))
    ⟨Nat.le_trans hS.1 (by rw [e1]; exact hz), fun q h1 h2 => by rw [e1, hk q (Nat.lt_of_lt_of_le h1 hS.1) (fun z => h2 (hA1 q z))]; exact hS.2.1 q h1 h2, fun q hq => by
      rcases List.mem_append.mp hq with h | h
      · exact hS.2.2 q h
      · exact hA1 _ (hL q h)⟩ T' rfl X'
  refine ⟨t2, stp t2 ?_, b1⟩
  rw [show ({ F0 m pc ls st0 with pc := (F0 m pc ls st0).pc + 3, stack := (r.map (cV σ)).toList ++ st.map (cV σ) } : JFrame) = F0 m (pc + 3) ls ((r.toList ++ st).map (cV σ)) from by
    rw [List.map_append]
    cases r <;> rfl]
  exact a1
theorem m_blind {as : List Value} {sz : Nat} {μ : MMe} : FrameBlind (va_Pc as (mBf D σ tA sz μ)) := fun a U g mk q => by
  obtain ⟨q0, q1, qP, qK, qD⟩ := q
  exact ⟨q0, q1, qP, va_K.moved (u := U) (U := U.calling g mk a) (Vm.Alike.refl U.vm) qK, qD⟩
end CALLS
section EVC
variable {d : Nat} {M N : MB} {scr : Option (Nat × (Nat → Int32))} {r r' : Option Value} {μ μ' μ1 : MMe} {pc idx n k a b : Nat} {cd : List MEn} {z : List (Option Value)} {st stk As : List Value}
set_option maxHeartbeats 4000000 in
theorem mEv.callS (hl : mLkS M.1.cls idx n N) (hn : As.length = n) (hst : stk = As.reverse ++ st) (hcat : Nat.ble (mCat st) 8 = true) (hc : mCall d N As μ r μ1) (E : mEv (d + 1) M scr (pc + 3, cd, z, r.toList ++ st, μ1) r' μ') : mEv (d + 1) M scr (pc, (.invokestatic idx, k, a, b) :: cd, z, stk, μ) r' μ' := by
  intro p l e R s m args below meth c D σ tA A H0 cells slots Q hC hcs hss hret hk H locs ls hP hD hS hL
  obtain ⟨hd, ho, hr⟩ := mChk.head hk
  simp only [mOpd, Nat.beq_eq] at ho
  subst ho
  obtain ⟨hx, hb, hml, hown, hts, hK, hA, hfr, hlo, hok, hsc⟩ := id hC
  have hM := hc l D σ tA H.size
  subst hst
  refine m_after (st := st) hA (va_runS (As := As.map (cV σ)) ⟨hx, hb, hml, hown, hts⟩ hM (va_cwS n hts hl.1 rfl rfl rfl hl.2.1 ⟨by show d + 1 ≤ R.frames; exact hfr, by have := hl.2.2; show 8 + (N.2.2.1 + 11) + 40 * d ≤ R.locals; omega⟩) ⟨m_blind, fun U hU hW => ⟨rfl, by rw [hU], by rw [hU]; exact hP, va_K.moved hW.alike hK, hD.weaken (fun _ _ _ _ => trivial)⟩⟩ rfl (by rw [List.length_map]; exact hn) hL.1.1 (by rw [List.map_append, List.map_reverse]) (lv_room (by rw [mCat_c]; exact Nat.le_of_ble_eq_true hcat)) hd ⟨hcs, hss⟩) hD hS (fun H1 locs1 hP1 hD1 hS1 => ?_)
  exact E p l e R s m args below meth c D σ tA A H0 cells slots Q hC hcs hss hret hr H1 locs1 ls hP1 hD1 hS1 hL
set_option maxHeartbeats 4000000 in
theorem mEv.callV {h ci : Nat} {fs : List Value} (hl : mLkV M.1.cls idx n N) (hn : As.length = n) (hst : stk = As.reverse ++ .ref h :: st) (hcat : Nat.ble (mCat st) 8 = true) (hrv : μ[h]? = some (.inr (ci, fs))) (hci : (cls_[ci]?).map (·.1) = some N.1.cls) (hc : mCall d N (.ref h :: As) μ r μ1) (E : mEv (d + 1) M scr (pc + 3, cd, z, r.toList ++ st, μ1) r' μ') : mEv (d + 1) M scr (pc, (.invokevirtual idx, k, a, b) :: cd, z, stk, μ) r' μ' := by
  intro p l e R s m args below meth c D σ tA A H0 cells slots Q hC hcs hss hret hk H locs ls hP hD hS hL
  obtain ⟨hd, ho, hr⟩ := mChk.head hk
  simp only [mOpd, Nat.beq_eq] at ho
  subst ho
  obtain ⟨hx, hb, hml, hown, hts, hK, hA, hfr, hlo, hok, hsc⟩ := id hC
  have hM := hc l D σ tA H.size
  subst hst
  cases hq : cls_[ci]? with
  | none => rw [hq] at hci; cases hci
  | some q =>
    rw [hq] at hci
    have hci : q.1 = N.1.cls := Option.some.inj hci
    have hrecv := va_recv hK hP (ci := ci) (q0 := h) hq (mW_at (σ := σ) (tA := tA) hrv)
    rw [hci] at hrecv
    refine m_after (st := st) hA (va_runV (As := As.map (cV σ)) (b := σ h) ⟨hx, hb, hml, hown, hts⟩ hM (cwV n hts hl.1 rfl rfl rfl ⟨rfl, hl.2.1⟩ ⟨by show d + 1 ≤ R.frames; exact hfr, by have := hl.2.2; show 8 + (N.2.2.1 + 11) + 40 * d ≤ R.locals; omega⟩) ⟨m_blind, hrecv, fun U hU hW => ⟨rfl, by rw [hU], by rw [hU]; exact hP, va_K.moved hW.alike hK, hD.weaken (fun _ _ _ _ => trivial)⟩⟩ rfl (by rw [List.length_map]; exact hn) hL.1.1 (by rw [List.map_append, List.map_reverse]; rfl) (lv_room (by rw [mCat_c]; exact Nat.le_of_ble_eq_true hcat)) hd ⟨hcs, hss⟩) hD hS (fun H1 locs1 hP1 hD1 hS1 => ?_)
    exact E p l e R s m args below meth c D σ tA A H0 cells slots Q hC hcs hss hret hr H1 locs1 ls hP1 hD1 hS1 hL
/-- System.arraycopy of ints -/
def mLkC (own : String) (idx : Nat) : Prop := Cond.methodLink own idx arraycopyName ∈ mTt ∧ Cond.native arraycopyName ∈ mTt ∧ Cond.static arraycopyName ∈ mTt ∧ Cond.initialized "java/lang/System" ∈ mTt
def mCpG (sp dp n : Int32) (n0 n1 : Nat) : Bool := !(decide (sp < 0)) && (!(decide (dp < 0)) && (!(decide (n < 0)) && (Nat.ble (sp.toNatClampNeg + n.toNatClampNeg) n0 && Nat.ble (dp.toNatClampNeg + n.toNatClampNeg) n1)))
set_option maxHeartbeats 4000000 in
theorem mEv.copy {h0 h1 n0 n1 : Nat} {f g : Nat → Int32} {sp dp cn : Int32} (hl : mLkC M.1.cls idx) (hst : stk = .int cn :: .int dp :: .ref h1 :: .int sp :: .ref h0 :: st) (hcat : Nat.ble (mCat st) 8 = true) (he0 : μ[h0]? = some (.inl (0, n0, .inl f))) (he1 : μ[h1]? = some (.inl (0, n1, .inl g))) (hg : mCpG sp dp cn n0 n1 = true)
    (E : mEv (d + 1) M scr (pc + 3, cd, z, st, μ.set h1 (.inl (0, n1, .inl (va_cpy f g sp.toNatClampNeg dp.toNatClampNeg cn.toNatClampNeg)))) r' μ') : mEv (d + 1) M scr (pc, (.invokestatic idx, k, a, b) :: cd, z, stk, μ) r' μ' := by
  intro p l e R s m args below meth c D σ tA A H0 cells slots Q hC hcs hss hret hk H locs ls hP hD hS hL
  obtain ⟨hd, ho, hr⟩ := mChk.head hk
  simp only [mOpd, Nat.beq_eq] at ho
  subst ho
  obtain ⟨hx, hb, hml, hown, hts, hK, hA, hfr, hlo, hok, hsc⟩ := id hC
  subst hst
  simp only [mCpG, Bool.and_eq_true, Bool.not_eq_true', decide_eq_false_iff_not, Nat.ble_eq] at hg
  obtain ⟨g1, g2, g3, g4, g5⟩ := hg
  have hw0 := mW_at (σ := σ) (tA := tA) he0
  have hw1 := mW_at (σ := σ) (tA := tA) he1
  refine va_copyi hx hb (hml.trans hL.1.1.symm) hown (hts _ hl.1) (hts _ hl.2.1) (hts _ hl.2.2.1) (hts _ hl.2.2.2) hK hP hD hS h0 h1 0 0 (a0 := σ h0) (a := σ h1) (c0 := tA 0) (c1 := tA 0) (n0 := n0) (n1 := n1) (f := f) (g := g) (ty := .int) hw0 hw1 rfl rfl rfl g1 g2 g3 g4 g5 (fun _ _ => rfl) (Nat.le_trans (Nat.succ_le_succ (Nat.zero_le d)) hfr) (by
    rw [mCat_c]
    have h8 := Nat.le_of_ble_eq_true hcat
    have hn : nativeFrameWords "java/lang/System" "arraycopy" 5 = 7 := by decide +kernel
    rw [hn]; omega) hd (fun H1 locs1 hP1 hD1 hS1 => ?_)
  rw [show ((mW σ tA μ).set h1 (σ h1, Sum.inl (tA 0, n1, Sum.inl (va_cpy f g sp.toNatClampNeg dp.toNatClampNeg cn.toNatClampNeg)))) = mW σ tA (μ.set h1 (.inl (0, n1, .inl (va_cpy f g sp.toNatClampNeg dp.toNatClampNeg cn.toNatClampNeg)))) from mW_set (c := .inl (0, n1, .inl (va_cpy f g sp.toNatClampNeg dp.toNatClampNeg cn.toNatClampNeg)))] at hP1 hD1
  exact E p l e R s m args below meth c D σ tA A H0 cells slots Q hC hcs hss hret hr H1 locs1 ls hP1 hD1 hS1 hL
/-- the law's script: read alone -/
theorem mEv.sld {L : Nat} {xs : Nat → Int32} {i : Int32} (hg : inb i L = true) (E : mEv d M (some (L, xs)) (pc + 1, cd, z, .int (xs i.toNatClampNeg) :: st, μ) r' μ') : mEv d M (some (L, xs)) (pc, (.iaload, k, a, b) :: cd, z, .int i :: .ref 1000000 :: st, μ) r' μ' := by
  intro p l e R s m args below meth c D σ tA A H0 cells slots Q hC hcs hss hret hk H locs ls hP hD hS hL
  obtain ⟨hd, ho, hr⟩ := mChk.head hk
  simp only [mOpd, Nat.beq_eq] at ho
  subst ho
  obtain ⟨hx, hb, hml, hown, hts, hK, hA, hfr, hlo, hok, hsc⟩ := id hC
  obtain ⟨hX, hbl, hbA⟩ := hsc L xs rfl
  exact va_sld hx hb hX hbl hbA hS (inb_in hg) hd (E p l e R s m args below meth c D σ tA A H0 cells slots Q hC hcs hss hret hr H locs ls hP hD hS hL)
theorem mEv.slen {L : Nat} {xs : Nat → Int32} (E : mEv d M (some (L, xs)) (pc + 1, cd, z, .int (nI L) :: st, μ) r' μ') : mEv d M (some (L, xs)) (pc, (.arraylength, k, a, b) :: cd, z, .ref 1000000 :: st, μ) r' μ' := by
  intro p l e R s m args below meth c D σ tA A H0 cells slots Q hC hcs hss hret hk H locs ls hP hD hS hL
  obtain ⟨hd, ho, hr⟩ := mChk.head hk
  simp only [mOpd, Nat.beq_eq] at ho
  subst ho
  obtain ⟨hx, hb, hml, hown, hts, hK, hA, hfr, hlo, hok, hsc⟩ := id hC
  obtain ⟨hX, hbl, hbA⟩ := hsc L xs rfl
  exact va_slen hx hb hX hbl hbA hS hd (E p l e R s m args below meth c D σ tA A H0 cells slots Q hC hcs hss hret hr H locs ls hP hD hS hL)
end EVC
/-! the frame: a contract of few cells serves in a larger world, at other places -/
theorem m_mono {l : Launch} {y : MethodName} {ws : List Cond} {rm : Room} {P1 P2 : Array Value → State → Prop} {Q1 Q2 : Array Value → State → Outcome → State → Prop} {mc ms : Nat} {f1 f2 : Addr → Prop} (h : Met l y ws rm P1 Q1 mc ms f1) (hP : ∀ a s, P2 a s → P1 a s) (hQ : ∀ a s o t, P2 a s → Q1 a s o t → Q2 a s o t) (hf : ∀ q, f1 q → f2 q) : Met l y ws rm P2 Q2 mc ms f2 := by
  intro p e ha hc hk s m args below hfr happ hp hK
  obtain ⟨n, o, h1, h2, h3, h4, L, h5, h6⟩ := h p e ha hc hk s m args below hfr happ (hP _ _ hp) hK
  exact ⟨n, o, h1, h2, h3, hQ _ _ _ _ hp h4, L, h5, fun q hq => hf _ (h6 q hq)⟩
theorem cV_comp {σ ρ : Nat → Nat} (v : Value) : cV (fun i => σ (ρ i)) v = cV σ (cV ρ v) := by cases v <;> rfl
theorem cE_comp {σ ρ : Nat → Nat} {tA : Nat → ClassId} (c : va_E) : cE (fun i => σ (ρ i)) tA c = cE σ tA (cE ρ (fun t => t) c) := by
  match c with
  | .inl (t, n, .inl f) => rfl
  | .inl (t, n, .inr (.inl f)) => rfl
  | .inl (t, n, .inr (.inr (.inl f))) => rfl
  | .inl (t, n, .inr (.inr (.inr (.inl f)))) => rfl
  | .inl (t, n, .inr (.inr (.inr (.inr g)))) =>
    have h : (fun k => (g k).map (fun i => σ (ρ i))) = (fun k => ((g k).map ρ).map σ) := by
      funext k
      rw [Option.map_map]
      rfl
    exact congrArg (fun f => (Sum.inl (tA t, n, .inr (.inr (.inr (.inr f)))) : va_E)) h
  | .inr (ci, fs) =>
    show Sum.inr (ci, fs.map (cV fun i => σ (ρ i))) = Sum.inr (ci, (fs.map (cV ρ)).map (cV σ))
    rw [List.map_map]
    congr 2
    exact List.map_congr_left (fun v _ => cV_comp v)
theorem mW_some {σ : Nat → Nat} {tA : Nat → ClassId} {μ : MMe} {k : Nat} {q : Nat × va_E} (h : (mW σ tA μ)[k]? = some q) : ∃ c, μ[k]? = some c ∧ q = (σ k, cE σ tA c) := by
  unfold mW at h
  rw [List.getElem?_mapIdx] at h
  cases hc : μ[k]? with
  | none => rw [hc] at h; cases h
  | some c => rw [hc] at h; exact ⟨c, rfl, (Option.some.inj h).symm⟩
set_option maxHeartbeats 4000000 in
theorem mCall.frame {d : Nat} {M : MB} {as : List Value} {μ μ' : MMe} {r : Option Value} (hc : mCall d M as μ r μ') (ρ : Nat → Nat) (B B' : MMe) (hlen : μ'.length = μ.length) (hlB : B'.length = B.length) (hin : ∀ i c, μ[i]? = some c → B[ρ i]? = some (cE ρ (fun t => t) c)) (hinj : ∀ i j, i < μ.length → j < μ.length → ρ i = ρ j → i = j)
    (hout : ∀ i c, μ'[i]? = some c → B'[ρ i]? = some (cE ρ (fun t => t) c)) (hoth : ∀ k, (∀ i, i < μ.length → ρ i ≠ k) → B'[k]? = B[k]?) : mCall d M (as.map (cV ρ)) B (r.map (cV ρ)) B' := by
  intro l D σ tA sz
  have key : ∀ (k : Nat) (q : Nat × va_E), (mW (fun i => σ (ρ i)) tA μ)[k]? = some q → (mW σ tA B)[ρ k]? = some q := by
    intro k q h
    obtain ⟨c, h1, rfl⟩ := mW_some h
    exact (mW_at (hin k c h1)).trans (congrArg (fun e => some (σ (ρ k), e)) (cE_comp c).symm)
  have hsub : ∀ q, va_A (mW (fun i => σ (ρ i)) tA μ) sz q → va_A (mW σ tA B) sz q := by
    intro q h
    rcases h with ⟨k, e, h⟩ | h
    · exact Or.inl ⟨ρ k, e, key k _ h⟩
    · exact Or.inr h
  refine m_mono (hc l D (fun i => σ (ρ i)) tA sz) ?_ ?_ hsub
  · rintro a s ⟨h1, h2, h3, h4, h5⟩
    refine ⟨?_, h2, h3.by ρ key, h4, h5.by ρ key ?_⟩
    · rw [h1, List.map_map]
      congr 1
      exact (List.map_congr_left (fun v _ => cV_comp v)).symm
    · intro i j hi hj
      unfold mW at hi hj
      rw [List.length_mapIdx] at hi hj
      exact hinj i j hi hj
  · rintro a s o t ⟨h1, h2, h3, h4, h5⟩ ⟨⟨g1, g2, g3, g4⟩, g5⟩
    refine ⟨⟨?_, ?_, g3, ?_⟩, ?_⟩
    · rw [g1, Option.map_map]
      congr 1
      cases r with
      | none => rfl
      | some v => exact congrArg some (cV_comp v)
    · intro k q hq
      obtain ⟨c, hc1, rfl⟩ := mW_some hq
      by_cases hk : ∃ i, i < μ.length ∧ ρ i = k
      · obtain ⟨i, hi, rfl⟩ := hk
        have hi' : i < μ'.length := by omega
        have hB := hout i _ (List.getElem?_eq_getElem hi')
        rw [hc1] at hB
        have hB := Option.some.inj hB
        subst hB
        have := g2 i _ (mW_at (List.getElem?_eq_getElem hi'))
        rw [cE_comp] at this
        exact this
      · have hk2 : ∀ i, i < μ.length → ρ i ≠ k := fun i hi e => hk ⟨i, hi, e⟩
        have hB := hoth k hk2
        rw [hc1] at hB
        have hq0 := mW_at (σ := σ) (tA := tA) hB.symm
        have hat := h3 k _ hq0
        have hlt := hat.lt
        refine hat.kept ?_
        refine g5.2 _ hlt ?_
        rintro (⟨i, e, h⟩ | h)
        · have hbig := key i _ h
          have := h5.1 _ _ _ _ hbig hq0 rfl
          obtain ⟨c', hc', -⟩ := mW_some h
          exact hk2 i (List.getElem?_eq_some_iff.mp hc').1 this
        · have : (σ k, cE σ tA c).1 < s.heap.size := hlt
          omega
    · refine ⟨fun i j p q hp hq hpq => ?_, fun k q hq => ?_⟩
      · obtain ⟨c1, hc1, rfl⟩ := mW_some hp
        obtain ⟨c2, hc2, rfl⟩ := mW_some hq
        have hi : i < B.length := by rw [← hlB]; exact (List.getElem?_eq_some_iff.mp hc1).1
        have hj : j < B.length := by rw [← hlB]; exact (List.getElem?_eq_some_iff.mp hc2).1
        exact h5.1 i j _ _ (mW_at (List.getElem?_eq_getElem hi)) (mW_at (List.getElem?_eq_getElem hj)) hpq
      · obtain ⟨c1, hc1, rfl⟩ := mW_some hq
        have hi : k < B.length := by rw [← hlB]; exact (List.getElem?_eq_some_iff.mp hc1).1
        exact Or.inl ⟨k, _, mW_at (List.getElem?_eq_getElem hi)⟩
    · exact ⟨g5.1, fun q hq hn => g5.2 q hq (fun z => hn (hsub q z))⟩
