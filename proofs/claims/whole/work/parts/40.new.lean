/-! new objects: what a constructor's run needs, its rows, its contract -/
def nCx (M : MB) (R : Room) (p : Program) (s : State) (m : MethodId) (args : Array Value) (c : Code) (D : va_G) (tA : Nat → ClassId) (A : Nat → Prop) (H0 : Heap) : Prop :=
  p.tables.exec = Jvm.exec ∧ c.code = M.2.1 ∧ c.maxLocals = M.2.2.1 ∧ s.vm.findClass M.1.cls = some m.cls ∧ (∀ w ∈ mTt, w.before args s = true) ∧ va_K D cls_ (mTy tA) s ∧ va_AO RX0 s ∧ (∀ q, H0.size ≤ q → A q)
def nPc (D : va_G) (tA : Nat → ClassId) (c0 : va_E) (h0 sz : Nat) : State → Prop := fun U => (U.heap.size = sz ∧ va_P D cls_ [(h0, c0)] U.heap ∧ va_K D cls_ (mTy tA) U ∧ va_D (fun _ => True) [(h0, c0)]) ∧ va_AO RX0 U
def nB (D : va_G) (tA : Nat → ClassId) (A : Nat → Prop) (u : (Nat → Nat) × MMe) (t : State) : Prop := va_P D cls_ (mW u.1 tA u.2) t.heap ∧ va_K D cls_ (mTy tA) t ∧ va_D A (mW u.1 tA u.2)
def nRm (d mc ms : Nat) : Room := { frames := d, cells := mc, slots := ms, locals := 40 * d }
/-- a constructor's contract: from the bare object c0 to the world μ with P, the object at its place 0 -/
def mNw (d : Nat) (M : MB) (c0 : va_E) (mc ms : Nat) (P : MMe → Prop) : Prop := ∀ (l : Launch) (D : va_G) (tA : Nat → ClassId) (h0 sz : Nat), Met l M.1 (mWs M) (nRm d mc ms) (va_Pc [.ref h0] (nPc D tA c0 h0 sz)) (va_Qv (fun u : (Nat → Nat) × MMe => u.1 0 = h0 ∧ P u.2) (nB D tA (va_A [(h0, c0)] sz)) (va_A [(h0, c0)] sz)) mc ms (va_A [(h0, c0)] sz)
theorem mW_len {σ : Nat → Nat} {tA : Nat → ClassId} {μ : MMe} : (mW σ tA μ).length = μ.length := by
  unfold mW
  rw [List.length_mapIdx]
theorem nd_range (n : Nat) : va_nd (List.range n) = true := by
  have h : ∀ l : List Nat, l.Nodup → va_nd l = true := by
    intro l
    induction l with
    | nil => intro _; rfl
    | cons a t ih =>
      intro h
      rw [List.nodup_cons] at h
      unfold va_nd
      rw [ih h.2, Bool.and_true, decide_eq_true_eq]
      exact h.1
  exact h _ List.nodup_range
theorem m_join {A0 : Nat → Prop} {D : va_G} {ws w1 : va_W} {q0 : Nat} {c0 : va_E} {H H1 : Heap} (hP : va_P D cls_ (ws ++ [(q0, c0)]) H) (hD : va_D A0 (ws ++ [(q0, c0)])) (hk : ∀ q : Nat, q < H.size → ¬ va_A [(q0, c0)] H.size q → H1[q]? = H[q]?) (hF : ∀ q, va_A [(q0, c0)] H.size q → A0 q) (hP1 : va_P D cls_ w1 H1) (hD1 : va_D (va_A [(q0, c0)] H.size) w1) : va_P D cls_ (ws ++ w1) H1 ∧ va_D A0 (ws ++ w1) := by
  refine va_join (wc := [(q0, c0)]) hP hD [ws.length] (List.range ws.length) ?_ ?_ (nd_range _) ?_ hk hF hP1 hD1
  · rw [List.map_cons, List.map_nil, List.getElem?_append_right (Nat.le_refl _), Nat.sub_self]
    rfl
  · apply List.ext_getElem?
    intro i
    rw [List.getElem?_map, List.getElem?_map]
    by_cases h : i < ws.length
    · rw [List.getElem?_range h, List.getElem?_eq_getElem h]
      show some ((ws ++ [(q0, c0)])[i]?) = _
      rw [List.getElem?_append_left h, List.getElem?_eq_getElem h]
      rfl
    · rw [List.getElem?_eq_none (l := List.range ws.length) (by rw [List.length_range]; omega), List.getElem?_eq_none (l := ws) (by omega)]
      rfl
  · intro i hi
    rw [List.mem_range] at hi
    simp only [List.mem_singleton]
    omega
section NEW
variable {M : MB} {R : Room} {p : Program} {l : Launch} {e : Env} {s : State} {m : MethodId} {args : Array Value} {below : List Frame} {meth : Method} {c : Code} {D : va_G} {tA : Nat → ClassId} {A : Nat → Prop} {H0 H : Heap} {locs : List Loc} {cells slots : Nat} {Q : State → Prop} {pc : Nat} {ls : Array Slot} {rest : List Value} {ws : va_W}
theorem m_ac {i : Nat} (h : decide (lw_tbl[i]? = some (.arrayClass .int)) = true) : Cond.arrayClass .int ∈ mTt := m_at h rfl
theorem m_acI : Cond.arrayClass .int ∈ mTt := m_at (i := 130) (by decide +kernel) rfl
set_option maxHeartbeats 4000000 in
/-- newarray int -/
theorem n_arr (C : nCx M R p s m args c D tA A H0) {n : Int32} {N : Nat} (hn : ¬ n < 0) (hN : n.toNatClampNeg = N) (hby : N * componentBytes .int ≤ 536870912) (hcells : cells + 1 ≤ R.cells) (hslots : slots + N ≤ R.slots) (hdg : decode M.2.1 pc = .ok (.newarray .int, 2)) (hP : va_P D cls_ ws H) (hD : va_D A ws) (hS : va_S A H0 H locs)
    (kk : ∀ (q : Nat) (H1 : Heap), va_P D cls_ (ws ++ [(q, .inl (tA 0, N, .inl (fun _ => nI 0)))]) H1 → va_D A (ws ++ [(q, .inl (tA 0, N, .inl (fun _ => nI 0)))]) → va_S A H0 H1 locs → W p l e R s m args below meth c H1 locs (cells + 1) (slots + N) Q (F0 m (pc + 2) ls (.ref q :: rest))) : W p l e R s m args below meth c H locs cells slots Q (F0 m pc ls (.int n :: rest)) := by
  obtain ⟨hx, hb, hml, hown, hts, hK, hAO, hA⟩ := C
  refine va_newa (atype := .int) (ty := .int) (a0 := (N, .inl (fun _ => nI 0))) hx hb (hts _ m_acI) rfl hK hP hD hS hA (fun cA => by rw [nI_0]; rfl) hn hN hby hcells hslots hdg (fun q cA H1 hK1 hP1 hD1 hS1 => ?_)
  have e1 : s.vm.findClass ("[" ++ FieldType.int.toString) = some cA := (hK1.2 2 (cA, .int) rfl).2
  have e2 : s.vm.findClass ("[" ++ FieldType.int.toString) = some (tA 0) := (hK.2 0 (tA 0, .int) rfl).2
  have e3 : cA = tA 0 := Option.some.inj (e1.symm.trans e2)
  subst e3
  exact kk q H1 hP1 hD1 hS1
set_option maxHeartbeats 4000000 in
/-- putfield of a final field, in a constructor -/
theorem n_put (C : nCx M R p s m args c D tA A H0) (hin : meth.name = "<init>") {idx ci k : Nat} {Cn : String} {T : u_T} {N : Nat} {fs : List Value} {h0 q0 : Nat} {ty : FieldType} {v : Value} (hf : decide ((M.1.cls, idx, ci, k) ∈ FLk) = true) (hc : cls_[ci]? = some (Cn, T, N)) (hfin : (T k).2.2.2 = true) (hdecl : (T k).1 = M.1.cls) (hd : parseFieldDescriptor (T k).2.2.1 = some ty) (hn : narrow ty v = v) (hfit : fits ty v = true) (he : ws[q0]? = some (h0, .inr (ci, fs))) (hl : k < fs.length) (hdg : decode M.2.1 pc = .ok (.putfield idx, 3)) (hP : va_P D cls_ ws H) (hD : va_D A ws) (hS : va_S A H0 H locs)
    (kk : ∀ (H1 : Heap) (locs1 : List Loc), va_P D cls_ (ws.set q0 (h0, .inr (ci, fs.set k v))) H1 → va_D A (ws.set q0 (h0, .inr (ci, fs.set k v))) → va_S A H0 H1 locs1 → W p l e R s m args below meth c H1 locs1 cells slots Q (F0 m (pc + 3) ls rest)) : W p l e R s m args below meth c H locs cells slots Q (F0 m pc ls (v :: .ref h0 :: rest)) := by
  obtain ⟨hx, hb, hml, hown, hts, hK, hAO, hA⟩ := C
  obtain ⟨C', T', N', hc', hk, hw⟩ := FL_ok (of_decide_eq_true hf)
  cases hc.symm.trans hc'
  obtain ⟨ty0, hty⟩ := (m_cls hc).2.1
  exact va_putF hx hb hts (m_clsT hc) ty0 hty (m_cls hc).2.2 hown hK hP hD hS q0 he hc k hk (hts _ (mTt_in hw rfl)) (fun _ h9 => h9) hfin hin hdecl hd hn hfit hl hdg kk
/-- a constructor's links -/
def mLkN (own : String) (i1 i2 : Nat) (ci : Nat) (N : MB) : Prop := (∃ Cn T k, cls_[ci]? = some (Cn, T, k) ∧ N.1.cls = Cn ∧ Cond.classLink own i1 Cn ∈ mTt ∧ Cond.instantiable Cn k ∈ mTt ∧ Cond.initialized Cn ∈ mTt) ∧ Cond.methodLink own i2 N.1 ∈ mTt ∧ Cond.instanceMethod N.1 ∈ mTt ∧ GoodIn mTt (mWs N) ∧ N.1.name = "<init>" ∧ N.2.2.2.1 = none ∧ (N.1.cls ≠ "java/lang/invoke/MethodHandle" ∧ N.1.cls ≠ "java/lang/invoke/VarHandle" ∧ (parseMethodDescriptor N.1.desc).map (fun d => d.parameters.length) = some 0) ∧ N.2.2.1 ≤ 21
/-- the bare object of a class row -/
def nDef (N : Nat) (ty : Nat → FieldType) : List Value := (List.range N).map (fun k => defaultValue (ty k))
theorem nDef_at {N : Nat} {ty : Nat → FieldType} : ∀ j, j < N → defaultValue (ty j) = vp_V (nDef N ty) j := by
  intro j hj
  unfold vp_V nDef
  rw [List.getD_eq_getElem?_getD, List.getElem?_map, List.getElem?_range hj]
  rfl
set_option maxHeartbeats 4000000 in
/-- new, dup, its constructor -/
theorem n_new (C : nCx M R p s m args c D tA A H0) {i1 i2 ci d mc ms k1 : Nat} {Cn : String} {T : u_T} {N : MB} {fs : List Value} {ty : Nat → FieldType} {P : MMe → Prop} (hc : cls_[ci]? = some (Cn, T, k1)) (hty : ∀ k, k < k1 → parseFieldDescriptor (T k).2.2.1 = some (ty k)) (hfs : fs = nDef k1 ty) (hlk : mLkN M.1.cls i1 i2 ci N) (hN : mNw d N (.inr (ci, fs)) mc ms P) (hd1 : decode M.2.1 pc = .ok (.new i1, 3)) (hd2 : decode M.2.1 (pc + 3) = .ok (.dup, 1)) (hd3 : decode M.2.1 (pc + 4) = .ok (.invokespecial i2, 3)) (hls : ls.size = M.2.2.1) (hcat : Nat.ble (mCat rest) 7 = true) (hcells : cells + (1 + mc) ≤ R.cells) (hslots : slots + (k1 + ms) ≤ R.slots) (hfr : d + 1 ≤ R.frames) (hlo : 40 + 40 * d ≤ R.locals) (hP : va_P D cls_ ws H) (hD : va_D A ws) (hS : va_S A H0 H locs)
    (kk : ∀ (σ : Nat → Nat) (μ : MMe) (H1 : Heap) (locs1 : List Loc), P μ → va_P D cls_ (ws ++ mW σ tA μ) H1 → va_D A (ws ++ mW σ tA μ) → va_S A H0 H1 locs1 → W p l e R s m args below meth c H1 locs1 (cells + (1 + mc)) (slots + (k1 + ms)) Q (F0 m (pc + 7) ls (.ref (σ 0) :: rest))) : W p l e R s m args below meth c H locs cells slots Q (F0 m pc ls rest) := by
  obtain ⟨hx, hb, hml, hown, hts, hK, hAO, hA⟩ := id C
  obtain ⟨⟨Cn', T', k1', hc', hcl, w1, w2, w3⟩, w4, w5, w6, w7, w8, w9, w10⟩ := hlk
  cases hc.symm.trans hc'
  subst hfs
  refine va_new (ci := ci) (fs := nDef k1 ty) hx hb hts (m_clsT hc) ty hty hown (hts _ w1) (hts _ w2) (hts _ w3) hK hP hD hS hA hc nDef_at (by omega) (by omega) hd1 (fun q H1 hP1 hD1 hS1 => ?_)
  refine lv_dup hx hb hd2 rfl ?_
  have hg : (ws ++ [((q, .inr (ci, nDef k1 ty)) : Nat × va_E)])[ws.length]? = some (q, .inr (ci, nDef k1 ty)) := by
    rw [List.getElem?_append_right (Nat.le_refl _), Nat.sub_self]
    rfl
  have hP2 : va_P D cls_ [(q, .inr (ci, nDef k1 ty))] H1 := hP1.sub [ws.length] (by simp only [List.filterMap_cons, hg, List.filterMap_nil])
  have hD2 : va_D A [(q, .inr (ci, nDef k1 ty))] := hD1.sub [ws.length] rfl (by simp only [List.map_cons, hg, List.map_nil])
  have hF := va_free (wc := [(q, .inr (ci, nDef k1 ty))]) hD1 hS1 hA [ws.length] (by simp only [List.map_cons, hg, List.map_nil])
  refine va_callv (va_runI (As := []) (rest := .ref q :: rest) ⟨hx, hb, hml, hown, hts⟩ (hN l D tA q H1.size) (cwI 0 hts w6 (ws' := mTt) (bytes := N.2.1) (maxL := N.2.2.1) (by unfold mWs; rw [w8]) rfl rfl (by rw [hcl]; exact hts _ w3) (hts _ w4) (hts _ w5) w7 w9 ⟨hfr, by show 8 + (N.2.2.1 + 11) + 40 * d ≤ R.locals; omega⟩) ⟨?_, fun U hU hW => ⟨rfl, ⟨by rw [hU], by rw [hU]; exact hP2, va_K.moved hW.alike hK, hD2.weaken (fun _ _ _ _ => trivial)⟩, hAO.moved hW.alike⟩⟩ rfl rfl hls rfl (lv_room (by
    have := Nat.le_of_ble_eq_true hcat
    show (List.map (fun v : Value => v.category) (Value.ref q :: rest)).sum ≤ 8
    rw [List.map_cons, List.sum_cons]
    show 1 + mCat rest ≤ 8
    omega)) hd3 ⟨by omega, by omega⟩) hS1 (fun q _ h => hF q h) hF (fun u t H2 locs2 ht hvm hw hB hz hk hS2 => ?_)
  · rintro a U g mk ⟨q0, ⟨q1, qP, qK, qD⟩, qA⟩
    exact ⟨q0, ⟨q1, qP, va_K.moved (u := U) (U := U.calling g mk a) (Vm.Alike.refl U.vm) qK, qD⟩, va_AO.moved (u := U) (U := U.calling g mk a) (Vm.Alike.refl U.vm) qA⟩
  · obtain ⟨hB1, hB2, hB3⟩ := hB
    rw [ht] at hB1
    obtain ⟨hP3, hD3⟩ := m_join hP1 hD1 hk hF hB1 hB3
    have := kk u.1 u.2 H2 locs2 hw.2 hP3 hD3 hS2
    rw [hw.1] at this
    rw [show cells + 1 + mc = cells + (1 + mc) by omega, show slots + k1 + ms = slots + (k1 + ms) by omega]
    exact this
end NEW
set_option maxHeartbeats 4000000 in
/-- a constructor's run is its contract -/
theorem mNw.intro {d : Nat} {M : MB} {c0 : va_E} {mc ms : Nat} {P : MMe → Prop} (hpl : plainName M.1.cls = true) (hin : M.1.name = "<init>") (hret : M.2.2.2.1 = none) (hmax : 1 ≤ M.2.2.1)
    (E : ∀ (p : Program) (l : Launch) (e : Env) (s : State) (m : MethodId) (args : Array Value) (below : List Frame) (meth : Method) (c : Code) (D : va_G) (tA : Nat → ClassId) (A : Nat → Prop) (h0 : Nat) (ls : Array Slot) (Q : State → Prop), nCx M (nRm d mc ms) p s m args c D tA A s.heap → meth.name = "<init>" → va_P D cls_ [(h0, c0)] s.heap → va_D A [(h0, c0)] → lv_has ls M.2.2.1 [(0, .ref h0)] →
      (∀ (pc : Nat) (H : Heap) (locs : List Loc) (ls1 : Array Slot) (σ : Nat → Nat) (μ : MMe), decode M.2.1 pc = .ok (.return_, 1) → σ 0 = h0 → P μ → va_P D cls_ (mW σ tA μ) H → va_D A (mW σ tA μ) → va_S A s.heap H locs → W p l e (nRm d mc ms) s m args below meth c H locs mc ms Q (F0 m pc ls1 [])) →
      W p l e (nRm d mc ms) s m args below meth c s.heap [] 0 0 Q (F0 m 0 ls [])) : mNw d M c0 mc ms P := by
  intro l D tA h0 sz
  refine Met.ofW (cc := M.2.1) (maxL := M.2.2.1) (ret := M.2.2.2.1) hpl rfl ?_
  intro p e s m args below meth c s₁ B hml hv
  obtain ⟨rfl, ⟨hsz, hP, hK, hD0⟩, hAO⟩ := hv
  have hx := B.exec
  have hb := B.bytes
  have hr := B.returns
  have hts := atoms_spec (ws := mWs M) B.pre
  have hown : s.vm.findClass M.1.cls = some m.cls := findClass_of_methodNamed B.named
  have hlocks := B.notSynchronized
  have hin2 : meth.name = "<init>" := (name_of_methodNamed B.named B.method).1.trans hin
  subst hsz
  have hD := hD0.self (sz := s.heap.size)
  have hA : ∀ q : Nat, s.heap.size ≤ q → va_A [(h0, c0)] s.heap.size q := fun q h => Or.inr h
  have hl := lv_entry ([.ref h0]) (n := M.2.2.1) hmax
  rw [lg_entry_eq]
  generalize (lg_sl ([.ref h0]) ++ List.replicate (M.2.2.1 - (lg_sl ([.ref h0])).length) Slot.unset).toArray = ls at hl ⊢
  have hl : lv_has ls M.2.2.1 [(0, .ref h0)] := hl
  refine E p l e s m _ below meth c D tA (va_A [(h0, c0)] s.heap.size) h0 ls _ ⟨hx, hb, hml, hown, fun w hw => hts w (List.mem_cons_of_mem _ hw), hK, hAO, hA⟩ hin2 hP hD hl ?_
  intro pc H locs ls1 σ μ hdg h0' hPm hP1 hD1 hS1
  exact W.vret hx hb (hr.trans hret) (fun t ht hW => ⟨⟨(σ, μ), rfl, ⟨h0', hPm⟩, by rw [ht]; exact hP1, va_K.moved hW.alike hK, hD1⟩, hS1.F ht⟩) hS1.2.2 hdg
