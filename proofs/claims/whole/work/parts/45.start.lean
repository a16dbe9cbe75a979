/-! THE CLAIM OUT OF ONE WALK OF THE LAW'S BODY. Your part is whole_start (and what it stands on); all else here is the same for every law, but numbers. -/
def R_law : String := "StickyRoutesLaw"
def lw_P (b : Addr) (xs : List Int32) (args : Array Value) (s : State) : Prop := args = #[.ref b] ∧ s.IntsAt b xs ∧ xs.length ≤ 2560 ∧ (Jvm.Cond.and given_1 narrow_1).before args s = true
def lw_Q (_ : Array Value) (s : State) (o : Outcome) (t : State) : Prop := o = .returned (some (.int 1)) ∧ Framed s o t [] 600000 7302250
def lw_Z (below : List Frame) (a : Array Value) (s : State) : State → Prop := fun t => ∃ o, t.status = .running ∧ Ended t below o ∧ lw_Q a s o t
/-- the law's own end, with 1 on the stack, nothing written that was there before, its room as the claim has it -/
theorem lw_ret {p : Program} {l : Launch} {e : Env} {s : State} {m : MethodId} {below : List Frame} {meth : Method} {c : Code} {b : Nat} (hx : p.tables.exec = Jvm.exec) (hb : c.code = code) (hr : meth.sig.returnType = ret) (hlocks : meth.locks = false) {pc : Nat} {H : Heap} {ls : Array Slot} (hdg : decode code pc = .ok (.ireturn, 1)) : W p l e room_1 s m #[Value.ref b] below meth c H [] 600000 7302250 (lw_Z below #[Value.ref b] s) (F0 m pc ls [.int 1]) := by
  intro T hT X
  obtain ⟨fs, hret, hrun, hended, hW, hframe⟩ := X.leave (v := some (.int 1)) (hlocks := hlocks) (fun h => by rw [hr] at h; cases h)
  have hmeth' : T.vm.method? m = some meth := X.method'
  refine ⟨T.setFrames fs, ?_, .returned (some (.int 1)), hrun, hended, rfl, ⟨_, rfl⟩, hW, hframe⟩
  jvm_step X.here [X.here.top, hx, hb, hdg, hmeth', hr, ret, narrow_b1]
  (try refine ⟨rfl, ?_⟩); (try refine ⟨rfl, ?_⟩)
  first | (intro acts; rw [hret _ acts rfl rfl rfl]) | rw [hret _ _ rfl rfl rfl]
  exact Steps.refl _
/-- what holds at the law's entry: the machine, the code, the tables' words (any of lw_tbl by 'hts w (by decide +kernel)'), the script of L ints xs at the cell b, what the Statement gives of the start (any of its parts by flat_of_before) -/
def lw_At (p : Program) (s : State) (m : MethodId) (meth : Method) (c : Code) (b L : Nat) (xs : Nat → Int32) : Prop :=
  p.tables.exec = Jvm.exec ∧ c.code = code ∧ meth.sig.returnType = ret ∧ c.maxLocals = 4 ∧ s.vm.findClass R_law = some m.cls ∧ (∀ w ∈ lw_tbl, w.before #[Value.ref b] s = true) ∧ va_X b L xs s s.heap ∧ b < s.heap.size ∧ meth.locks = false ∧ (Jvm.Cond.and given_1 narrow_1).before #[Value.ref b] s = true
/-! the world as the law's loop has it, out of the two constructors' worlds -/
def sLw (b : Nat) (σ1 σ2 : Nat → Nat) : Nat → Nat := fun i => if i < 68 then σ1 i else if i < 74 then σ2 (i - 68) else b
theorem mW_ag {σ ρ : Nat → Nat} {tA : Nat → ClassId} {r : RouS} (h : ∀ j, j < 68 → σ j = ρ j) : mW σ tA (memR r) = mW ρ tA (memR r) := by
  refine (wR (σ := σ) (g1 := fun j => ρ (1 + j)) (g2 := fun j => ρ (10 + j)) (g3 := fun j => ρ (20 + j)) (g4 := fun j => ρ (29 + j)) (g5 := fun j => ρ (38 + j)) (g6 := fun j => ρ (47 + j)) (g7 := fun j => ρ (56 + j)) (g8 := fun j => ρ (65 + j)) (tA := tA) (h0 := ρ 0) (q := ρ 19) (f := fun k => (m_sts k).map ρ) (h 0 (by omega)) (h 19 (by omega)) (fun j hj => h _ (by omega)) (fun j hj => h _ (by omega)) (fun j hj => h _ (by omega)) (fun j hj => h _ (by omega)) (fun j hj => h _ (by omega)) (fun j hj => h _ (by omega)) (fun j hj => h _ (by omega)) (fun j hj => h _ (by omega)) (fun k => ?_)).trans (wR (σ := ρ) (g1 := fun j => ρ (1 + j)) (g2 := fun j => ρ (10 + j)) (g3 := fun j => ρ (20 + j)) (g4 := fun j => ρ (29 + j)) (g5 := fun j => ρ (38 + j)) (g6 := fun j => ρ (47 + j)) (g7 := fun j => ρ (56 + j)) (g8 := fun j => ρ (65 + j)) (tA := tA) (h0 := ρ 0) (q := ρ 19) (f := fun k => (m_sts k).map ρ) rfl rfl (fun j hj => rfl) (fun j hj => rfl) (fun j hj => rfl) (fun j hj => rfl) (fun j hj => rfl) (fun j hj => rfl) (fun j hj => rfl) (fun j hj => rfl) (fun k => rfl)).symm
  rw [sts_up (σ := σ) rfl rfl rfl rfl rfl, sts_up (σ := ρ) rfl rfl rfl rfl rfl, h 20 (by omega), h 29 (by omega), h 38 (by omega), h 47 (by omega), h 56 (by omega)]
theorem mW_L {b : Nat} {σ1 σ2 : Nat → Nat} {tA : Nat → ClassId} {r : RouS} {m : ModS} : mW (sLw b σ1 σ2) tA (memL r m) = mW σ1 tA (memR r) ++ mW σ2 tA (memM m) := by
  unfold memL
  rw [mW_o, mWo_app, ← mW_o, mW_ag (σ := sLw b σ1 σ2) (ρ := σ1) (fun j hj => if_pos hj), mW_o (μ := memM m)]
  rfl
theorem mTt_sub {w : Cond} (h : w ∈ mTt) : w ∈ lw_tbl := (List.mem_filter.mp h).1
theorem ln_L_2 : mLkN RL 7 9 2 m_X2_init := ⟨⟨RX2, TX2, 9, rfl, rfl, m_at (i := 51) (by decide +kernel) rfl, m_at (i := 52) (by decide +kernel) rfl, m_at (i := 45) (by decide +kernel) rfl⟩, m_at (i := 53) (by decide +kernel) rfl, m_at (i := 54) (by decide +kernel) rfl, mGi_cons (m_at (i := 55) (by decide +kernel) rfl) mTt_good, rfl, rfl, by decide +kernel, Nat.le_of_ble_eq_true rfl⟩
theorem ln_L_3 : mLkN RL 10 12 3 m_X3_init := ⟨⟨RX3, TX3, 13, rfl, rfl, m_at (i := 483) (by decide +kernel) rfl, m_at (i := 484) (by decide +kernel) rfl, m_at (i := 48) (by decide +kernel) rfl⟩, m_at (i := 485) (by decide +kernel) rfl, m_at (i := 486) (by decide +kernel) rfl, mGi_cons (m_at (i := 487) (by decide +kernel) rfl) mTt_good, rfl, rfl, by decide +kernel, Nat.le_of_ble_eq_true rfl⟩
theorem di_L_0 : decode code 0 = .ok (.new 7, 3) := by decide +kernel
theorem di_L_3 : decode code 3 = .ok (.dup, 1) := by decide +kernel
theorem di_L_4 : decode code 4 = .ok (.invokespecial 9, 3) := by decide +kernel
theorem di_L_7 : decode code 7 = .ok (.astore_n 1, 1) := by decide +kernel
theorem di_L_8 : decode code 8 = .ok (.new 10, 3) := by decide +kernel
theorem di_L_11 : decode code 11 = .ok (.dup, 1) := by decide +kernel
theorem di_L_12 : decode code 12 = .ok (.invokespecial 12, 3) := by decide +kernel
theorem di_L_15 : decode code 15 = .ok (.astore_n 2, 1) := by decide +kernel
theorem aw_i : Cond.arrayClass .int ∈ lw_tbl := mTt_sub m_acI
theorem aw_o : Cond.arrayOver (.object RX0) ∈ lw_tbl := List.mem_of_getElem? (i := 131) (of_decide_eq_true (by decide +kernel))
theorem iw_0 : Cond.instantiable RX0 13 ∈ lw_tbl := List.mem_of_getElem? (i := 60) (of_decide_eq_true (by decide +kernel))
theorem iw_1 : Cond.instantiable RX1 7 ∈ lw_tbl := List.mem_of_getElem? (i := 133) (of_decide_eq_true (by decide +kernel))
theorem iw_2 : Cond.instantiable RX2 9 ∈ lw_tbl := List.mem_of_getElem? (i := 52) (of_decide_eq_true (by decide +kernel))
theorem iw_3 : Cond.instantiable RX3 13 ∈ lw_tbl := List.mem_of_getElem? (i := 484) (of_decide_eq_true (by decide +kernel))
/-- the beginning: class and reference agree -/
theorem TR_0 {r : RouS} {m : ModS} (h1 : RC (gR_now r) (sBg 4)) (h2 : gR_sc r = nI 0) (h3 : gR_ns r = nI 0) (h4 : gR_bd r = nI 0) (h5 : gR_no r = nI 0) (h6 : gR_fu r = nI 0) (h7 : gT_ln (gR_txt r) = nI 0) (k1 : RM (gM_nw m) (sBg 4)) (k2 : gM_ss m = nI 0) (k3 : gM_ty m = nI 0) (k4 : gM_bd m = nI 0) (k5 : gM_no m = nI 0) (k6 : gM_fu m = nI 0) : TR 0 r m :=
  ⟨sBg 4, 0, 0, fun _ _ => 0, 0, fun _ => 0, WF.bg (by omega) (by omega), h1, k1, ⟨by omega, by omega, h2, k2, h3, fun j hj => absurd hj (by omega)⟩, ⟨by omega, h7, k3, fun j hj => absurd hj (by omega)⟩, h4.trans k4.symm, h5.trans k5.symm, h6.trans k6.symm⟩
set_option maxHeartbeats 8000000 in
set_option maxRecDepth 100000 in
/-- from the entry, for every script of at most 2560 ints, the law comes to its end with true -/
theorem whole_start {p : Program} {e : Env} {s : State} {m : MethodId} {below : List Frame} {meth : Method} {c : Code} (l : Launch) (hflags : l.flags = flags0) {b L : Nat} {xs : Nat → Int32} (hL : L ≤ 2560) (C0 : lw_At p s m meth c b L xs) : W p l e room_1 s m #[Value.ref b] below meth c s.heap [] 0 0 (lw_Z below #[Value.ref b] s) (entryFrame m ([Value.ref b] : List Value).toArray 4) := by
  obtain ⟨hx, hb, hr, hml, hown, hts, hX, hbl, hlocks, hgv⟩ := id C0
  have hA : ∀ q : Nat, s.heap.size ≤ q → (fun q : Nat => s.heap.size ≤ q) q := fun _ h => h
  have hbA : ¬ (fun q : Nat => s.heap.size ≤ q) b := Nat.not_le.mpr hbl
  obtain ⟨c0, iS0, hKn0⟩ := u_known (C := RX0) (T := TX0) (N := 13) (n := 13) hts inlX0 (hts _ iw_0)
  obtain ⟨c1, iS1, hKn1⟩ := u_known (C := RX1) (T := TX1) (N := 7) (n := 7) hts inlX1 (hts _ iw_1)
  obtain ⟨c2, iS2, hKn2⟩ := u_known (C := RX2) (T := TX2) (N := 9) (n := 9) hts inlX2 (hts _ iw_2)
  obtain ⟨c3, iS3, hKn3⟩ := u_known (C := RX3) (T := TX3) (N := 13) (n := 13) hts inlX3 (hts _ iw_3)
  obtain ⟨D, hKc⟩ : ∃ D : va_G, ∀ (k : Nat) (q : vw_C), cls_[k]? = some q → u_Kn s q.1 q.2.1 q.2.2 (D.1 k) (D.2 k) := by
    refine ⟨(fun k => if k = 0 then c0 else if k = 1 then c1 else if k = 2 then c2 else c3, fun k => if k = 0 then iS0 else if k = 1 then iS1 else if k = 2 then iS2 else iS3), ?_⟩
    intro k q hq
    match k, hq with
    | 0, hq => cases hq; exact hKn0
    | 1, hq => cases hq; exact hKn1
    | 2, hq => cases hq; exact hKn2
    | 3, hq => cases hq; exact hKn3
    | k + 4, hq => simp [cls_] at hq
  obtain ⟨a0, kA0, comp0, f1, f2, f3⟩ := Cond.arrayClass_spec (hts _ aw_i)
  obtain ⟨comp1, a1, kA1, g1, -, g3, g4, g5⟩ := Cond.arrayOver_spec (hts _ aw_o)
  obtain ⟨tA, ht0, ht1⟩ : ∃ tA : Nat → ClassId, tA 0 = a0 ∧ tA 1 = a1 := ⟨fun k => if k = 0 then a0 else a1, rfl, rfl⟩
  have hK : va_K D cls_ (mTy tA) s := by
    refine ⟨hKc, fun k q h => ?_⟩
    match k, h with
    | 0, h =>
      cases h
      rw [ht0]
      exact ⟨fun n z => ⟨fun k h => (by cases h), kA0, f2, comp0, f3⟩, f1⟩
    | 1, h =>
      cases h
      rw [ht1]
      exact ⟨fun n z => ⟨fun k h => (by cases h), kA1, g3, comp1, g4⟩, kA1, comp1, g3, g4, g1, g5⟩
    | k + 2, h => simp [mTy] at h
  have hAO : va_AO RX0 s := va_AO.of (hts _ aw_o)
  have C : nCx m_L_law room_1 p s m #[Value.ref b] c D tA (fun q : Nat => s.heap.size ≤ q) s.heap := ⟨hx, hb, hml, hown, fun w hw => hts w (mTt_sub hw), hK, hAO, hA⟩
  have hS : va_S (fun q : Nat => s.heap.size ≤ q) s.heap s.heap [] := va_S.rf
  have hP : va_P D cls_ [] s.heap := fun k q h => by simp at h
  have hD : va_D (fun q : Nat => s.heap.size ≤ q) [] := ⟨fun i j p q h => by simp at h, fun k q h => by simp at h⟩
  have hl := lv_entry ([.ref b]) (n := 4) (Nat.le_of_ble_eq_true rfl)
  rw [lg_entry_eq]
  generalize (lg_sl ([.ref b]) ++ List.replicate (4 - (lg_sl ([.ref b])).length) Slot.unset).toArray = ls at hl ⊢
  have hl : lv_has ls 4 [(0, .ref b)] := hl
  refine n_new C (i1 := 7) (i2 := 9) (ci := 2) (d := 3) (mc := 67) (ms := 5094) (k1 := 9) (N := m_X2_init) (ty := tyX2) rfl tyX2_ok (fs := [.null, .null, .null, .null, .int 0, .int 0, .int 0, .int 0, .int 0]) rfl ln_L_2 N_X2 di_L_0 di_L_3 di_L_4 hl.1 rfl (Nat.le_of_ble_eq_true rfl) (Nat.le_of_ble_eq_true rfl) (Nat.le_of_ble_eq_true rfl) (Nat.le_of_ble_eq_true rfl) hP hD hS (fun σ1 μ1 H1 locs1 hPm hP hD hS => ?_)
  obtain ⟨r, rfl, r1, r2, r3, r4, r5, r6, r7⟩ := hPm
  refine lv_astore_n (lv' := [(1, .ref (σ1 0)), (0, .ref b)]) hx hb di_L_7 rfl hl (by decide) rfl (fun ls hl => ?_)
  refine n_new C (i1 := 10) (i2 := 12) (ci := 3) (d := 1) (mc := 5) (ms := 4819) (k1 := 13) (N := m_X3_init) (ty := tyX3) rfl tyX3_ok (fs := [.null, .null, .null, .int 0, .null, .int 0, .int 0, .int 0, .null, .int 0, .int 0, .int 0, .int 0]) rfl ln_L_3 N_X3 di_L_8 di_L_11 di_L_12 hl.1 rfl (Nat.le_of_ble_eq_true rfl) (Nat.le_of_ble_eq_true rfl) (Nat.le_of_ble_eq_true rfl) (Nat.le_of_ble_eq_true rfl) hP hD hS (fun σ2 μ2 H2 locs2 hPm hP hD hS => ?_)
  obtain ⟨mm, rfl, m1, m2, m3, m4, m5, m6⟩ := hPm
  refine lv_astore_n (lv' := [(2, .ref (σ2 0)), (1, .ref (σ1 0)), (0, .ref b)]) hx hb di_L_15 rfl hl (by decide) rfl (fun ls hl => ?_)
  rw [List.nil_append, ← mW_L (b := b)] at hP hD
  obtain ⟨μ', E0⟩ := law_loop (L := L) (xs := xs) hL 512 0 0 r mm (by omega) (by omega) (by omega) (TR_0 r1 r2 r3 r4 r5 r6 r7 m1 m2 m3 m4 m5 m6)
  have E : mEv 10 m_L_law (some (L, xs)) (16, mT T_L_law 16, [some (.ref 1000000), some (.ref 0), some (.ref 68), none], [], memL r mm) (some (.int (nI 1))) μ' := by
    refine mEv.stp 2 (S' := (18, [], [some (.ref 1000000), some (.ref 0), some (.ref 68), some (.int (nI 0))], [], memL r mm)) rfl ?_
    exact E0
  refine E p l e room_1 s m #[Value.ref b] below meth c D (sLw b σ1 σ2) tA (fun q : Nat => s.heap.size ≤ q) s.heap _ _ _ ⟨hx, hb, hml, hown, fun w hw => hts w (mTt_sub hw), hK, hA, Nat.le_of_ble_eq_true rfl, Nat.le_of_ble_eq_true rfl, ok_L_law, fun L' xs' h => ?_⟩ (Nat.le_of_ble_eq_true rfl) (Nat.le_of_ble_eq_true rfl) (fun pc H locs ls1 hret hP hD hS => ?_) (ok_L_law.at 16) H2 locs2 ls hP hD hS ⟨?_, rfl⟩
  · cases h
    exact ⟨hX, hbl, hbA⟩
  · refine va_forget (fun q hq => hS.2.2 q hq) ?_
    refine W.widen (k := 600000) (n := 7302250) (Nat.le_of_ble_eq_true rfl) (Nat.le_of_ble_eq_true rfl) ?_
    exact lw_ret hx hb hr hlocks hret.1
  · exact lv_sub hl [2, 1, 0] rfl
