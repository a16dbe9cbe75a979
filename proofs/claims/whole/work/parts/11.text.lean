def F_X1_append (p1 : Int32) (s : TextS) : Option (Int32 × TextS) := if (gT_ln s) < (nI 120) then (gI (gT_ln s) 120 (some (((nI 1), (mkT ((gT_ln s) + (nI 1)) (gT_oc s) (gT_tn s) (gT_pl s) (gT_ft s) (upd (gT_by s) (Int32.toNatClampNeg (gT_ln s)) p1) (gT_od s)))))) else (some (((nI 0), s)))
set_option maxRecDepth 100000 in
theorem E_X1_append {d : Nat} {p1 : Int32} {s : TextS} {q : Int32 × TextS} (h : F_X1_append p1 s = some q) : mEv d m_X1_append none (0, [], [some (.ref 0), some (.int p1)], [], memT s) (some (Value.int q.1)) (memT q.2) := by
  unfold F_X1_append at h
  refine mEv.br 5 (S1 := (11, [], [some (.ref 0), some (.int p1)], [], memT s)) (S2 := (9, _, [some (.ref 0), some (.int p1)], [], memT s)) rfl (fun c1 => ?_) (fun c1 => ?_)
  · have h := (if_pos c1).symm.trans h
    obtain ⟨g2, h⟩ := gI_some h
    refine mEv.gd 7 (S' := (21, _, [some (.ref 0), some (.int p1)], [], memTx (gT_ln s) (gT_oc s) (gT_tn s) (gT_pl s) (gT_ft s) (upd (gT_by s) (Int32.toNatClampNeg (gT_ln s)) p1) (gT_od s))) rfl g2 ?_
    obtain rfl := Option.some.inj h
    exact mEv.tgt memT_mk (mEv.stp 7 (S' := (32, _, [some (.ref 0), some (.int p1)], [.int (nI 1)], memTx ((gT_ln s) + (nI 1)) (gT_oc s) (gT_tn s) (gT_pl s) (gT_ft s) (upd (gT_by s) (Int32.toNatClampNeg (gT_ln s)) p1) (gT_od s))) rfl (mEv.reti ⟨_, rfl, rfl⟩))
  · have h := (if_neg c1).symm.trans h
    obtain rfl := Option.some.inj h
    exact mEv.stp 1 (S' := (10, _, [some (.ref 0), some (.int p1)], [.int (nI 0)], memT s)) rfl (mEv.reti ⟨_, rfl, rfl⟩)
theorem A_X1_append {d : Nat} {p1 : Int32} {s : TextS} {q : Int32 × TextS} (h : F_X1_append p1 s = some q) : mCall d m_X1_append [.ref 0, .int p1] (memT s) (some (Value.int q.1)) (memT q.2) := mCall.intro ok_X1_append pl_X1_append rfl (E_X1_append (d := d) h)
def B_X1_skipBlanks_0  (s : TextS) : Option ((TextS) ⊕ (TextS)) := if (gT_ln s) ≤ (gT_pl s) then (some (.inr (s))) else (gI (gT_pl s) 120 (if ¬ ((gT_by s) (Int32.toNatClampNeg (gT_pl s))) = (nI 32) then (some (.inr (s))) else (some (.inl ((mkT (gT_ln s) (gT_oc s) (gT_tn s) ((gT_pl s) + (nI 1)) (gT_ft s) (gT_by s) (gT_od s)))))))
set_option maxRecDepth 100000 in
theorem H_X1_skipBlanks_0 {d : Nat}  {s : TextS} {q : (TextS) ⊕ (TextS)} {r0 : Option Value} {mu0 : MMe} (h : B_X1_skipBlanks_0 s = some q) (hk : Sum.elim (fun x : TextS => mEv d m_X1_skipBlanks none (0, [], [some (.ref 0)], [], memT x) r0 mu0) (fun z : TextS => mEv d m_X1_skipBlanks none (38, [], [none], [], memT z) r0 mu0) q) : mEv d m_X1_skipBlanks none (0, [], [some (.ref 0)], [], memT s) r0 mu0 := by
  unfold B_X1_skipBlanks_0 at h
  refine mEv.br 6 (S1 := (38, [], [some (.ref 0)], [], memT s)) (S2 := (11, _, [some (.ref 0)], [], memT s)) rfl (fun c1 => ?_) (fun c1 => ?_)
  · have h := (if_pos c1).symm.trans h
    refine mEv.fg [0] (z' := [none]) rfl ?_
    obtain rfl := Option.some.inj h
    exact hk
  · have h := (if_neg c1).symm.trans h
    obtain ⟨g2, h⟩ := gI_some h
    refine mEv.gd 5 (S' := (20, _, [some (.ref 0)], [.int ((gT_by s) (Int32.toNatClampNeg (gT_pl s)))], memT s)) rfl g2 ?_
    refine mEv.br 2 (S1 := (38, [], [some (.ref 0)], [], memT s)) (S2 := (25, _, [some (.ref 0)], [], memT s)) rfl (fun c3 => ?_) (fun c3 => ?_)
    · have h := (if_pos c3).symm.trans h
      refine mEv.fg [0] (z' := [none]) rfl ?_
      obtain rfl := Option.some.inj h
      exact hk
    · have h := (if_neg c3).symm.trans h
      refine mEv.stp 7 (S' := (0, [], [some (.ref 0)], [], memTx (gT_ln s) (gT_oc s) (gT_tn s) ((gT_pl s) + (nI 1)) (gT_ft s) (gT_by s) (gT_od s))) rfl ?_
      refine mEv.mem memT_mk ?_
      obtain rfl := Option.some.inj h
      exact hk
def F_X1_skipBlanks  (s : TextS) : Option (TextS) := (mWh (fun x => B_X1_skipBlanks_0 x) fuel0 (s)).bind (fun z4 => some (z4))
set_option maxRecDepth 100000 in
theorem E_X1_skipBlanks {d : Nat}  {s : TextS} {q : TextS} (h : F_X1_skipBlanks s = some q) : mEv d m_X1_skipBlanks none (0, [], [some (.ref 0)], [], memT s) none (memT q) := by
  unfold F_X1_skipBlanks at h
  obtain ⟨z4, e5, h⟩ := bnd h
  refine mWh_ind (b := (fun x => B_X1_skipBlanks_0 x)) (P := fun x : TextS => mEv d m_X1_skipBlanks none (0, [], [some (.ref 0)], [], memT x) none (memT q)) (K := fun z : TextS => mEv d m_X1_skipBlanks none (38, [], [none], [], memT z) none (memT q)) (fun x u hq hk => H_X1_skipBlanks_0 (d := d) (s := x) (q := u) (r0 := none) (mu0 := (memT q)) hq hk) fuel0 (s) z4 e5 ?_
  refine mEv.stp 0 (S' := (38, [], [none], [], memT z4)) rfl ?_
  obtain rfl := Option.some.inj h
  exact mEv.stp 1 (S' := (38, _, [none], [], memT z4)) rfl (mEv.retv rfl)
theorem A_X1_skipBlanks {d : Nat}  {s : TextS} {q : TextS} (h : F_X1_skipBlanks s = some q) : mCall d m_X1_skipBlanks [.ref 0] (memT s) none (memT q) := mCall.intro ok_X1_skipBlanks pl_X1_skipBlanks rfl (E_X1_skipBlanks (d := d) h)
def F_X1_isFigure (p0 : Int32)  : Option (Int32) := if p0 < (nI 48) then (some ((nI 0))) else (if (nI 57) < p0 then (some ((nI 0))) else (some ((nI 1))))
set_option maxRecDepth 100000 in
theorem E_X1_isFigure {d : Nat} {p0 : Int32} {μ : MMe} {q : Int32} (h : F_X1_isFigure p0 = some q) : mEv d m_X1_isFigure none (0, [], [some (.int p0)], [], μ) (some (Value.int q)) (μ) := by
  unfold F_X1_isFigure at h
  refine mEv.br 4 (S1 := (16, [], [some (.int p0)], [], μ)) (S2 := (6, _, [some (.int p0)], [], μ)) rfl (fun c1 => ?_) (fun c1 => ?_)
  · have h := (if_pos c1).symm.trans h
    obtain rfl := Option.some.inj h
    exact mEv.stp 3 (S' := (17, _, [some (.int p0)], [.int (nI 0)], μ)) rfl (mEv.reti ⟨_, rfl, rfl⟩)
  · have h := (if_neg c1).symm.trans h
    refine mEv.br 3 (S1 := (16, [], [some (.int p0)], [], μ)) (S2 := (12, _, [some (.int p0)], [], μ)) rfl (fun c2 => ?_) (fun c2 => ?_)
    · have h := (if_pos c2).symm.trans h
      obtain rfl := Option.some.inj h
      exact mEv.stp 3 (S' := (17, _, [some (.int p0)], [.int (nI 0)], μ)) rfl (mEv.reti ⟨_, rfl, rfl⟩)
    · have h := (if_neg c2).symm.trans h
      obtain rfl := Option.some.inj h
      exact mEv.stp 3 (S' := (17, _, [some (.int p0)], [.int (nI 1)], μ)) rfl (mEv.reti ⟨_, rfl, rfl⟩)
theorem A_X1_isFigure {d : Nat} {p0 : Int32} {μ : MMe} {q : Int32} (h : F_X1_isFigure p0 = some q) : mCall d m_X1_isFigure [.int p0] (μ) (some (Value.int q)) (μ) := mCall.intro ok_X1_isFigure pl_X1_isFigure rfl (E_X1_isFigure (d := d) h)
def F_X1_readKind  (s : TextS) : Option (Int32 × TextS) := gI (gT_pl s) 120 ((F_X1_isFigure ((gT_by s) (Int32.toNatClampNeg (gT_pl s)))).bind (fun v2 => if v2 = (nI 0) then (some ((((gT_by s) (Int32.toNatClampNeg (gT_pl s))), (mkT (gT_ln s) (gT_oc s) (gT_tn s) ((gT_pl s) + (nI 1)) (gT_ft s) (gT_by s) (gT_od s))))) else (some (((nI 48), s)))))
set_option maxRecDepth 100000 in
theorem E_X1_readKind {d : Nat}  {s : TextS} {q : Int32 × TextS} (h : F_X1_readKind s = some q) : mEv (d + 1) m_X1_readKind none (0, [], [some (.ref 0), none], [], memT s) (some (Value.int q.1)) (memT q.2) := by
  unfold F_X1_readKind at h
  obtain ⟨g1, h⟩ := gI_some h
  refine mEv.gd 6 (S' := (9, _, [some (.ref 0), none], [.int ((gT_by s) (Int32.toNatClampNeg (gT_pl s)))], memT s)) rfl g1 ?_
  refine mEv.stp 2 (S' := (11, _, [some (.ref 0), some (.int ((gT_by s) (Int32.toNatClampNeg (gT_pl s))))], [.int ((gT_by s) (Int32.toNatClampNeg (gT_pl s)))], memT s)) rfl ?_
  obtain ⟨v2, e3, h⟩ := bnd h
  refine mEv.callS (As := [.int ((gT_by s) (Int32.toNatClampNeg (gT_pl s)))]) (st := []) (r := (some (.int v2))) (μ1 := memT s) lk_X1_61 rfl rfl rfl (A_X1_isFigure (d := d + 0) e3) ?_
  refine mEv.stp 0 (S' := (14, _, [some (.ref 0), some (.int ((gT_by s) (Int32.toNatClampNeg (gT_pl s))))], [.int v2], memT s)) rfl ?_
  refine mEv.br 1 (S1 := (20, [], [some (.ref 0), some (.int ((gT_by s) (Int32.toNatClampNeg (gT_pl s))))], [], memT s)) (S2 := (17, _, [some (.ref 0), some (.int ((gT_by s) (Int32.toNatClampNeg (gT_pl s))))], [], memT s)) rfl (fun c4 => ?_) (fun c4 => ?_)
  · have h := (if_pos c4).symm.trans h
    obtain rfl := Option.some.inj h
    exact mEv.tgt memT_mk (mEv.stp 8 (S' := (31, _, [some (.ref 0), some (.int ((gT_by s) (Int32.toNatClampNeg (gT_pl s))))], [.int ((gT_by s) (Int32.toNatClampNeg (gT_pl s)))], memTx (gT_ln s) (gT_oc s) (gT_tn s) ((gT_pl s) + (nI 1)) (gT_ft s) (gT_by s) (gT_od s))) rfl (mEv.reti ⟨_, rfl, rfl⟩))
  · have h := (if_neg c4).symm.trans h
    obtain rfl := Option.some.inj h
    exact mEv.stp 1 (S' := (19, _, [some (.ref 0), some (.int ((gT_by s) (Int32.toNatClampNeg (gT_pl s))))], [.int (nI 48)], memT s)) rfl (mEv.reti ⟨_, rfl, rfl⟩)
theorem A_X1_readKind {d : Nat}  {s : TextS} {q : Int32 × TextS} (h : F_X1_readKind s = some q) : mCall (d + 1) m_X1_readKind [.ref 0] (memT s) (some (Value.int q.1)) (memT q.2) := mCall.intro ok_X1_readKind pl_X1_readKind rfl (E_X1_readKind (d := d) h)
def J_X1_readFigure_41 (x1 : Int32) (y0 : Int32) (s : TextS) : Option (Int32 × TextS) := if y0 < (nI 0) then (some (((nI 0), (mkT (gT_ln s) (gT_oc s) (gT_tn s) (gT_pl s) (gT_pl s) (gT_by s) (gT_od s))))) else (if y0 ≤ x1 then (some ((y0, (mkT (gT_ln s) (gT_oc s) (gT_tn s) ((gT_pl s) + (nI 1)) (gT_ft s) (gT_by s) (gT_od s))))) else (some (((nI 0), (mkT (gT_ln s) (gT_oc s) (gT_tn s) (gT_pl s) (gT_pl s) (gT_by s) (gT_od s))))))
set_option maxRecDepth 100000 in
theorem K_X1_readFigure_41 {d : Nat} {x1 : Int32} {y0 : Int32} {s : TextS} {q : Int32 × TextS} (h : J_X1_readFigure_41 x1 y0 s = some q) : mEv (d + 1) m_X1_readFigure none (41, [], [some (.ref 0), some (.int x1), none], [.int y0], memT s) (some (Value.int q.1)) (memT q.2) := by
  unfold J_X1_readFigure_41 at h
  refine mEv.br 4 (S1 := (51, [], [some (.ref 0), some (.int x1), some (.int y0)], [], memT s)) (S2 := (46, _, [some (.ref 0), some (.int x1), some (.int y0)], [], memT s)) rfl (fun c5 => ?_) (fun c5 => ?_)
  · have h := (if_pos c5).symm.trans h
    obtain rfl := Option.some.inj h
    exact mEv.tgt memT_mk (mEv.stp 6 (S' := (60, _, [some (.ref 0), some (.int x1), some (.int y0)], [.int (nI 0)], memTx (gT_ln s) (gT_oc s) (gT_tn s) (gT_pl s) (gT_pl s) (gT_by s) (gT_od s))) rfl (mEv.reti ⟨_, rfl, rfl⟩))
  · have h := (if_neg c5).symm.trans h
    refine mEv.br 3 (S1 := (61, [], [some (.ref 0), some (.int x1), some (.int y0)], [], memT s)) (S2 := (51, [], [some (.ref 0), some (.int x1), some (.int y0)], [], memT s)) rfl (fun c6 => ?_) (fun c6 => ?_)
    · have h := (if_pos c6).symm.trans h
      obtain rfl := Option.some.inj h
      exact mEv.tgt memT_mk (mEv.stp 8 (S' := (72, _, [some (.ref 0), some (.int x1), some (.int y0)], [.int y0], memTx (gT_ln s) (gT_oc s) (gT_tn s) ((gT_pl s) + (nI 1)) (gT_ft s) (gT_by s) (gT_od s))) rfl (mEv.reti ⟨_, rfl, rfl⟩))
    · have h := (if_neg c6).symm.trans h
      obtain rfl := Option.some.inj h
      exact mEv.tgt memT_mk (mEv.stp 6 (S' := (60, _, [some (.ref 0), some (.int x1), some (.int y0)], [.int (nI 0)], memTx (gT_ln s) (gT_oc s) (gT_tn s) (gT_pl s) (gT_pl s) (gT_by s) (gT_od s))) rfl (mEv.reti ⟨_, rfl, rfl⟩))
def F_X1_readFigure (p1 : Int32) (s : TextS) : Option (Int32 × TextS) := if (gT_ft s) = (-nI 1) then ((F_X1_skipBlanks s).bind (fun v2 => if (gT_ln v2) ≤ (gT_pl v2) then (J_X1_readFigure_41 p1 (-nI 1) v2) else (gI (gT_pl v2) 120 (J_X1_readFigure_41 p1 (((gT_by v2) (Int32.toNatClampNeg (gT_pl v2))) - (nI 48)) v2)))) else (some (((nI 0), s)))
set_option maxRecDepth 100000 in
theorem E_X1_readFigure {d : Nat} {p1 : Int32} {s : TextS} {q : Int32 × TextS} (h : F_X1_readFigure p1 s = some q) : mEv (d + 1) m_X1_readFigure none (0, [], [some (.ref 0), some (.int p1), none], [], memT s) (some (Value.int q.1)) (memT q.2) := by
  unfold F_X1_readFigure at h
  refine mEv.br 5 (S1 := (10, [], [some (.ref 0), some (.int p1), none], [], memT s)) (S2 := (8, _, [some (.ref 0), some (.int p1), none], [], memT s)) rfl (fun c1 => ?_) (fun c1 => ?_)
  · have h := (if_pos c1).symm.trans h
    refine mEv.stp 2 (S' := (11, _, [some (.ref 0), some (.int p1), none], [.ref 0], memT s)) rfl ?_
    obtain ⟨v2, e3, h⟩ := bnd h
    refine mEv.callV (As := []) (st := []) (h := 0) (r := none) (μ1 := memT v2) lk_X1_34 rfl rfl rfl rfl rfl (A_X1_skipBlanks (d := d + 0) e3) ?_
    refine mEv.stp 0 (S' := (14, _, [some (.ref 0), some (.int p1), none], [], memT v2)) rfl ?_
    refine mEv.br 5 (S1 := (40, [], [some (.ref 0), some (.int p1), none], [], memT v2)) (S2 := (25, _, [some (.ref 0), some (.int p1), none], [], memT v2)) rfl (fun c4 => ?_) (fun c4 => ?_)
    · have h := (if_pos c4).symm.trans h
      refine mEv.stp 2 (S' := (41, [], [some (.ref 0), some (.int p1), none], [.int (-nI 1)], memT v2)) rfl ?_
      exact K_X1_readFigure_41 (d := d) h
    · have h := (if_neg c4).symm.trans h
      obtain ⟨g7, h⟩ := gI_some h
      refine mEv.gd 5 (S' := (34, _, [some (.ref 0), some (.int p1), none], [.int ((gT_by v2) (Int32.toNatClampNeg (gT_pl v2)))], memT v2)) rfl g7 ?_
      refine mEv.stp 3 (S' := (41, [], [some (.ref 0), some (.int p1), none], [.int (((gT_by v2) (Int32.toNatClampNeg (gT_pl v2))) - (nI 48))], memT v2)) rfl ?_
      exact K_X1_readFigure_41 (d := d) h
  · have h := (if_neg c1).symm.trans h
    obtain rfl := Option.some.inj h
    exact mEv.stp 1 (S' := (9, _, [some (.ref 0), some (.int p1), none], [.int (nI 0)], memT s)) rfl (mEv.reti ⟨_, rfl, rfl⟩)
theorem A_X1_readFigure {d : Nat} {p1 : Int32} {s : TextS} {q : Int32 × TextS} (h : F_X1_readFigure p1 s = some q) : mCall (d + 1) m_X1_readFigure [.ref 0, .int p1] (memT s) (some (Value.int q.1)) (memT q.2) := mCall.intro ok_X1_readFigure pl_X1_readFigure rfl (E_X1_readFigure (d := d) h)
def F_X1_readTown (p1 : Int32) (s : TextS) : Option (Int32 × TextS) := (F_X1_readFigure ((gT_tn s) - (nI 1)) s).bind (fun v1 => if ¬ (gT_ft v1.2) = (-nI 1) then (some ((v1.1, v1.2))) else (if ¬ v1.1 = p1 then (some ((v1.1, v1.2))) else (some ((v1.1, (mkT (gT_ln v1.2) (gT_oc v1.2) (gT_tn v1.2) (gT_pl v1.2) ((gT_pl v1.2) - (nI 1)) (gT_by v1.2) (gT_od v1.2)))))))
set_option maxRecDepth 100000 in
theorem E_X1_readTown {d : Nat} {p1 : Int32} {s : TextS} {q : Int32 × TextS} (h : F_X1_readTown p1 s = some q) : mEv (d + 2) m_X1_readTown none (0, [], [some (.ref 0), some (.int p1), none], [], memT s) (some (Value.int q.1)) (memT q.2) := by
  unfold F_X1_readTown at h
  refine mEv.stp 6 (S' := (7, _, [some (.ref 0), some (.int p1), none], [.int ((gT_tn s) - (nI 1)), .ref 0], memT s)) rfl ?_
  obtain ⟨v1, e2, h⟩ := bnd h
  refine mEv.callV (As := [.int ((gT_tn s) - (nI 1))]) (st := []) (h := 0) (r := (some (.int v1.1))) (μ1 := memT v1.2) lk_X1_55 rfl rfl rfl rfl rfl (A_X1_readFigure (d := d + 0) e2) ?_
  refine mEv.stp 0 (S' := (10, _, [some (.ref 0), some (.int p1), none], [.int v1.1], memT v1.2)) rfl ?_
  refine mEv.br 5 (S1 := (34, [], [some (.ref 0), some (.int p1), some (.int v1.1)], [], memT v1.2)) (S2 := (19, _, [some (.ref 0), some (.int p1), some (.int v1.1)], [], memT v1.2)) rfl (fun c3 => ?_) (fun c3 => ?_)
  · have h := (if_pos c3).symm.trans h
    obtain rfl := Option.some.inj h
    exact mEv.stp 2 (S' := (35, _, [some (.ref 0), some (.int p1), some (.int v1.1)], [.int v1.1], memT v1.2)) rfl (mEv.reti ⟨_, rfl, rfl⟩)
  · have h := (if_neg c3).symm.trans h
    refine mEv.br 3 (S1 := (34, [], [some (.ref 0), some (.int p1), some (.int v1.1)], [], memT v1.2)) (S2 := (24, _, [some (.ref 0), some (.int p1), some (.int v1.1)], [], memT v1.2)) rfl (fun c4 => ?_) (fun c4 => ?_)
    · have h := (if_pos c4).symm.trans h
      obtain rfl := Option.some.inj h
      exact mEv.stp 2 (S' := (35, _, [some (.ref 0), some (.int p1), some (.int v1.1)], [.int v1.1], memT v1.2)) rfl (mEv.reti ⟨_, rfl, rfl⟩)
    · have h := (if_neg c4).symm.trans h
      obtain rfl := Option.some.inj h
      exact mEv.tgt memT_mk (mEv.stp 8 (S' := (35, _, [some (.ref 0), some (.int p1), some (.int v1.1)], [.int v1.1], memTx (gT_ln v1.2) (gT_oc v1.2) (gT_tn v1.2) (gT_pl v1.2) ((gT_pl v1.2) - (nI 1)) (gT_by v1.2) (gT_od v1.2))) rfl (mEv.reti ⟨_, rfl, rfl⟩))
theorem A_X1_readTown {d : Nat} {p1 : Int32} {s : TextS} {q : Int32 × TextS} (h : F_X1_readTown p1 s = some q) : mCall (d + 2) m_X1_readTown [.ref 0, .int p1] (memT s) (some (Value.int q.1)) (memT q.2) := mCall.intro ok_X1_readTown pl_X1_readTown rfl (E_X1_readTown (d := d) h)
def B_X1_readNumber_22 (x1 : Int32) (x2 : Int32) (x3 : Int32) (x4 : Int32) (s : TextS) : Option ((Int32 × TextS) ⊕ (Int32 × TextS)) := if (gT_ln s) ≤ (gT_pl s) then (some (.inr (x4, s))) else (gI (gT_pl s) 120 ((F_X1_isFigure ((gT_by s) (Int32.toNatClampNeg (gT_pl s)))).bind (fun v6 => if v6 = (nI 0) then (some (.inr (x4, s))) else (gI (gT_pl s) 120 (some (.inl ((((x4 * (nI 10)) + ((gT_by s) (Int32.toNatClampNeg (gT_pl s)))) - (nI 48)), (mkT (gT_ln s) (gT_oc s) (gT_tn s) ((gT_pl s) + (nI 1)) (gT_ft s) (gT_by s) (gT_od s)))))))))
set_option maxRecDepth 100000 in
theorem H_X1_readNumber_22 {d : Nat} {x1 : Int32} {x2 : Int32} {x3 : Int32} {x4 : Int32} {s : TextS} {q : (Int32 × TextS) ⊕ (Int32 × TextS)} {r0 : Option Value} {mu0 : MMe} (h : B_X1_readNumber_22 x1 x2 x3 x4 s = some q) (hk : Sum.elim (fun x : Int32 × TextS => mEv (d + 1) m_X1_readNumber none (22, [], [some (.ref 0), some (.int x1), some (.int x2), some (.int x3), some (.int x.1), none], [], memT x.2) r0 mu0) (fun z : Int32 × TextS => mEv (d + 1) m_X1_readNumber none (81, [], [some (.ref 0), some (.int x1), some (.int x2), some (.int x3), some (.int z.1), none], [], memT z.2) r0 mu0) q) : mEv (d + 1) m_X1_readNumber none (22, [], [some (.ref 0), some (.int x1), some (.int x2), some (.int x3), some (.int x4), none], [], memT s) r0 mu0 := by
  unfold B_X1_readNumber_22 at h
  refine mEv.br 6 (S1 := (81, [], [some (.ref 0), some (.int x1), some (.int x2), some (.int x3), some (.int x4), none], [], memT s)) (S2 := (33, _, [some (.ref 0), some (.int x1), some (.int x2), some (.int x3), some (.int x4), none], [], memT s)) rfl (fun c4 => ?_) (fun c4 => ?_)
  · have h := (if_pos c4).symm.trans h
    obtain rfl := Option.some.inj h
    exact hk
  · have h := (if_neg c4).symm.trans h
    obtain ⟨g5, h⟩ := gI_some h
    refine mEv.gd 5 (S' := (42, _, [some (.ref 0), some (.int x1), some (.int x2), some (.int x3), some (.int x4), none], [.int ((gT_by s) (Int32.toNatClampNeg (gT_pl s)))], memT s)) rfl g5 ?_
    obtain ⟨v6, e7, h⟩ := bnd h
    refine mEv.callS (As := [.int ((gT_by s) (Int32.toNatClampNeg (gT_pl s)))]) (st := []) (r := (some (.int v6))) (μ1 := memT s) lk_X1_61 rfl rfl rfl (A_X1_isFigure (d := d + 0) e7) ?_
    refine mEv.stp 0 (S' := (45, _, [some (.ref 0), some (.int x1), some (.int x2), some (.int x3), some (.int x4), none], [.int v6], memT s)) rfl ?_
    refine mEv.br 1 (S1 := (81, [], [some (.ref 0), some (.int x1), some (.int x2), some (.int x3), some (.int x4), none], [], memT s)) (S2 := (48, _, [some (.ref 0), some (.int x1), some (.int x2), some (.int x3), some (.int x4), none], [], memT s)) rfl (fun c8 => ?_) (fun c8 => ?_)
    · have h := (if_pos c8).symm.trans h
      obtain rfl := Option.some.inj h
      exact hk
    · have h := (if_neg c8).symm.trans h
      obtain ⟨g9, h⟩ := gI_some h
      refine mEv.gd 8 (S' := (62, _, [some (.ref 0), some (.int x1), some (.int x2), some (.int x3), some (.int x4), none], [.int ((gT_by s) (Int32.toNatClampNeg (gT_pl s))), .int (x4 * (nI 10))], memT s)) rfl g9 ?_
      refine mEv.stp 11 (S' := (22, [], [some (.ref 0), some (.int x1), some (.int x2), some (.int x3), some (.int (((x4 * (nI 10)) + ((gT_by s) (Int32.toNatClampNeg (gT_pl s)))) - (nI 48))), none], [], memTx (gT_ln s) (gT_oc s) (gT_tn s) ((gT_pl s) + (nI 1)) (gT_ft s) (gT_by s) (gT_od s))) rfl ?_
      refine mEv.mem memT_mk ?_
      obtain rfl := Option.some.inj h
      exact hk
def F_X1_readNumber (p1 : Int32) (p2 : Int32) (s : TextS) : Option (Int32 × TextS) := if (gT_ft s) = (-nI 1) then ((F_X1_skipBlanks s).bind (fun v2 => (mWh (fun x => B_X1_readNumber_22 p1 p2 (gT_pl v2) x.1 x.2) fuel0 ((nI 0), v2)).bind (fun z10 => if ((gT_pl z10.2) - (gT_pl v2)) < (nI 1) then (some ((z10.1, (mkT (gT_ln z10.2) (gT_oc z10.2) (gT_tn z10.2) (gT_pl z10.2) (gT_pl v2) (gT_by z10.2) (gT_od z10.2))))) else (if (nI 2) < ((gT_pl z10.2) - (gT_pl v2)) then (some ((z10.1, (mkT (gT_ln z10.2) (gT_oc z10.2) (gT_tn z10.2) (gT_pl z10.2) (gT_pl v2) (gT_by z10.2) (gT_od z10.2))))) else (if z10.1 < p1 then (some ((z10.1, (mkT (gT_ln z10.2) (gT_oc z10.2) (gT_tn z10.2) (gT_pl z10.2) (gT_pl v2) (gT_by z10.2) (gT_od z10.2))))) else (if z10.1 ≤ p2 then (some ((z10.1, z10.2))) else (some ((z10.1, (mkT (gT_ln z10.2) (gT_oc z10.2) (gT_tn z10.2) (gT_pl z10.2) (gT_pl v2) (gT_by z10.2) (gT_od z10.2))))))))))) else (some (((nI 0), s)))
set_option maxRecDepth 100000 in
theorem E_X1_readNumber {d : Nat} {p1 : Int32} {p2 : Int32} {s : TextS} {q : Int32 × TextS} (h : F_X1_readNumber p1 p2 s = some q) : mEv (d + 1) m_X1_readNumber none (0, [], [some (.ref 0), some (.int p1), some (.int p2), none, none, none], [], memT s) (some (Value.int q.1)) (memT q.2) := by
  unfold F_X1_readNumber at h
  refine mEv.br 5 (S1 := (10, [], [some (.ref 0), some (.int p1), some (.int p2), none, none, none], [], memT s)) (S2 := (8, _, [some (.ref 0), some (.int p1), some (.int p2), none, none, none], [], memT s)) rfl (fun c1 => ?_) (fun c1 => ?_)
  · have h := (if_pos c1).symm.trans h
    refine mEv.stp 2 (S' := (11, _, [some (.ref 0), some (.int p1), some (.int p2), none, none, none], [.ref 0], memT s)) rfl ?_
    obtain ⟨v2, e3, h⟩ := bnd h
    refine mEv.callV (As := []) (st := []) (h := 0) (r := none) (μ1 := memT v2) lk_X1_34 rfl rfl rfl rfl rfl (A_X1_skipBlanks (d := d + 0) e3) ?_
    refine mEv.stp 0 (S' := (14, _, [some (.ref 0), some (.int p1), some (.int p2), none, none, none], [], memT v2)) rfl ?_
    refine mEv.stp 5 (S' := (22, [], [some (.ref 0), some (.int p1), some (.int p2), some (.int (gT_pl v2)), some (.int (nI 0)), none], [], memT v2)) rfl ?_
    obtain ⟨z10, e11, h⟩ := bnd h
    refine mWh_ind (b := (fun x => B_X1_readNumber_22 p1 p2 (gT_pl v2) x.1 x.2)) (P := fun x : Int32 × TextS => mEv (d + 1) m_X1_readNumber none (22, [], [some (.ref 0), some (.int p1), some (.int p2), some (.int (gT_pl v2)), some (.int x.1), none], [], memT x.2) (some (Value.int q.1)) (memT q.2)) (K := fun z : Int32 × TextS => mEv (d + 1) m_X1_readNumber none (81, [], [some (.ref 0), some (.int p1), some (.int p2), some (.int (gT_pl v2)), some (.int z.1), none], [], memT z.2) (some (Value.int q.1)) (memT q.2)) (fun x u hq hk => H_X1_readNumber_22 (d := d) (x1 := p1) (x2 := p2) (x3 := (gT_pl v2)) (x4 := x.1) (s := x.2) (q := u) (r0 := (some (Value.int q.1))) (mu0 := (memT q.2)) hq hk) fuel0 ((nI 0), v2) z10 e11 ?_
    refine mEv.stp 0 (S' := (81, [], [some (.ref 0), some (.int p1), some (.int p2), some (.int (gT_pl v2)), some (.int z10.1), none], [], memT z10.2)) rfl ?_
    refine mEv.br 9 (S1 := (113, [], [some (.ref 0), some (.int p1), some (.int p2), some (.int (gT_pl v2)), some (.int z10.1), some (.int ((gT_pl z10.2) - (gT_pl v2)))], [], memT z10.2)) (S2 := (95, _, [some (.ref 0), some (.int p1), some (.int p2), some (.int (gT_pl v2)), some (.int z10.1), some (.int ((gT_pl z10.2) - (gT_pl v2)))], [], memT z10.2)) rfl (fun c12 => ?_) (fun c12 => ?_)
    · have h := (if_pos c12).symm.trans h
      obtain rfl := Option.some.inj h
      exact mEv.tgt memT_mk (mEv.stp 6 (S' := (120, _, [some (.ref 0), some (.int p1), some (.int p2), some (.int (gT_pl v2)), some (.int z10.1), some (.int ((gT_pl z10.2) - (gT_pl v2)))], [.int z10.1], memTx (gT_ln z10.2) (gT_oc z10.2) (gT_tn z10.2) (gT_pl z10.2) (gT_pl v2) (gT_by z10.2) (gT_od z10.2))) rfl (mEv.reti ⟨_, rfl, rfl⟩))
    · have h := (if_neg c12).symm.trans h
      refine mEv.br 3 (S1 := (113, [], [some (.ref 0), some (.int p1), some (.int p2), some (.int (gT_pl v2)), some (.int z10.1), some (.int ((gT_pl z10.2) - (gT_pl v2)))], [], memT z10.2)) (S2 := (101, _, [some (.ref 0), some (.int p1), some (.int p2), some (.int (gT_pl v2)), some (.int z10.1), some (.int ((gT_pl z10.2) - (gT_pl v2)))], [], memT z10.2)) rfl (fun c13 => ?_) (fun c13 => ?_)
      · have h := (if_pos c13).symm.trans h
        obtain rfl := Option.some.inj h
        exact mEv.tgt memT_mk (mEv.stp 6 (S' := (120, _, [some (.ref 0), some (.int p1), some (.int p2), some (.int (gT_pl v2)), some (.int z10.1), some (.int ((gT_pl z10.2) - (gT_pl v2)))], [.int z10.1], memTx (gT_ln z10.2) (gT_oc z10.2) (gT_tn z10.2) (gT_pl z10.2) (gT_pl v2) (gT_by z10.2) (gT_od z10.2))) rfl (mEv.reti ⟨_, rfl, rfl⟩))
      · have h := (if_neg c13).symm.trans h
        refine mEv.br 3 (S1 := (113, [], [some (.ref 0), some (.int p1), some (.int p2), some (.int (gT_pl v2)), some (.int z10.1), some (.int ((gT_pl z10.2) - (gT_pl v2)))], [], memT z10.2)) (S2 := (107, _, [some (.ref 0), some (.int p1), some (.int p2), some (.int (gT_pl v2)), some (.int z10.1), some (.int ((gT_pl z10.2) - (gT_pl v2)))], [], memT z10.2)) rfl (fun c14 => ?_) (fun c14 => ?_)
        · have h := (if_pos c14).symm.trans h
          obtain rfl := Option.some.inj h
          exact mEv.tgt memT_mk (mEv.stp 6 (S' := (120, _, [some (.ref 0), some (.int p1), some (.int p2), some (.int (gT_pl v2)), some (.int z10.1), some (.int ((gT_pl z10.2) - (gT_pl v2)))], [.int z10.1], memTx (gT_ln z10.2) (gT_oc z10.2) (gT_tn z10.2) (gT_pl z10.2) (gT_pl v2) (gT_by z10.2) (gT_od z10.2))) rfl (mEv.reti ⟨_, rfl, rfl⟩))
        · have h := (if_neg c14).symm.trans h
          refine mEv.br 3 (S1 := (118, [], [some (.ref 0), some (.int p1), some (.int p2), some (.int (gT_pl v2)), some (.int z10.1), some (.int ((gT_pl z10.2) - (gT_pl v2)))], [], memT z10.2)) (S2 := (113, [], [some (.ref 0), some (.int p1), some (.int p2), some (.int (gT_pl v2)), some (.int z10.1), some (.int ((gT_pl z10.2) - (gT_pl v2)))], [], memT z10.2)) rfl (fun c15 => ?_) (fun c15 => ?_)
          · have h := (if_pos c15).symm.trans h
            obtain rfl := Option.some.inj h
            exact mEv.stp 2 (S' := (120, _, [some (.ref 0), some (.int p1), some (.int p2), some (.int (gT_pl v2)), some (.int z10.1), some (.int ((gT_pl z10.2) - (gT_pl v2)))], [.int z10.1], memT z10.2)) rfl (mEv.reti ⟨_, rfl, rfl⟩)
          · have h := (if_neg c15).symm.trans h
            obtain rfl := Option.some.inj h
            exact mEv.tgt memT_mk (mEv.stp 6 (S' := (120, _, [some (.ref 0), some (.int p1), some (.int p2), some (.int (gT_pl v2)), some (.int z10.1), some (.int ((gT_pl z10.2) - (gT_pl v2)))], [.int z10.1], memTx (gT_ln z10.2) (gT_oc z10.2) (gT_tn z10.2) (gT_pl z10.2) (gT_pl v2) (gT_by z10.2) (gT_od z10.2))) rfl (mEv.reti ⟨_, rfl, rfl⟩))
  · have h := (if_neg c1).symm.trans h
    obtain rfl := Option.some.inj h
    exact mEv.stp 1 (S' := (9, _, [some (.ref 0), some (.int p1), some (.int p2), none, none, none], [.int (nI 0)], memT s)) rfl (mEv.reti ⟨_, rfl, rfl⟩)
theorem A_X1_readNumber {d : Nat} {p1 : Int32} {p2 : Int32} {s : TextS} {q : Int32 × TextS} (h : F_X1_readNumber p1 p2 s = some q) : mCall (d + 1) m_X1_readNumber [.ref 0, .int p1, .int p2] (memT s) (some (Value.int q.1)) (memT q.2) := mCall.intro ok_X1_readNumber pl_X1_readNumber rfl (E_X1_readNumber (d := d) h)
def F_X1_readEnd  (s : TextS) : Option (TextS) := if (gT_ft s) = (-nI 1) then ((F_X1_skipBlanks s).bind (fun v2 => if (gT_ln v2) ≤ (gT_pl v2) then (some ((mkT (gT_ln v2) (gT_oc v2) (gT_tn v2) (gT_pl v2) (gT_pl v2) (gT_by v2) (gT_od v2)))) else (gI (gT_pl v2) 120 (if ¬ ((gT_by v2) (Int32.toNatClampNeg (gT_pl v2))) = (nI 59) then (some ((mkT (gT_ln v2) (gT_oc v2) (gT_tn v2) (gT_pl v2) (gT_pl v2) (gT_by v2) (gT_od v2)))) else (some ((mkT (gT_ln v2) (gT_oc v2) (gT_tn v2) ((gT_pl v2) + (nI 1)) (gT_ft v2) (gT_by v2) (gT_od v2)))))))) else (some (s))
set_option maxRecDepth 100000 in
theorem E_X1_readEnd {d : Nat}  {s : TextS} {q : TextS} (h : F_X1_readEnd s = some q) : mEv (d + 1) m_X1_readEnd none (0, [], [some (.ref 0)], [], memT s) none (memT q) := by
  unfold F_X1_readEnd at h
  refine mEv.br 5 (S1 := (9, [], [some (.ref 0)], [], memT s)) (S2 := (8, _, [some (.ref 0)], [], memT s)) rfl (fun c1 => ?_) (fun c1 => ?_)
  · have h := (if_pos c1).symm.trans h
    refine mEv.stp 2 (S' := (10, _, [some (.ref 0)], [.ref 0], memT s)) rfl ?_
    obtain ⟨v2, e3, h⟩ := bnd h
    refine mEv.callV (As := []) (st := []) (h := 0) (r := none) (μ1 := memT v2) lk_X1_34 rfl rfl rfl rfl rfl (A_X1_skipBlanks (d := d + 0) e3) ?_
    refine mEv.stp 0 (S' := (13, _, [some (.ref 0)], [], memT v2)) rfl ?_
    refine mEv.br 5 (S1 := (51, [], [some (.ref 0)], [], memT v2)) (S2 := (24, _, [some (.ref 0)], [], memT v2)) rfl (fun c4 => ?_) (fun c4 => ?_)
    · have h := (if_pos c4).symm.trans h
      obtain rfl := Option.some.inj h
      exact mEv.tgt memT_mk (mEv.stp 6 (S' := (59, _, [some (.ref 0)], [], memTx (gT_ln v2) (gT_oc v2) (gT_tn v2) (gT_pl v2) (gT_pl v2) (gT_by v2) (gT_od v2))) rfl (mEv.retv rfl))
    · have h := (if_neg c4).symm.trans h
      obtain ⟨g5, h⟩ := gI_some h
      refine mEv.gd 5 (S' := (33, _, [some (.ref 0)], [.int ((gT_by v2) (Int32.toNatClampNeg (gT_pl v2)))], memT v2)) rfl g5 ?_
      refine mEv.br 2 (S1 := (51, [], [some (.ref 0)], [], memT v2)) (S2 := (38, _, [some (.ref 0)], [], memT v2)) rfl (fun c6 => ?_) (fun c6 => ?_)
      · have h := (if_pos c6).symm.trans h
        obtain rfl := Option.some.inj h
        exact mEv.tgt memT_mk (mEv.stp 6 (S' := (59, _, [some (.ref 0)], [], memTx (gT_ln v2) (gT_oc v2) (gT_tn v2) (gT_pl v2) (gT_pl v2) (gT_by v2) (gT_od v2))) rfl (mEv.retv rfl))
      · have h := (if_neg c6).symm.trans h
        obtain rfl := Option.some.inj h
        exact mEv.tgt memT_mk (mEv.stp 8 (S' := (59, _, [some (.ref 0)], [], memTx (gT_ln v2) (gT_oc v2) (gT_tn v2) ((gT_pl v2) + (nI 1)) (gT_ft v2) (gT_by v2) (gT_od v2))) rfl (mEv.retv rfl))
  · have h := (if_neg c1).symm.trans h
    obtain rfl := Option.some.inj h
    exact mEv.retv rfl
theorem A_X1_readEnd {d : Nat}  {s : TextS} {q : TextS} (h : F_X1_readEnd s = some q) : mCall (d + 1) m_X1_readEnd [.ref 0] (memT s) none (memT q) := mCall.intro ok_X1_readEnd pl_X1_readEnd rfl (E_X1_readEnd (d := d) h)
def J_X1_readOrder_172 (x1 : Int32) (x2 : Int32) (x3 : Int32) (x4 : Int32) (x5 : Int32) (s : TextS) : Option (TextS) := (F_X1_readEnd s).bind (fun v6 => gI (x1 + (nI 0)) 160 (gI (x1 + (nI 1)) 160 (gI (x1 + (nI 2)) 160 (gI (x1 + (nI 3)) 160 (some ((mkT (gT_ln v6) (gT_oc v6) (gT_tn v6) (gT_pl v6) (gT_ft v6) (gT_by v6) (upd (upd (upd (upd (gT_od v6) (Int32.toNatClampNeg (x1 + (nI 0))) x5) (Int32.toNatClampNeg (x1 + (nI 1))) x2) (Int32.toNatClampNeg (x1 + (nI 2))) x3) (Int32.toNatClampNeg (x1 + (nI 3))) x4))))))))
set_option maxRecDepth 100000 in
theorem K_X1_readOrder_172 {d : Nat} {x1 : Int32} {x2 : Int32} {x3 : Int32} {x4 : Int32} {x5 : Int32} {s : TextS} {q : TextS} (h : J_X1_readOrder_172 x1 x2 x3 x4 x5 s = some q) : mEv (d + 3) m_X1_readOrder none (172, [], [some (.ref 0), some (.int x1), some (.int x2), some (.int x3), some (.int x4), some (.int x5)], [], memT s) none (memT q) := by
  unfold J_X1_readOrder_172 at h
  refine mEv.stp 2 (S' := (173, _, [some (.ref 0), some (.int x1), some (.int x2), some (.int x3), some (.int x4), some (.int x5)], [.ref 0], memT s)) rfl ?_
  obtain ⟨v6, e7, h⟩ := bnd h
  refine mEv.callV (As := []) (st := []) (h := 0) (r := none) (μ1 := memT v6) lk_X1_58 rfl rfl rfl rfl rfl (A_X1_readEnd (d := d + 1) e7) ?_
  refine mEv.stp 0 (S' := (176, _, [some (.ref 0), some (.int x1), some (.int x2), some (.int x3), some (.int x4), some (.int x5)], [], memT v6)) rfl ?_
  obtain ⟨g8, h⟩ := gI_some h
  refine mEv.gd 7 (S' := (186, _, [some (.ref 0), some (.int x1), some (.int x2), some (.int x3), some (.int x4), some (.int x5)], [], memTx (gT_ln v6) (gT_oc v6) (gT_tn v6) (gT_pl v6) (gT_ft v6) (gT_by v6) (upd (gT_od v6) (Int32.toNatClampNeg (x1 + (nI 0))) x5))) rfl g8 ?_
  obtain ⟨g9, h⟩ := gI_some h
  refine mEv.gd 7 (S' := (195, _, [some (.ref 0), some (.int x1), some (.int x2), some (.int x3), some (.int x4), some (.int x5)], [], memTx (gT_ln v6) (gT_oc v6) (gT_tn v6) (gT_pl v6) (gT_ft v6) (gT_by v6) (upd (upd (gT_od v6) (Int32.toNatClampNeg (x1 + (nI 0))) x5) (Int32.toNatClampNeg (x1 + (nI 1))) x2))) rfl g9 ?_
  obtain ⟨g10, h⟩ := gI_some h
  refine mEv.gd 7 (S' := (204, _, [some (.ref 0), some (.int x1), some (.int x2), some (.int x3), some (.int x4), some (.int x5)], [], memTx (gT_ln v6) (gT_oc v6) (gT_tn v6) (gT_pl v6) (gT_ft v6) (gT_by v6) (upd (upd (upd (gT_od v6) (Int32.toNatClampNeg (x1 + (nI 0))) x5) (Int32.toNatClampNeg (x1 + (nI 1))) x2) (Int32.toNatClampNeg (x1 + (nI 2))) x3))) rfl g10 ?_
  obtain ⟨g11, h⟩ := gI_some h
  refine mEv.gd 7 (S' := (214, _, [some (.ref 0), some (.int x1), some (.int x2), some (.int x3), some (.int x4), some (.int x5)], [], memTx (gT_ln v6) (gT_oc v6) (gT_tn v6) (gT_pl v6) (gT_ft v6) (gT_by v6) (upd (upd (upd (upd (gT_od v6) (Int32.toNatClampNeg (x1 + (nI 0))) x5) (Int32.toNatClampNeg (x1 + (nI 1))) x2) (Int32.toNatClampNeg (x1 + (nI 2))) x3) (Int32.toNatClampNeg (x1 + (nI 3))) x4))) rfl g11 ?_
  obtain rfl := Option.some.inj h
  exact mEv.tgt memT_mk (mEv.retv rfl)
def F_X1_readOrder (p1 : Int32) (s : TextS) : Option (TextS) := (F_X1_readKind s).bind (fun v1 => if v1.1 = (nI 43) then ((F_X1_readNumber (nI 0) (nI 99) v1.2).bind (fun v4 => J_X1_readOrder_172 p1 (nI 0) (nI 0) v4.1 v1.1 v4.2)) else (if v1.1 = (nI 48) then ((F_X1_readTown (-nI 1) v1.2).bind (fun v13 => (F_X1_readTown v13.1 v13.2).bind (fun v15 => (F_X1_readNumber (nI 1) (nI 24) v15.2).bind (fun v17 => J_X1_readOrder_172 p1 v13.1 v15.1 v17.1 v1.1 v17.2)))) else (if v1.1 = (nI 112) then ((F_X1_readNumber (nI 0) (nI 23) v1.2).bind (fun v20 => (F_X1_readNumber (nI 0) (nI 9) v20.2).bind (fun v22 => J_X1_readOrder_172 p1 v20.1 (nI 0) v22.1 v1.1 v22.2))) else (if v1.1 = (nI 114) then ((F_X1_readTown (-nI 1) v1.2).bind (fun v25 => (F_X1_readTown v25.1 v25.2).bind (fun v27 => (F_X1_readNumber (nI 0) (nI 30) v27.2).bind (fun v29 => J_X1_readOrder_172 p1 v25.1 v27.1 v29.1 v1.1 v29.2)))) else (if v1.1 = (nI 119) then ((F_X1_readTown (-nI 1) v1.2).bind (fun v32 => (F_X1_readTown v32.1 v32.2).bind (fun v34 => (F_X1_readNumber (nI 0) (nI 30) v34.2).bind (fun v36 => J_X1_readOrder_172 p1 v32.1 v34.1 v36.1 v1.1 v36.2)))) else (if v1.1 = (nI 120) then ((F_X1_readFigure (nI 1) v1.2).bind (fun v39 => J_X1_readOrder_172 p1 (nI 0) (nI 0) v39.1 v1.1 v39.2)) else (J_X1_readOrder_172 p1 (nI 0) (nI 0) (nI 0) v1.1 (mkT (gT_ln v1.2) (gT_oc v1.2) (gT_tn v1.2) (gT_pl v1.2) ((gT_pl v1.2) - (nI 1)) (gT_by v1.2) (gT_od v1.2)))))))))
set_option maxRecDepth 100000 in
theorem E_X1_readOrder {d : Nat} {p1 : Int32} {s : TextS} {q : TextS} (h : F_X1_readOrder p1 s = some q) : mEv (d + 3) m_X1_readOrder none (0, [], [some (.ref 0), some (.int p1), none, none, none, none], [], memT s) none (memT q) := by
  unfold F_X1_readOrder at h
  refine mEv.stp 8 (S' := (8, _, [some (.ref 0), some (.int p1), some (.int (nI 0)), some (.int (nI 0)), some (.int (nI 0)), none], [.ref 0], memT s)) rfl ?_
  obtain ⟨v1, e2, h⟩ := bnd h
  refine mEv.callV (As := []) (st := []) (h := 0) (r := (some (.int v1.1))) (μ1 := memT v1.2) lk_X1_41 rfl rfl rfl rfl rfl (A_X1_readKind (d := d + 1) e2) ?_
  refine mEv.stp 0 (S' := (11, _, [some (.ref 0), some (.int p1), some (.int (nI 0)), some (.int (nI 0)), some (.int (nI 0)), none], [.int v1.1], memT v1.2)) rfl ?_
  refine mEv.stp 3 (S' := (mSw v1.1 [(nI 43, 140), (nI 48, 72), (nI 112, 120), (nI 114, 96), (nI 119, 96), (nI 120, 152)] 162, [], [some (.ref 0), some (.int p1), some (.int (nI 0)), some (.int (nI 0)), some (.int (nI 0)), some (.int v1.1)], [], memT v1.2)) rfl ?_
  refine mEv.sw (fun c3 => ?_) (fun c3 => ?_)
  · have h := (if_pos c3).symm.trans h
    refine mEv.stp 4 (S' := (144, _, [some (.ref 0), some (.int p1), some (.int (nI 0)), some (.int (nI 0)), some (.int (nI 0)), some (.int v1.1)], [.int (nI 99), .int (nI 0), .ref 0], memT v1.2)) rfl ?_
    obtain ⟨v4, e5, h⟩ := bnd h
    refine mEv.callV (As := [.int (nI 0), .int (nI 99)]) (st := []) (h := 0) (r := (some (.int v4.1))) (μ1 := memT v4.2) lk_X1_51 rfl rfl rfl rfl rfl (A_X1_readNumber (d := d + 1) e5) ?_
    refine mEv.stp 0 (S' := (147, _, [some (.ref 0), some (.int p1), some (.int (nI 0)), some (.int (nI 0)), some (.int (nI 0)), some (.int v1.1)], [.int v4.1], memT v4.2)) rfl ?_
    refine mEv.stp 2 (S' := (172, [], [some (.ref 0), some (.int p1), some (.int (nI 0)), some (.int (nI 0)), some (.int v4.1), some (.int v1.1)], [], memT v4.2)) rfl ?_
    exact K_X1_readOrder_172 (d := d) h
  · have h := (if_neg c3).symm.trans h
    refine mEv.sw (fun c12 => ?_) (fun c12 => ?_)
    · have h := (if_pos c12).symm.trans h
      refine mEv.stp 3 (S' := (74, _, [some (.ref 0), some (.int p1), some (.int (nI 0)), some (.int (nI 0)), some (.int (nI 0)), some (.int v1.1)], [.int (-nI 1), .ref 0], memT v1.2)) rfl ?_
      obtain ⟨v13, e14, h⟩ := bnd h
      refine mEv.callV (As := [.int (-nI 1)]) (st := []) (h := 0) (r := (some (.int v13.1))) (μ1 := memT v13.2) lk_X1_45 rfl rfl rfl rfl rfl (A_X1_readTown (d := d + 0) e14) ?_
      refine mEv.stp 0 (S' := (77, _, [some (.ref 0), some (.int p1), some (.int (nI 0)), some (.int (nI 0)), some (.int (nI 0)), some (.int v1.1)], [.int v13.1], memT v13.2)) rfl ?_
      refine mEv.stp 3 (S' := (80, _, [some (.ref 0), some (.int p1), some (.int v13.1), some (.int (nI 0)), some (.int (nI 0)), some (.int v1.1)], [.int v13.1, .ref 0], memT v13.2)) rfl ?_
      obtain ⟨v15, e16, h⟩ := bnd h
      refine mEv.callV (As := [.int v13.1]) (st := []) (h := 0) (r := (some (.int v15.1))) (μ1 := memT v15.2) lk_X1_45 rfl rfl rfl rfl rfl (A_X1_readTown (d := d + 0) e16) ?_
      refine mEv.stp 0 (S' := (83, _, [some (.ref 0), some (.int p1), some (.int v13.1), some (.int (nI 0)), some (.int (nI 0)), some (.int v1.1)], [.int v15.1], memT v15.2)) rfl ?_
      refine mEv.stp 4 (S' := (88, _, [some (.ref 0), some (.int p1), some (.int v13.1), some (.int v15.1), some (.int (nI 0)), some (.int v1.1)], [.int (nI 24), .int (nI 1), .ref 0], memT v15.2)) rfl ?_
      obtain ⟨v17, e18, h⟩ := bnd h
      refine mEv.callV (As := [.int (nI 1), .int (nI 24)]) (st := []) (h := 0) (r := (some (.int v17.1))) (μ1 := memT v17.2) lk_X1_51 rfl rfl rfl rfl rfl (A_X1_readNumber (d := d + 1) e18) ?_
      refine mEv.stp 0 (S' := (91, _, [some (.ref 0), some (.int p1), some (.int v13.1), some (.int v15.1), some (.int (nI 0)), some (.int v1.1)], [.int v17.1], memT v17.2)) rfl ?_
      refine mEv.stp 2 (S' := (172, [], [some (.ref 0), some (.int p1), some (.int v13.1), some (.int v15.1), some (.int v17.1), some (.int v1.1)], [], memT v17.2)) rfl ?_
      exact K_X1_readOrder_172 (d := d) h
    · have h := (if_neg c12).symm.trans h
      refine mEv.sw (fun c19 => ?_) (fun c19 => ?_)
      · have h := (if_pos c19).symm.trans h
        refine mEv.stp 4 (S' := (124, _, [some (.ref 0), some (.int p1), some (.int (nI 0)), some (.int (nI 0)), some (.int (nI 0)), some (.int v1.1)], [.int (nI 23), .int (nI 0), .ref 0], memT v1.2)) rfl ?_
        obtain ⟨v20, e21, h⟩ := bnd h
        refine mEv.callV (As := [.int (nI 0), .int (nI 23)]) (st := []) (h := 0) (r := (some (.int v20.1))) (μ1 := memT v20.2) lk_X1_51 rfl rfl rfl rfl rfl (A_X1_readNumber (d := d + 1) e21) ?_
        refine mEv.stp 0 (S' := (127, _, [some (.ref 0), some (.int p1), some (.int (nI 0)), some (.int (nI 0)), some (.int (nI 0)), some (.int v1.1)], [.int v20.1], memT v20.2)) rfl ?_
        refine mEv.stp 4 (S' := (132, _, [some (.ref 0), some (.int p1), some (.int v20.1), some (.int (nI 0)), some (.int (nI 0)), some (.int v1.1)], [.int (nI 9), .int (nI 0), .ref 0], memT v20.2)) rfl ?_
        obtain ⟨v22, e23, h⟩ := bnd h
        refine mEv.callV (As := [.int (nI 0), .int (nI 9)]) (st := []) (h := 0) (r := (some (.int v22.1))) (μ1 := memT v22.2) lk_X1_51 rfl rfl rfl rfl rfl (A_X1_readNumber (d := d + 1) e23) ?_
        refine mEv.stp 0 (S' := (135, _, [some (.ref 0), some (.int p1), some (.int v20.1), some (.int (nI 0)), some (.int (nI 0)), some (.int v1.1)], [.int v22.1], memT v22.2)) rfl ?_
        refine mEv.stp 2 (S' := (172, [], [some (.ref 0), some (.int p1), some (.int v20.1), some (.int (nI 0)), some (.int v22.1), some (.int v1.1)], [], memT v22.2)) rfl ?_
        exact K_X1_readOrder_172 (d := d) h
      · have h := (if_neg c19).symm.trans h
        refine mEv.sw (fun c24 => ?_) (fun c24 => ?_)
        · have h := (if_pos c24).symm.trans h
          refine mEv.stp 3 (S' := (98, _, [some (.ref 0), some (.int p1), some (.int (nI 0)), some (.int (nI 0)), some (.int (nI 0)), some (.int v1.1)], [.int (-nI 1), .ref 0], memT v1.2)) rfl ?_
          obtain ⟨v25, e26, h⟩ := bnd h
          refine mEv.callV (As := [.int (-nI 1)]) (st := []) (h := 0) (r := (some (.int v25.1))) (μ1 := memT v25.2) lk_X1_45 rfl rfl rfl rfl rfl (A_X1_readTown (d := d + 0) e26) ?_
          refine mEv.stp 0 (S' := (101, _, [some (.ref 0), some (.int p1), some (.int (nI 0)), some (.int (nI 0)), some (.int (nI 0)), some (.int v1.1)], [.int v25.1], memT v25.2)) rfl ?_
          refine mEv.stp 3 (S' := (104, _, [some (.ref 0), some (.int p1), some (.int v25.1), some (.int (nI 0)), some (.int (nI 0)), some (.int v1.1)], [.int v25.1, .ref 0], memT v25.2)) rfl ?_
          obtain ⟨v27, e28, h⟩ := bnd h
          refine mEv.callV (As := [.int v25.1]) (st := []) (h := 0) (r := (some (.int v27.1))) (μ1 := memT v27.2) lk_X1_45 rfl rfl rfl rfl rfl (A_X1_readTown (d := d + 0) e28) ?_
          refine mEv.stp 0 (S' := (107, _, [some (.ref 0), some (.int p1), some (.int v25.1), some (.int (nI 0)), some (.int (nI 0)), some (.int v1.1)], [.int v27.1], memT v27.2)) rfl ?_
          refine mEv.stp 4 (S' := (112, _, [some (.ref 0), some (.int p1), some (.int v25.1), some (.int v27.1), some (.int (nI 0)), some (.int v1.1)], [.int (nI 30), .int (nI 0), .ref 0], memT v27.2)) rfl ?_
          obtain ⟨v29, e30, h⟩ := bnd h
          refine mEv.callV (As := [.int (nI 0), .int (nI 30)]) (st := []) (h := 0) (r := (some (.int v29.1))) (μ1 := memT v29.2) lk_X1_51 rfl rfl rfl rfl rfl (A_X1_readNumber (d := d + 1) e30) ?_
          refine mEv.stp 0 (S' := (115, _, [some (.ref 0), some (.int p1), some (.int v25.1), some (.int v27.1), some (.int (nI 0)), some (.int v1.1)], [.int v29.1], memT v29.2)) rfl ?_
          refine mEv.stp 2 (S' := (172, [], [some (.ref 0), some (.int p1), some (.int v25.1), some (.int v27.1), some (.int v29.1), some (.int v1.1)], [], memT v29.2)) rfl ?_
          exact K_X1_readOrder_172 (d := d) h
        · have h := (if_neg c24).symm.trans h
          refine mEv.sw (fun c31 => ?_) (fun c31 => ?_)
          · have h := (if_pos c31).symm.trans h
            refine mEv.stp 3 (S' := (98, _, [some (.ref 0), some (.int p1), some (.int (nI 0)), some (.int (nI 0)), some (.int (nI 0)), some (.int v1.1)], [.int (-nI 1), .ref 0], memT v1.2)) rfl ?_
            obtain ⟨v32, e33, h⟩ := bnd h
            refine mEv.callV (As := [.int (-nI 1)]) (st := []) (h := 0) (r := (some (.int v32.1))) (μ1 := memT v32.2) lk_X1_45 rfl rfl rfl rfl rfl (A_X1_readTown (d := d + 0) e33) ?_
            refine mEv.stp 0 (S' := (101, _, [some (.ref 0), some (.int p1), some (.int (nI 0)), some (.int (nI 0)), some (.int (nI 0)), some (.int v1.1)], [.int v32.1], memT v32.2)) rfl ?_
            refine mEv.stp 3 (S' := (104, _, [some (.ref 0), some (.int p1), some (.int v32.1), some (.int (nI 0)), some (.int (nI 0)), some (.int v1.1)], [.int v32.1, .ref 0], memT v32.2)) rfl ?_
            obtain ⟨v34, e35, h⟩ := bnd h
            refine mEv.callV (As := [.int v32.1]) (st := []) (h := 0) (r := (some (.int v34.1))) (μ1 := memT v34.2) lk_X1_45 rfl rfl rfl rfl rfl (A_X1_readTown (d := d + 0) e35) ?_
            refine mEv.stp 0 (S' := (107, _, [some (.ref 0), some (.int p1), some (.int v32.1), some (.int (nI 0)), some (.int (nI 0)), some (.int v1.1)], [.int v34.1], memT v34.2)) rfl ?_
            refine mEv.stp 4 (S' := (112, _, [some (.ref 0), some (.int p1), some (.int v32.1), some (.int v34.1), some (.int (nI 0)), some (.int v1.1)], [.int (nI 30), .int (nI 0), .ref 0], memT v34.2)) rfl ?_
            obtain ⟨v36, e37, h⟩ := bnd h
            refine mEv.callV (As := [.int (nI 0), .int (nI 30)]) (st := []) (h := 0) (r := (some (.int v36.1))) (μ1 := memT v36.2) lk_X1_51 rfl rfl rfl rfl rfl (A_X1_readNumber (d := d + 1) e37) ?_
            refine mEv.stp 0 (S' := (115, _, [some (.ref 0), some (.int p1), some (.int v32.1), some (.int v34.1), some (.int (nI 0)), some (.int v1.1)], [.int v36.1], memT v36.2)) rfl ?_
            refine mEv.stp 2 (S' := (172, [], [some (.ref 0), some (.int p1), some (.int v32.1), some (.int v34.1), some (.int v36.1), some (.int v1.1)], [], memT v36.2)) rfl ?_
            exact K_X1_readOrder_172 (d := d) h
          · have h := (if_neg c31).symm.trans h
            refine mEv.sw (fun c38 => ?_) (fun c38 => ?_)
            · have h := (if_pos c38).symm.trans h
              refine mEv.stp 3 (S' := (154, _, [some (.ref 0), some (.int p1), some (.int (nI 0)), some (.int (nI 0)), some (.int (nI 0)), some (.int v1.1)], [.int (nI 1), .ref 0], memT v1.2)) rfl ?_
              obtain ⟨v39, e40, h⟩ := bnd h
              refine mEv.callV (As := [.int (nI 1)]) (st := []) (h := 0) (r := (some (.int v39.1))) (μ1 := memT v39.2) lk_X1_55 rfl rfl rfl rfl rfl (A_X1_readFigure (d := d + 1) e40) ?_
              refine mEv.stp 0 (S' := (157, _, [some (.ref 0), some (.int p1), some (.int (nI 0)), some (.int (nI 0)), some (.int (nI 0)), some (.int v1.1)], [.int v39.1], memT v39.2)) rfl ?_
              refine mEv.stp 2 (S' := (172, [], [some (.ref 0), some (.int p1), some (.int (nI 0)), some (.int (nI 0)), some (.int v39.1), some (.int v1.1)], [], memT v39.2)) rfl ?_
              exact K_X1_readOrder_172 (d := d) h
            · have h := (if_neg c38).symm.trans h
              refine mEv.stp 0 (S' := (162, [], [some (.ref 0), some (.int p1), some (.int (nI 0)), some (.int (nI 0)), some (.int (nI 0)), some (.int v1.1)], [], memT v1.2)) rfl ?_
              refine mEv.stp 7 (S' := (172, [], [some (.ref 0), some (.int p1), some (.int (nI 0)), some (.int (nI 0)), some (.int (nI 0)), some (.int v1.1)], [], memTx (gT_ln v1.2) (gT_oc v1.2) (gT_tn v1.2) (gT_pl v1.2) ((gT_pl v1.2) - (nI 1)) (gT_by v1.2) (gT_od v1.2))) rfl ?_
              refine mEv.mem memT_mk ?_
              exact K_X1_readOrder_172 (d := d) h
theorem A_X1_readOrder {d : Nat} {p1 : Int32} {s : TextS} {q : TextS} (h : F_X1_readOrder p1 s = some q) : mCall (d + 3) m_X1_readOrder [.ref 0, .int p1] (memT s) none (memT q) := mCall.intro ok_X1_readOrder pl_X1_readOrder rfl (E_X1_readOrder (d := d) h)
def B_X1_read_45 (x2 : Int32) (s : TextS) : Option ((Int32 × TextS) ⊕ (TextS)) := if (nI 40) ≤ x2 then (some (.inr (s))) else (if ¬ (gT_ft s) = (-nI 1) then (some (.inr (s))) else (if (gT_ln s) ≤ (gT_pl s) then (some (.inr (s))) else ((F_X1_readOrder (x2 * (nI 4)) s).bind (fun v7 => (F_X1_skipBlanks v7).bind (fun v9 => some (.inl ((x2 + (nI 1)), (mkT (gT_ln v9) ((gT_oc v9) + (nI 1)) (gT_tn v9) (gT_pl v9) (gT_ft v9) (gT_by v9) (gT_od v9)))))))))
set_option maxRecDepth 100000 in
theorem H_X1_read_45 {d : Nat} {x2 : Int32} {s : TextS} {q : (Int32 × TextS) ⊕ (TextS)} {r0 : Option Value} {mu0 : MMe} (h : B_X1_read_45 x2 s = some q) (hk : Sum.elim (fun x : Int32 × TextS => mEv (d + 4) m_X1_read none (45, [], [some (.ref 0), none, some (.int x.1)], [], memT x.2) r0 mu0) (fun z : TextS => mEv (d + 4) m_X1_read none (97, [], [some (.ref 0), none, none], [], memT z) r0 mu0) q) : mEv (d + 4) m_X1_read none (45, [], [some (.ref 0), none, some (.int x2)], [], memT s) r0 mu0 := by
  unfold B_X1_read_45 at h
  refine mEv.br 4 (S1 := (97, [], [some (.ref 0), none, some (.int x2)], [], memT s)) (S2 := (51, _, [some (.ref 0), none, some (.int x2)], [], memT s)) rfl (fun c4 => ?_) (fun c4 => ?_)
  · have h := (if_pos c4).symm.trans h
    refine mEv.fg [2] (z' := [some (.ref 0), none, none]) rfl ?_
    obtain rfl := Option.some.inj h
    exact hk
  · have h := (if_neg c4).symm.trans h
    refine mEv.br 4 (S1 := (97, [], [some (.ref 0), none, some (.int x2)], [], memT s)) (S2 := (59, _, [some (.ref 0), none, some (.int x2)], [], memT s)) rfl (fun c5 => ?_) (fun c5 => ?_)
    · have h := (if_pos c5).symm.trans h
      refine mEv.fg [2] (z' := [some (.ref 0), none, none]) rfl ?_
      obtain rfl := Option.some.inj h
      exact hk
    · have h := (if_neg c5).symm.trans h
      refine mEv.br 5 (S1 := (97, [], [some (.ref 0), none, some (.int x2)], [], memT s)) (S2 := (70, _, [some (.ref 0), none, some (.int x2)], [], memT s)) rfl (fun c6 => ?_) (fun c6 => ?_)
      · have h := (if_pos c6).symm.trans h
        refine mEv.fg [2] (z' := [some (.ref 0), none, none]) rfl ?_
        obtain rfl := Option.some.inj h
        exact hk
      · have h := (if_neg c6).symm.trans h
        refine mEv.stp 4 (S' := (74, _, [some (.ref 0), none, some (.int x2)], [.int (x2 * (nI 4)), .ref 0], memT s)) rfl ?_
        obtain ⟨v7, e8, h⟩ := bnd h
        refine mEv.callV (As := [.int (x2 * (nI 4))]) (st := []) (h := 0) (r := none) (μ1 := memT v7) lk_X1_37 rfl rfl rfl rfl rfl (A_X1_readOrder (d := d + 0) e8) ?_
        refine mEv.stp 0 (S' := (77, _, [some (.ref 0), none, some (.int x2)], [], memT v7)) rfl ?_
        refine mEv.stp 1 (S' := (78, _, [some (.ref 0), none, some (.int x2)], [.ref 0], memT v7)) rfl ?_
        obtain ⟨v9, e10, h⟩ := bnd h
        refine mEv.callV (As := []) (st := []) (h := 0) (r := none) (μ1 := memT v9) lk_X1_34 rfl rfl rfl rfl rfl (A_X1_skipBlanks (d := d + 3) e10) ?_
        refine mEv.stp 0 (S' := (81, _, [some (.ref 0), none, some (.int x2)], [], memT v9)) rfl ?_
        refine mEv.stp 8 (S' := (45, [], [some (.ref 0), none, some (.int (x2 + (nI 1)))], [], memTx (gT_ln v9) ((gT_oc v9) + (nI 1)) (gT_tn v9) (gT_pl v9) (gT_ft v9) (gT_by v9) (gT_od v9))) rfl ?_
        refine mEv.mem memT_mk ?_
        obtain rfl := Option.some.inj h
        exact hk
def J_X1_read_43  (s : TextS) : Option (Int32 × TextS) := (mWh (fun x => B_X1_read_45 x.1 x.2) fuel0 ((nI 0), s)).bind (fun z11 => some (((gT_ft z11), z11)))
set_option maxRecDepth 100000 in
theorem K_X1_read_43 {d : Nat}  {s : TextS} {q : Int32 × TextS} (h : J_X1_read_43 s = some q) : mEv (d + 4) m_X1_read none (43, [], [some (.ref 0), none, none], [], memT s) (some (Value.int q.1)) (memT q.2) := by
  unfold J_X1_read_43 at h
  refine mEv.stp 3 (S' := (45, [], [some (.ref 0), none, some (.int (nI 0))], [], memT s)) rfl ?_
  obtain ⟨z11, e12, h⟩ := bnd h
  refine mWh_ind (b := (fun x => B_X1_read_45 x.1 x.2)) (P := fun x : Int32 × TextS => mEv (d + 4) m_X1_read none (45, [], [some (.ref 0), none, some (.int x.1)], [], memT x.2) (some (Value.int q.1)) (memT q.2)) (K := fun z : TextS => mEv (d + 4) m_X1_read none (97, [], [some (.ref 0), none, none], [], memT z) (some (Value.int q.1)) (memT q.2)) (fun x u hq hk => H_X1_read_45 (d := d) (x2 := x.1) (s := x.2) (q := u) (r0 := (some (Value.int q.1))) (mu0 := (memT q.2)) hq hk) fuel0 ((nI 0), s) z11 e12 ?_
  refine mEv.stp 0 (S' := (97, [], [some (.ref 0), none, none], [], memT z11)) rfl ?_
  obtain rfl := Option.some.inj h
  exact mEv.stp 3 (S' := (101, _, [some (.ref 0), none, none], [.int (gT_ft z11)], memT z11)) rfl (mEv.reti ⟨_, rfl, rfl⟩)
def F_X1_read (p1 : Int32) (s : TextS) : Option (Int32 × TextS) := (F_X1_skipBlanks (mkT (gT_ln s) (nI 0) p1 (nI 0) (-nI 1) (gT_by s) (gT_od s))).bind (fun v1 => if (gT_pl v1) < (gT_ln v1) then (J_X1_read_43 v1) else (J_X1_read_43 (mkT (gT_ln v1) (gT_oc v1) (gT_tn v1) (gT_pl v1) (gT_ln v1) (gT_by v1) (gT_od v1))))
set_option maxRecDepth 100000 in
theorem E_X1_read {d : Nat} {p1 : Int32} {s : TextS} {q : Int32 × TextS} (h : F_X1_read p1 s = some q) : mEv (d + 4) m_X1_read none (0, [], [some (.ref 0), some (.int p1), none], [], memT s) (some (Value.int q.1)) (memT q.2) := by
  unfold F_X1_read at h
  refine mEv.stp 14 (S' := (21, _, [some (.ref 0), some (.int p1), none], [.ref 0], memTx (gT_ln s) (nI 0) p1 (nI 0) (-nI 1) (gT_by s) (gT_od s))) rfl ?_
  obtain ⟨v1, e2, h⟩ := bnd h
  refine mEv.callV (As := []) (st := []) (h := 0) (r := none) (μ1 := memT v1) lk_X1_34 rfl rfl rfl rfl rfl (mCall.cast memT_mk (A_X1_skipBlanks (d := d + 3) e2)) ?_
  refine mEv.stp 0 (S' := (24, _, [some (.ref 0), some (.int p1), none], [], memT v1)) rfl ?_
  refine mEv.br 5 (S1 := (43, [], [some (.ref 0), some (.int p1), none], [], memT v1)) (S2 := (35, _, [some (.ref 0), some (.int p1), none], [], memT v1)) rfl (fun c3 => ?_) (fun c3 => ?_)
  · have h := (if_pos c3).symm.trans h
    refine mEv.fg [1] (z' := [some (.ref 0), none, none]) rfl ?_
    exact K_X1_read_43 (d := d) h
  · have h := (if_neg c3).symm.trans h
    refine mEv.stp 4 (S' := (43, [], [some (.ref 0), some (.int p1), none], [], memTx (gT_ln v1) (gT_oc v1) (gT_tn v1) (gT_pl v1) (gT_ln v1) (gT_by v1) (gT_od v1))) rfl ?_
    refine mEv.fg [1] (z' := [some (.ref 0), none, none]) rfl ?_
    refine mEv.mem memT_mk ?_
    exact K_X1_read_43 (d := d) h
theorem A_X1_read {d : Nat} {p1 : Int32} {s : TextS} {q : Int32 × TextS} (h : F_X1_read p1 s = some q) : mCall (d + 4) m_X1_read [.ref 0, .int p1] (memT s) (some (Value.int q.1)) (memT q.2) := mCall.intro ok_X1_read pl_X1_read rfl (E_X1_read (d := d) h)
