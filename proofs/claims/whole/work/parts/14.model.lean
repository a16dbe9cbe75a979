def B_X3_begins_2 (x1 : Int32) (x2 : Int32) (s : ModS) : Option ((Int32 × ModS) ⊕ (ModS)) := if (nI 637) ≤ x2 then (some (.inr (s))) else (gI x2 637 (some (.inl ((x2 + (nI 1)), (mkM (gM_ss s) (gM_ty s) (gM_at s) (gM_ft s) (gM_mn s) (gM_bd s) (gM_no s) (gM_fu s) (upd (gM_nw s) (Int32.toNatClampNeg x2) (nI 0)) (gM_as s) (gM_pa s) (gM_tx s) (gM_od s))))))
set_option maxRecDepth 100000 in
theorem H_X3_begins_2 {d : Nat} {x1 : Int32} {x2 : Int32} {s : ModS} {q : (Int32 × ModS) ⊕ (ModS)} {r0 : Option Value} {mu0 : MMe} (h : B_X3_begins_2 x1 x2 s = some q) (hk : Sum.elim (fun x : Int32 × ModS => mEv d m_X3_begins none (2, [], [some (.ref 0), some (.int x1), some (.int x.1), none, none], [], memM x.2) r0 mu0) (fun z : ModS => mEv d m_X3_begins none (22, [], [some (.ref 0), some (.int x1), none, none, none], [], memM z) r0 mu0) q) : mEv d m_X3_begins none (2, [], [some (.ref 0), some (.int x1), some (.int x2), none, none], [], memM s) r0 mu0 := by
  unfold B_X3_begins_2 at h
  refine mEv.br 4 (S1 := (22, [], [some (.ref 0), some (.int x1), some (.int x2), none, none], [], memM s)) (S2 := (9, _, [some (.ref 0), some (.int x1), some (.int x2), none, none], [], memM s)) rfl (fun c1 => ?_) (fun c1 => ?_)
  · have h := (if_pos c1).symm.trans h
    refine mEv.fg [2] (z' := [some (.ref 0), some (.int x1), none, none, none]) rfl ?_
    obtain rfl := Option.some.inj h
    exact hk
  · have h := (if_neg c1).symm.trans h
    obtain ⟨g2, h⟩ := gI_some h
    refine mEv.gd 5 (S' := (16, _, [some (.ref 0), some (.int x1), some (.int x2), none, none], [], memMx (gM_ss s) (gM_ty s) (gM_at s) (gM_ft s) (gM_mn s) (gM_bd s) (gM_no s) (gM_fu s) (upd (gM_nw s) (Int32.toNatClampNeg x2) (nI 0)) (gM_as s) (gM_pa s) (gM_tx s) (gM_od s))) rfl g2 ?_
    refine mEv.stp 2 (S' := (2, [], [some (.ref 0), some (.int x1), some (.int (x2 + (nI 1))), none, none], [], memMx (gM_ss s) (gM_ty s) (gM_at s) (gM_ft s) (gM_mn s) (gM_bd s) (gM_no s) (gM_fu s) (upd (gM_nw s) (Int32.toNatClampNeg x2) (nI 0)) (gM_as s) (gM_pa s) (gM_tx s) (gM_od s))) rfl ?_
    refine mEv.mem memM_mk ?_
    obtain rfl := Option.some.inj h
    exact hk
def B_X3_begins_69 (x2 : Int32) (x3 : Int32) (x4 : Int32) (s : ModS) : Option ((Int32) ⊕ (Int32)) := if x4 = x2 then (some (.inl ((x4 + (nI 1))))) else (if ¬ x4 = x3 then (some (.inr (x4))) else (some (.inl ((x4 + (nI 1))))))
set_option maxRecDepth 100000 in
theorem H_X3_begins_69 {d : Nat} {x2 : Int32} {x3 : Int32} {x4 : Int32} {s : ModS} {q : (Int32) ⊕ (Int32)} {r0 : Option Value} {mu0 : MMe} (h : B_X3_begins_69 x2 x3 x4 s = some q) (hk : Sum.elim (fun x : Int32 => mEv d m_X3_begins none (69, [], [some (.ref 0), none, some (.int x2), some (.int x3), some (.int x)], [], memM s) r0 mu0) (fun z : Int32 => mEv d m_X3_begins none (87, [], [some (.ref 0), none, some (.int x2), some (.int x3), some (.int z)], [], memM s) r0 mu0) q) : mEv d m_X3_begins none (69, [], [some (.ref 0), none, some (.int x2), some (.int x3), some (.int x4)], [], memM s) r0 mu0 := by
  unfold B_X3_begins_69 at h
  refine mEv.br 4 (S1 := (81, [], [some (.ref 0), none, some (.int x2), some (.int x3), some (.int x4)], [], memM s)) (S2 := (75, _, [some (.ref 0), none, some (.int x2), some (.int x3), some (.int x4)], [], memM s)) rfl (fun c10 => ?_) (fun c10 => ?_)
  · have h := (if_pos c10).symm.trans h
    refine mEv.stp 3 (S' := (69, [], [some (.ref 0), none, some (.int x2), some (.int x3), some (.int (x4 + (nI 1)))], [], memM s)) rfl ?_
    obtain rfl := Option.some.inj h
    exact hk
  · have h := (if_neg c10).symm.trans h
    refine mEv.br 3 (S1 := (87, [], [some (.ref 0), none, some (.int x2), some (.int x3), some (.int x4)], [], memM s)) (S2 := (81, [], [some (.ref 0), none, some (.int x2), some (.int x3), some (.int x4)], [], memM s)) rfl (fun c11 => ?_) (fun c11 => ?_)
    · have h := (if_pos c11).symm.trans h
      obtain rfl := Option.some.inj h
      exact hk
    · have h := (if_neg c11).symm.trans h
      refine mEv.stp 3 (S' := (69, [], [some (.ref 0), none, some (.int x2), some (.int x3), some (.int (x4 + (nI 1)))], [], memM s)) rfl ?_
      obtain rfl := Option.some.inj h
      exact hk
def B_X3_begins_46 (x2 : Int32) (x3 : Int32) (s : ModS) : Option ((Int32 × ModS) ⊕ (ModS)) := if (nI 6) ≤ x3 then (some (.inr (s))) else (gI (((nI 5) + ((nI 6) * x2)) + x3) 637 ((mWh (fun x => B_X3_begins_69 x2 x3 x (mkM (gM_ss s) (gM_ty s) (gM_at s) (gM_ft s) (gM_mn s) (gM_bd s) (gM_no s) (gM_fu s) (upd (gM_nw s) (Int32.toNatClampNeg (((nI 5) + ((nI 6) * x2)) + x3)) (nI 5)) (gM_as s) (gM_pa s) (gM_tx s) (gM_od s))) fuel0 ((nI 0))).bind (fun z12 => gI (((nI 77) + ((nI 6) * x2)) + x3) 637 (some (.inl ((x3 + (nI 1)), (mkM (gM_ss s) (gM_ty s) (gM_at s) (gM_ft s) (gM_mn s) (gM_bd s) (gM_no s) (gM_fu s) (upd (upd (gM_nw s) (Int32.toNatClampNeg (((nI 5) + ((nI 6) * x2)) + x3)) (nI 5)) (Int32.toNatClampNeg (((nI 77) + ((nI 6) * x2)) + x3)) z12) (gM_as s) (gM_pa s) (gM_tx s) (gM_od s))))))))
set_option maxRecDepth 100000 in
theorem H_X3_begins_46 {d : Nat} {x2 : Int32} {x3 : Int32} {s : ModS} {q : (Int32 × ModS) ⊕ (ModS)} {r0 : Option Value} {mu0 : MMe} (h : B_X3_begins_46 x2 x3 s = some q) (hk : Sum.elim (fun x : Int32 × ModS => mEv d m_X3_begins none (46, [], [some (.ref 0), none, some (.int x2), some (.int x.1), none], [], memM x.2) r0 mu0) (fun z : ModS => mEv d m_X3_begins none (109, [], [some (.ref 0), none, some (.int x2), none, none], [], memM z) r0 mu0) q) : mEv d m_X3_begins none (46, [], [some (.ref 0), none, some (.int x2), some (.int x3), none], [], memM s) r0 mu0 := by
  unfold B_X3_begins_46 at h
  refine mEv.br 4 (S1 := (109, [], [some (.ref 0), none, some (.int x2), some (.int x3), none], [], memM s)) (S2 := (52, _, [some (.ref 0), none, some (.int x2), some (.int x3), none], [], memM s)) rfl (fun c8 => ?_) (fun c8 => ?_)
  · have h := (if_pos c8).symm.trans h
    refine mEv.fg [3] (z' := [some (.ref 0), none, some (.int x2), none, none]) rfl ?_
    obtain rfl := Option.some.inj h
    exact hk
  · have h := (if_neg c8).symm.trans h
    obtain ⟨g9, h⟩ := gI_some h
    refine mEv.gd 11 (S' := (66, _, [some (.ref 0), none, some (.int x2), some (.int x3), none], [], memMx (gM_ss s) (gM_ty s) (gM_at s) (gM_ft s) (gM_mn s) (gM_bd s) (gM_no s) (gM_fu s) (upd (gM_nw s) (Int32.toNatClampNeg (((nI 5) + ((nI 6) * x2)) + x3)) (nI 5)) (gM_as s) (gM_pa s) (gM_tx s) (gM_od s))) rfl g9 ?_
    refine mEv.stp 2 (S' := (69, [], [some (.ref 0), none, some (.int x2), some (.int x3), some (.int (nI 0))], [], memMx (gM_ss s) (gM_ty s) (gM_at s) (gM_ft s) (gM_mn s) (gM_bd s) (gM_no s) (gM_fu s) (upd (gM_nw s) (Int32.toNatClampNeg (((nI 5) + ((nI 6) * x2)) + x3)) (nI 5)) (gM_as s) (gM_pa s) (gM_tx s) (gM_od s))) rfl ?_
    refine mEv.mem memM_mk ?_
    obtain ⟨z12, e13, h⟩ := bnd h
    refine mWh_ind (b := (fun x => B_X3_begins_69 x2 x3 x (mkM (gM_ss s) (gM_ty s) (gM_at s) (gM_ft s) (gM_mn s) (gM_bd s) (gM_no s) (gM_fu s) (upd (gM_nw s) (Int32.toNatClampNeg (((nI 5) + ((nI 6) * x2)) + x3)) (nI 5)) (gM_as s) (gM_pa s) (gM_tx s) (gM_od s)))) (P := fun x : Int32 => mEv d m_X3_begins none (69, [], [some (.ref 0), none, some (.int x2), some (.int x3), some (.int x)], [], memMx (gM_ss s) (gM_ty s) (gM_at s) (gM_ft s) (gM_mn s) (gM_bd s) (gM_no s) (gM_fu s) (upd (gM_nw s) (Int32.toNatClampNeg (((nI 5) + ((nI 6) * x2)) + x3)) (nI 5)) (gM_as s) (gM_pa s) (gM_tx s) (gM_od s)) r0 mu0) (K := fun z : Int32 => mEv d m_X3_begins none (87, [], [some (.ref 0), none, some (.int x2), some (.int x3), some (.int z)], [], memM (mkM (gM_ss s) (gM_ty s) (gM_at s) (gM_ft s) (gM_mn s) (gM_bd s) (gM_no s) (gM_fu s) (upd (gM_nw s) (Int32.toNatClampNeg (((nI 5) + ((nI 6) * x2)) + x3)) (nI 5)) (gM_as s) (gM_pa s) (gM_tx s) (gM_od s))) r0 mu0) (fun x u hq hk => H_X3_begins_69 (d := d) (x2 := x2) (x3 := x3) (x4 := x) (s := (mkM (gM_ss s) (gM_ty s) (gM_at s) (gM_ft s) (gM_mn s) (gM_bd s) (gM_no s) (gM_fu s) (upd (gM_nw s) (Int32.toNatClampNeg (((nI 5) + ((nI 6) * x2)) + x3)) (nI 5)) (gM_as s) (gM_pa s) (gM_tx s) (gM_od s))) (q := u) (r0 := r0) (mu0 := mu0) hq hk) fuel0 ((nI 0)) z12 e13 ?_
    refine mEv.stp 0 (S' := (87, [], [some (.ref 0), none, some (.int x2), some (.int x3), some (.int z12)], [], memMx (gM_ss s) (gM_ty s) (gM_at s) (gM_ft s) (gM_mn s) (gM_bd s) (gM_no s) (gM_fu s) (upd (gM_nw s) (Int32.toNatClampNeg (((nI 5) + ((nI 6) * x2)) + x3)) (nI 5)) (gM_as s) (gM_pa s) (gM_tx s) (gM_od s))) rfl ?_
    obtain ⟨g14, h⟩ := gI_some h
    refine mEv.gd 12 (S' := (103, _, [some (.ref 0), none, some (.int x2), some (.int x3), some (.int z12)], [], memMx (gM_ss s) (gM_ty s) (gM_at s) (gM_ft s) (gM_mn s) (gM_bd s) (gM_no s) (gM_fu s) (upd (upd (gM_nw s) (Int32.toNatClampNeg (((nI 5) + ((nI 6) * x2)) + x3)) (nI 5)) (Int32.toNatClampNeg (((nI 77) + ((nI 6) * x2)) + x3)) z12) (gM_as s) (gM_pa s) (gM_tx s) (gM_od s))) rfl g14 ?_
    refine mEv.stp 2 (S' := (46, [], [some (.ref 0), none, some (.int x2), some (.int (x3 + (nI 1))), some (.int z12)], [], memMx (gM_ss s) (gM_ty s) (gM_at s) (gM_ft s) (gM_mn s) (gM_bd s) (gM_no s) (gM_fu s) (upd (upd (gM_nw s) (Int32.toNatClampNeg (((nI 5) + ((nI 6) * x2)) + x3)) (nI 5)) (Int32.toNatClampNeg (((nI 77) + ((nI 6) * x2)) + x3)) z12) (gM_as s) (gM_pa s) (gM_tx s) (gM_od s))) rfl ?_
    refine mEv.fg [4] (z' := [some (.ref 0), none, some (.int x2), some (.int (x3 + (nI 1))), none]) rfl ?_
    refine mEv.mem memM_mk ?_
    obtain rfl := Option.some.inj h
    exact hk
def B_X3_begins_38 (x2 : Int32) (s : ModS) : Option ((Int32 × ModS) ⊕ (ModS)) := if (nI 6) ≤ x2 then (some (.inr (s))) else ((mWh (fun x => B_X3_begins_46 x2 x.1 x.2) fuel0 ((nI 0), s)).bind (fun z15 => some (.inl ((x2 + (nI 1)), z15))))
set_option maxRecDepth 100000 in
theorem H_X3_begins_38 {d : Nat} {x2 : Int32} {s : ModS} {q : (Int32 × ModS) ⊕ (ModS)} {r0 : Option Value} {mu0 : MMe} (h : B_X3_begins_38 x2 s = some q) (hk : Sum.elim (fun x : Int32 × ModS => mEv d m_X3_begins none (38, [], [some (.ref 0), none, some (.int x.1), none, none], [], memM x.2) r0 mu0) (fun z : ModS => mEv d m_X3_begins none (115, [], [none, none, none, none, none], [], memM z) r0 mu0) q) : mEv d m_X3_begins none (38, [], [some (.ref 0), none, some (.int x2), none, none], [], memM s) r0 mu0 := by
  unfold B_X3_begins_38 at h
  refine mEv.br 4 (S1 := (115, [], [some (.ref 0), none, some (.int x2), none, none], [], memM s)) (S2 := (44, _, [some (.ref 0), none, some (.int x2), none, none], [], memM s)) rfl (fun c7 => ?_) (fun c7 => ?_)
  · have h := (if_pos c7).symm.trans h
    refine mEv.fg [0, 2] (z' := [none, none, none, none, none]) rfl ?_
    obtain rfl := Option.some.inj h
    exact hk
  · have h := (if_neg c7).symm.trans h
    refine mEv.stp 2 (S' := (46, [], [some (.ref 0), none, some (.int x2), some (.int (nI 0)), none], [], memM s)) rfl ?_
    obtain ⟨z15, e16, h⟩ := bnd h
    refine mWh_ind (b := (fun x => B_X3_begins_46 x2 x.1 x.2)) (P := fun x : Int32 × ModS => mEv d m_X3_begins none (46, [], [some (.ref 0), none, some (.int x2), some (.int x.1), none], [], memM x.2) r0 mu0) (K := fun z : ModS => mEv d m_X3_begins none (109, [], [some (.ref 0), none, some (.int x2), none, none], [], memM z) r0 mu0) (fun x u hq hk => H_X3_begins_46 (d := d) (x2 := x2) (x3 := x.1) (s := x.2) (q := u) (r0 := r0) (mu0 := mu0) hq hk) fuel0 ((nI 0), s) z15 e16 ?_
    refine mEv.stp 0 (S' := (109, [], [some (.ref 0), none, some (.int x2), none, none], [], memM z15)) rfl ?_
    refine mEv.stp 3 (S' := (38, [], [some (.ref 0), none, some (.int (x2 + (nI 1))), none, none], [], memM z15)) rfl ?_
    obtain rfl := Option.some.inj h
    exact hk
def F_X3_begins (p1 : Int32) (s : ModS) : Option (ModS) := (mWh (fun x => B_X3_begins_2 p1 x.1 x.2) fuel0 ((nI 0), s)).bind (fun z3 => gI (nI 0) 637 (gI (nI 2) 637 ((mWh (fun x => B_X3_begins_38 x.1 x.2) fuel0 ((nI 0), (mkM (gM_ss z3) (gM_ty z3) (gM_at z3) (gM_ft z3) (gM_mn z3) (gM_bd z3) (gM_no z3) (gM_fu z3) (upd (upd (gM_nw z3) (Int32.toNatClampNeg (nI 0)) p1) (Int32.toNatClampNeg (nI 2)) (nI 1)) (gM_as z3) (gM_pa z3) (gM_tx z3) (gM_od z3)))).bind (fun z17 => some (z17)))))
set_option maxRecDepth 100000 in
theorem E_X3_begins {d : Nat} {p1 : Int32} {s : ModS} {q : ModS} (h : F_X3_begins p1 s = some q) : mEv d m_X3_begins none (0, [], [some (.ref 0), some (.int p1), none, none, none], [], memM s) none (memM q) := by
  unfold F_X3_begins at h
  refine mEv.stp 3 (S' := (2, [], [some (.ref 0), some (.int p1), some (.int (nI 0)), none, none], [], memM s)) rfl ?_
  obtain ⟨z3, e4, h⟩ := bnd h
  refine mWh_ind (b := (fun x => B_X3_begins_2 p1 x.1 x.2)) (P := fun x : Int32 × ModS => mEv d m_X3_begins none (2, [], [some (.ref 0), some (.int p1), some (.int x.1), none, none], [], memM x.2) none (memM q)) (K := fun z : ModS => mEv d m_X3_begins none (22, [], [some (.ref 0), some (.int p1), none, none, none], [], memM z) none (memM q)) (fun x u hq hk => H_X3_begins_2 (d := d) (x1 := p1) (x2 := x.1) (s := x.2) (q := u) (r0 := none) (mu0 := (memM q)) hq hk) fuel0 ((nI 0), s) z3 e4 ?_
  refine mEv.stp 0 (S' := (22, [], [some (.ref 0), some (.int p1), none, none, none], [], memM z3)) rfl ?_
  obtain ⟨g5, h⟩ := gI_some h
  refine mEv.gd 6 (S' := (29, _, [some (.ref 0), some (.int p1), none, none, none], [], memMx (gM_ss z3) (gM_ty z3) (gM_at z3) (gM_ft z3) (gM_mn z3) (gM_bd z3) (gM_no z3) (gM_fu z3) (upd (gM_nw z3) (Int32.toNatClampNeg (nI 0)) p1) (gM_as z3) (gM_pa z3) (gM_tx z3) (gM_od z3))) rfl g5 ?_
  obtain ⟨g6, h⟩ := gI_some h
  refine mEv.gd 5 (S' := (36, _, [some (.ref 0), some (.int p1), none, none, none], [], memMx (gM_ss z3) (gM_ty z3) (gM_at z3) (gM_ft z3) (gM_mn z3) (gM_bd z3) (gM_no z3) (gM_fu z3) (upd (upd (gM_nw z3) (Int32.toNatClampNeg (nI 0)) p1) (Int32.toNatClampNeg (nI 2)) (nI 1)) (gM_as z3) (gM_pa z3) (gM_tx z3) (gM_od z3))) rfl g6 ?_
  refine mEv.stp 2 (S' := (38, [], [some (.ref 0), some (.int p1), some (.int (nI 0)), none, none], [], memMx (gM_ss z3) (gM_ty z3) (gM_at z3) (gM_ft z3) (gM_mn z3) (gM_bd z3) (gM_no z3) (gM_fu z3) (upd (upd (gM_nw z3) (Int32.toNatClampNeg (nI 0)) p1) (Int32.toNatClampNeg (nI 2)) (nI 1)) (gM_as z3) (gM_pa z3) (gM_tx z3) (gM_od z3))) rfl ?_
  refine mEv.fg [1] (z' := [some (.ref 0), none, some (.int (nI 0)), none, none]) rfl ?_
  refine mEv.mem memM_mk ?_
  obtain ⟨z17, e18, h⟩ := bnd h
  refine mWh_ind (b := (fun x => B_X3_begins_38 x.1 x.2)) (P := fun x : Int32 × ModS => mEv d m_X3_begins none (38, [], [some (.ref 0), none, some (.int x.1), none, none], [], memM x.2) none (memM q)) (K := fun z : ModS => mEv d m_X3_begins none (115, [], [none, none, none, none, none], [], memM z) none (memM q)) (fun x u hq hk => H_X3_begins_38 (d := d) (x2 := x.1) (s := x.2) (q := u) (r0 := none) (mu0 := (memM q)) hq hk) fuel0 ((nI 0), (mkM (gM_ss z3) (gM_ty z3) (gM_at z3) (gM_ft z3) (gM_mn z3) (gM_bd z3) (gM_no z3) (gM_fu z3) (upd (upd (gM_nw z3) (Int32.toNatClampNeg (nI 0)) p1) (Int32.toNatClampNeg (nI 2)) (nI 1)) (gM_as z3) (gM_pa z3) (gM_tx z3) (gM_od z3))) z17 e18 ?_
  refine mEv.stp 0 (S' := (115, [], [none, none, none, none, none], [], memM z17)) rfl ?_
  obtain rfl := Option.some.inj h
  exact mEv.stp 1 (S' := (115, _, [none, none, none, none, none], [], memM z17)) rfl (mEv.retv rfl)
theorem A_X3_begins {d : Nat} {p1 : Int32} {s : ModS} {q : ModS} (h : F_X3_begins p1 s = some q) : mCall d m_X3_begins [.ref 0, .int p1] (memM s) none (memM q) := mCall.intro ok_X3_begins pl_X3_begins rfl (E_X3_begins (d := d) h)
def F_X3_in (p0 : Int32) (p1 : Int32) (p2 : Int32)  : Option (Int32) := if p0 < p1 then (some ((nI 0))) else (if p2 < p0 then (some ((nI 0))) else (some ((nI 1))))
set_option maxRecDepth 100000 in
theorem E_X3_in {d : Nat} {p0 : Int32} {p1 : Int32} {p2 : Int32} {μ : MMe} {q : Int32} (h : F_X3_in p0 p1 p2 = some q) : mEv d m_X3_in none (0, [], [some (.int p0), some (.int p1), some (.int p2)], [], μ) (some (Value.int q)) (μ) := by
  unfold F_X3_in at h
  refine mEv.br 4 (S1 := (14, [], [some (.int p0), some (.int p1), some (.int p2)], [], μ)) (S2 := (5, _, [some (.int p0), some (.int p1), some (.int p2)], [], μ)) rfl (fun c1 => ?_) (fun c1 => ?_)
  · have h := (if_pos c1).symm.trans h
    obtain rfl := Option.some.inj h
    exact mEv.stp 3 (S' := (15, _, [some (.int p0), some (.int p1), some (.int p2)], [.int (nI 0)], μ)) rfl (mEv.reti ⟨_, rfl, rfl⟩)
  · have h := (if_neg c1).symm.trans h
    refine mEv.br 3 (S1 := (14, [], [some (.int p0), some (.int p1), some (.int p2)], [], μ)) (S2 := (10, _, [some (.int p0), some (.int p1), some (.int p2)], [], μ)) rfl (fun c2 => ?_) (fun c2 => ?_)
    · have h := (if_pos c2).symm.trans h
      obtain rfl := Option.some.inj h
      exact mEv.stp 3 (S' := (15, _, [some (.int p0), some (.int p1), some (.int p2)], [.int (nI 0)], μ)) rfl (mEv.reti ⟨_, rfl, rfl⟩)
    · have h := (if_neg c2).symm.trans h
      obtain rfl := Option.some.inj h
      exact mEv.stp 3 (S' := (15, _, [some (.int p0), some (.int p1), some (.int p2)], [.int (nI 1)], μ)) rfl (mEv.reti ⟨_, rfl, rfl⟩)
theorem A_X3_in {d : Nat} {p0 : Int32} {p1 : Int32} {p2 : Int32} {μ : MMe} {q : Int32} (h : F_X3_in p0 p1 p2 = some q) : mCall d m_X3_in [.int p0, .int p1, .int p2] (μ) (some (Value.int q)) (μ) := mCall.intro ok_X3_in pl_X3_in rfl (E_X3_in (d := d) h)
def F_X3_bads  (s : ModS) : Option (Int32 × ModS) := some (((-nI 2), (mkM (gM_ss s) (gM_ty s) (gM_at s) (gM_ft s) (gM_mn s) ((gM_bd s) + (nI 1)) (gM_no s) (gM_fu s) (gM_nw s) (gM_as s) (gM_pa s) (gM_tx s) (gM_od s))))
set_option maxRecDepth 100000 in
theorem E_X3_bads {d : Nat}  {s : ModS} {q : Int32 × ModS} (h : F_X3_bads s = some q) : mEv d m_X3_bads none (0, [], [some (.ref 0)], [], memM s) (some (Value.int q.1)) (memM q.2) := by
  unfold F_X3_bads at h
  obtain rfl := Option.some.inj h
  exact mEv.tgt memM_mk (mEv.stp 8 (S' := (12, _, [some (.ref 0)], [.int (-nI 2)], memMx (gM_ss s) (gM_ty s) (gM_at s) (gM_ft s) (gM_mn s) ((gM_bd s) + (nI 1)) (gM_no s) (gM_fu s) (gM_nw s) (gM_as s) (gM_pa s) (gM_tx s) (gM_od s))) rfl (mEv.reti ⟨_, rfl, rfl⟩))
theorem A_X3_bads {d : Nat}  {s : ModS} {q : Int32 × ModS} (h : F_X3_bads s = some q) : mCall d m_X3_bads [.ref 0] (memM s) (some (Value.int q.1)) (memM q.2) := mCall.intro ok_X3_bads pl_X3_bads rfl (E_X3_bads (d := d) h)
def F_X3_nos  (s : ModS) : Option (Int32 × ModS) := some (((-nI 3), (mkM (gM_ss s) (gM_ty s) (gM_at s) (gM_ft s) (gM_mn s) (gM_bd s) ((gM_no s) + (nI 1)) (gM_fu s) (gM_nw s) (gM_as s) (gM_pa s) (gM_tx s) (gM_od s))))
set_option maxRecDepth 100000 in
theorem E_X3_nos {d : Nat}  {s : ModS} {q : Int32 × ModS} (h : F_X3_nos s = some q) : mEv d m_X3_nos none (0, [], [some (.ref 0)], [], memM s) (some (Value.int q.1)) (memM q.2) := by
  unfold F_X3_nos at h
  obtain rfl := Option.some.inj h
  exact mEv.tgt memM_mk (mEv.stp 8 (S' := (12, _, [some (.ref 0)], [.int (-nI 3)], memMx (gM_ss s) (gM_ty s) (gM_at s) (gM_ft s) (gM_mn s) (gM_bd s) ((gM_no s) + (nI 1)) (gM_fu s) (gM_nw s) (gM_as s) (gM_pa s) (gM_tx s) (gM_od s))) rfl (mEv.reti ⟨_, rfl, rfl⟩))
theorem A_X3_nos {d : Nat}  {s : ModS} {q : Int32 × ModS} (h : F_X3_nos s = some q) : mCall d m_X3_nos [.ref 0] (memM s) (some (Value.int q.1)) (memM q.2) := mCall.intro ok_X3_nos pl_X3_nos rfl (E_X3_nos (d := d) h)
def F_X3_isTown (p1 : Int32) (s : ModS) : Option (Int32) := gI (nI 0) 637 ((F_X3_in p1 (nI 0) (((gM_nw s) (Int32.toNatClampNeg (nI 0))) - (nI 1))).bind (fun v2 => gB v2 (some (v2))))
set_option maxRecDepth 100000 in
theorem E_X3_isTown {d : Nat} {p1 : Int32} {s : ModS} {q : Int32} (h : F_X3_isTown p1 s = some q) : mEv (d + 1) m_X3_isTown none (0, [], [some (.ref 0), some (.int p1)], [], memM s) (some (Value.int q)) (memM s) := by
  unfold F_X3_isTown at h
  obtain ⟨g1, h⟩ := gI_some h
  refine mEv.gd 7 (S' := (8, _, [some (.ref 0), some (.int p1)], [.int ((gM_nw s) (Int32.toNatClampNeg (nI 0))), .int (nI 0), .int p1], memM s)) rfl g1 ?_
  refine mEv.stp 2 (S' := (10, _, [some (.ref 0), some (.int p1)], [.int (((gM_nw s) (Int32.toNatClampNeg (nI 0))) - (nI 1)), .int (nI 0), .int p1], memM s)) rfl ?_
  obtain ⟨v2, e3, h⟩ := bnd h
  refine mEv.callS (As := [.int p1, .int (nI 0), .int (((gM_nw s) (Int32.toNatClampNeg (nI 0))) - (nI 1))]) (st := []) (r := (some (.int v2))) (μ1 := memM s) lk_X3_36 rfl rfl rfl (A_X3_in (d := d + 0) e3) ?_
  refine mEv.stp 0 (S' := (13, _, [some (.ref 0), some (.int p1)], [.int v2], memM s)) rfl ?_
  obtain ⟨hB, h⟩ := gB_some h
  obtain rfl := Option.some.inj h
  exact mEv.reti ⟨_, rfl, hB⟩
theorem A_X3_isTown {d : Nat} {p1 : Int32} {s : ModS} {q : Int32} (h : F_X3_isTown p1 s = some q) : mCall (d + 1) m_X3_isTown [.ref 0, .int p1] (memM s) (some (Value.int q)) (memM s) := mCall.intro ok_X3_isTown pl_X3_isTown rfl (E_X3_isTown (d := d) h)
def F_X3_areTowns (p1 : Int32) (p2 : Int32) (s : ModS) : Option (Int32) := (F_X3_isTown p1 s).bind (fun v1 => if v1 = (nI 0) then (some ((nI 0))) else ((F_X3_isTown p2 s).bind (fun v4 => if v4 = (nI 0) then (some ((nI 0))) else (if p1 = p2 then (some ((nI 0))) else (some ((nI 1)))))))
set_option maxRecDepth 100000 in
theorem E_X3_areTowns {d : Nat} {p1 : Int32} {p2 : Int32} {s : ModS} {q : Int32} (h : F_X3_areTowns p1 p2 s = some q) : mEv (d + 2) m_X3_areTowns none (0, [], [some (.ref 0), some (.int p1), some (.int p2)], [], memM s) (some (Value.int q)) (memM s) := by
  unfold F_X3_areTowns at h
  refine mEv.stp 3 (S' := (2, _, [some (.ref 0), some (.int p1), some (.int p2)], [.int p1, .ref 0], memM s)) rfl ?_
  obtain ⟨v1, e2, h⟩ := bnd h
  refine mEv.callV (As := [.int p1]) (st := []) (h := 0) (r := (some (.int v1))) (μ1 := memM s) lk_X3_40 rfl rfl rfl rfl rfl (A_X3_isTown (d := d + 0) e2) ?_
  refine mEv.stp 0 (S' := (5, _, [some (.ref 0), some (.int p1), some (.int p2)], [.int v1], memM s)) rfl ?_
  refine mEv.br 1 (S1 := (25, [], [some (.ref 0), some (.int p1), some (.int p2)], [], memM s)) (S2 := (8, _, [some (.ref 0), some (.int p1), some (.int p2)], [], memM s)) rfl (fun c3 => ?_) (fun c3 => ?_)
  · have h := (if_pos c3).symm.trans h
    obtain rfl := Option.some.inj h
    exact mEv.stp 3 (S' := (26, _, [some (.ref 0), some (.int p1), some (.int p2)], [.int (nI 0)], memM s)) rfl (mEv.reti ⟨_, rfl, rfl⟩)
  · have h := (if_neg c3).symm.trans h
    refine mEv.stp 2 (S' := (10, _, [some (.ref 0), some (.int p1), some (.int p2)], [.int p2, .ref 0], memM s)) rfl ?_
    obtain ⟨v4, e5, h⟩ := bnd h
    refine mEv.callV (As := [.int p2]) (st := []) (h := 0) (r := (some (.int v4))) (μ1 := memM s) lk_X3_40 rfl rfl rfl rfl rfl (A_X3_isTown (d := d + 0) e5) ?_
    refine mEv.stp 0 (S' := (13, _, [some (.ref 0), some (.int p1), some (.int p2)], [.int v4], memM s)) rfl ?_
    refine mEv.br 1 (S1 := (25, [], [some (.ref 0), some (.int p1), some (.int p2)], [], memM s)) (S2 := (16, _, [some (.ref 0), some (.int p1), some (.int p2)], [], memM s)) rfl (fun c6 => ?_) (fun c6 => ?_)
    · have h := (if_pos c6).symm.trans h
      obtain rfl := Option.some.inj h
      exact mEv.stp 3 (S' := (26, _, [some (.ref 0), some (.int p1), some (.int p2)], [.int (nI 0)], memM s)) rfl (mEv.reti ⟨_, rfl, rfl⟩)
    · have h := (if_neg c6).symm.trans h
      refine mEv.br 3 (S1 := (25, [], [some (.ref 0), some (.int p1), some (.int p2)], [], memM s)) (S2 := (21, _, [some (.ref 0), some (.int p1), some (.int p2)], [], memM s)) rfl (fun c7 => ?_) (fun c7 => ?_)
      · have h := (if_pos c7).symm.trans h
        obtain rfl := Option.some.inj h
        exact mEv.stp 3 (S' := (26, _, [some (.ref 0), some (.int p1), some (.int p2)], [.int (nI 0)], memM s)) rfl (mEv.reti ⟨_, rfl, rfl⟩)
      · have h := (if_neg c7).symm.trans h
        obtain rfl := Option.some.inj h
        exact mEv.stp 3 (S' := (26, _, [some (.ref 0), some (.int p1), some (.int p2)], [.int (nI 1)], memM s)) rfl (mEv.reti ⟨_, rfl, rfl⟩)
theorem A_X3_areTowns {d : Nat} {p1 : Int32} {p2 : Int32} {s : ModS} {q : Int32} (h : F_X3_areTowns p1 p2 s = some q) : mCall (d + 2) m_X3_areTowns [.ref 0, .int p1, .int p2] (memM s) (some (Value.int q)) (memM s) := mCall.intro ok_X3_areTowns pl_X3_areTowns rfl (E_X3_areTowns (d := d) h)
def B_X3_keeps_51 (x1 : Int32) (s : ModS) : Option ((Int32 × ModS) ⊕ (ModS)) := if (nI 637) ≤ x1 then (some (.inr (s))) else (gI x1 637 (gI (((nI 637) * (gM_ss s)) + x1) 3185 (some (.inl ((x1 + (nI 1)), (mkM (gM_ss s) (gM_ty s) (gM_at s) (gM_ft s) (gM_mn s) (gM_bd s) (gM_no s) (gM_fu s) (gM_nw s) (gM_as s) (upd (gM_pa s) (Int32.toNatClampNeg (((nI 637) * (gM_ss s)) + x1)) ((gM_nw s) (Int32.toNatClampNeg x1))) (gM_tx s) (gM_od s)))))))
set_option maxRecDepth 100000 in
theorem H_X3_keeps_51 {d : Nat} {x1 : Int32} {s : ModS} {q : (Int32 × ModS) ⊕ (ModS)} {r0 : Option Value} {mu0 : MMe} (h : B_X3_keeps_51 x1 s = some q) (hk : Sum.elim (fun x : Int32 × ModS => mEv d m_X3_keeps none (51, [], [some (.ref 0), some (.int x.1)], [], memM x.2) r0 mu0) (fun z : ModS => mEv d m_X3_keeps none (85, [], [some (.ref 0), none], [], memM z) r0 mu0) q) : mEv d m_X3_keeps none (51, [], [some (.ref 0), some (.int x1)], [], memM s) r0 mu0 := by
  unfold B_X3_keeps_51 at h
  refine mEv.br 4 (S1 := (85, [], [some (.ref 0), some (.int x1)], [], memM s)) (S2 := (58, _, [some (.ref 0), some (.int x1)], [], memM s)) rfl (fun c2 => ?_) (fun c2 => ?_)
  · have h := (if_pos c2).symm.trans h
    refine mEv.fg [1] (z' := [some (.ref 0), none]) rfl ?_
    obtain rfl := Option.some.inj h
    exact hk
  · have h := (if_neg c2).symm.trans h
    obtain ⟨g3, h⟩ := gI_some h
    refine mEv.gd 12 (S' := (78, _, [some (.ref 0), some (.int x1)], [.int ((gM_nw s) (Int32.toNatClampNeg x1)), .int (((nI 637) * (gM_ss s)) + x1), .ref 3], memM s)) rfl g3 ?_
    obtain ⟨g4, h⟩ := gI_some h
    refine mEv.gd 1 (S' := (79, _, [some (.ref 0), some (.int x1)], [], memMx (gM_ss s) (gM_ty s) (gM_at s) (gM_ft s) (gM_mn s) (gM_bd s) (gM_no s) (gM_fu s) (gM_nw s) (gM_as s) (upd (gM_pa s) (Int32.toNatClampNeg (((nI 637) * (gM_ss s)) + x1)) ((gM_nw s) (Int32.toNatClampNeg x1))) (gM_tx s) (gM_od s))) rfl g4 ?_
    refine mEv.stp 2 (S' := (51, [], [some (.ref 0), some (.int (x1 + (nI 1)))], [], memMx (gM_ss s) (gM_ty s) (gM_at s) (gM_ft s) (gM_mn s) (gM_bd s) (gM_no s) (gM_fu s) (gM_nw s) (gM_as s) (upd (gM_pa s) (Int32.toNatClampNeg (((nI 637) * (gM_ss s)) + x1)) ((gM_nw s) (Int32.toNatClampNeg x1))) (gM_tx s) (gM_od s))) rfl ?_
    refine mEv.mem memM_mk ?_
    obtain rfl := Option.some.inj h
    exact hk
def J_X3_keeps_49  (s : ModS) : Option (ModS) := (mWh (fun x => B_X3_keeps_51 x.1 x.2) fuel0 ((nI 0), s)).bind (fun z5 => some ((mkM ((gM_ss z5) + (nI 1)) (gM_ty z5) (gM_at z5) (gM_ft z5) (gM_mn z5) (gM_bd z5) (gM_no z5) (gM_fu z5) (gM_nw z5) (gM_as z5) (gM_pa z5) (gM_tx z5) (gM_od z5))))
set_option maxRecDepth 100000 in
theorem K_X3_keeps_49 {d : Nat}  {s : ModS} {q : ModS} (h : J_X3_keeps_49 s = some q) : mEv d m_X3_keeps none (49, [], [some (.ref 0), none], [], memM s) none (memM q) := by
  unfold J_X3_keeps_49 at h
  refine mEv.stp 3 (S' := (51, [], [some (.ref 0), some (.int (nI 0))], [], memM s)) rfl ?_
  obtain ⟨z5, e6, h⟩ := bnd h
  refine mWh_ind (b := (fun x => B_X3_keeps_51 x.1 x.2)) (P := fun x : Int32 × ModS => mEv d m_X3_keeps none (51, [], [some (.ref 0), some (.int x.1)], [], memM x.2) none (memM q)) (K := fun z : ModS => mEv d m_X3_keeps none (85, [], [some (.ref 0), none], [], memM z) none (memM q)) (fun x u hq hk => H_X3_keeps_51 (d := d) (x1 := x.1) (s := x.2) (q := u) (r0 := none) (mu0 := (memM q)) hq hk) fuel0 ((nI 0), s) z5 e6 ?_
  refine mEv.stp 0 (S' := (85, [], [some (.ref 0), none], [], memM z5)) rfl ?_
  obtain rfl := Option.some.inj h
  exact mEv.tgt memM_mk (mEv.stp 7 (S' := (95, _, [some (.ref 0), none], [], memMx ((gM_ss z5) + (nI 1)) (gM_ty z5) (gM_at z5) (gM_ft z5) (gM_mn z5) (gM_bd z5) (gM_no z5) (gM_fu z5) (gM_nw z5) (gM_as z5) (gM_pa z5) (gM_tx z5) (gM_od z5))) rfl (mEv.retv rfl))
def B_X3_keeps_10 (x1 : Int32) (s : ModS) : Option ((Int32 × ModS) ⊕ (ModS)) := if (nI 2548) ≤ x1 then (some (.inr (s))) else (gI (x1 + (nI 637)) 3185 (gI x1 3185 (some (.inl ((x1 + (nI 1)), (mkM (gM_ss s) (gM_ty s) (gM_at s) (gM_ft s) (gM_mn s) (gM_bd s) (gM_no s) (gM_fu s) (gM_nw s) (gM_as s) (upd (gM_pa s) (Int32.toNatClampNeg x1) ((gM_pa s) (Int32.toNatClampNeg (x1 + (nI 637))))) (gM_tx s) (gM_od s)))))))
set_option maxRecDepth 100000 in
theorem H_X3_keeps_10 {d : Nat} {x1 : Int32} {s : ModS} {q : (Int32 × ModS) ⊕ (ModS)} {r0 : Option Value} {mu0 : MMe} (h : B_X3_keeps_10 x1 s = some q) (hk : Sum.elim (fun x : Int32 × ModS => mEv d m_X3_keeps none (10, [], [some (.ref 0), some (.int x.1)], [], memM x.2) r0 mu0) (fun z : ModS => mEv d m_X3_keeps none (39, [], [some (.ref 0), none], [], memM z) r0 mu0) q) : mEv d m_X3_keeps none (10, [], [some (.ref 0), some (.int x1)], [], memM s) r0 mu0 := by
  unfold B_X3_keeps_10 at h
  refine mEv.br 4 (S1 := (39, [], [some (.ref 0), some (.int x1)], [], memM s)) (S2 := (17, _, [some (.ref 0), some (.int x1)], [], memM s)) rfl (fun c7 => ?_) (fun c7 => ?_)
  · have h := (if_pos c7).symm.trans h
    refine mEv.fg [1] (z' := [some (.ref 0), none]) rfl ?_
    obtain rfl := Option.some.inj h
    exact hk
  · have h := (if_neg c7).symm.trans h
    obtain ⟨g8, h⟩ := gI_some h
    refine mEv.gd 9 (S' := (32, _, [some (.ref 0), some (.int x1)], [.int ((gM_pa s) (Int32.toNatClampNeg (x1 + (nI 637)))), .int x1, .ref 3], memM s)) rfl g8 ?_
    obtain ⟨g9, h⟩ := gI_some h
    refine mEv.gd 1 (S' := (33, _, [some (.ref 0), some (.int x1)], [], memMx (gM_ss s) (gM_ty s) (gM_at s) (gM_ft s) (gM_mn s) (gM_bd s) (gM_no s) (gM_fu s) (gM_nw s) (gM_as s) (upd (gM_pa s) (Int32.toNatClampNeg x1) ((gM_pa s) (Int32.toNatClampNeg (x1 + (nI 637))))) (gM_tx s) (gM_od s))) rfl g9 ?_
    refine mEv.stp 2 (S' := (10, [], [some (.ref 0), some (.int (x1 + (nI 1)))], [], memMx (gM_ss s) (gM_ty s) (gM_at s) (gM_ft s) (gM_mn s) (gM_bd s) (gM_no s) (gM_fu s) (gM_nw s) (gM_as s) (upd (gM_pa s) (Int32.toNatClampNeg x1) ((gM_pa s) (Int32.toNatClampNeg (x1 + (nI 637))))) (gM_tx s) (gM_od s))) rfl ?_
    refine mEv.mem memM_mk ?_
    obtain rfl := Option.some.inj h
    exact hk
def F_X3_keeps  (s : ModS) : Option (ModS) := if ¬ (gM_ss s) = (nI 5) then (J_X3_keeps_49 s) else ((mWh (fun x => B_X3_keeps_10 x.1 x.2) fuel0 ((nI 0), s)).bind (fun z10 => J_X3_keeps_49 (mkM ((gM_ss z10) - (nI 1)) (gM_ty z10) (gM_at z10) (gM_ft z10) (gM_mn z10) (gM_bd z10) (gM_no z10) (gM_fu z10) (gM_nw z10) (gM_as z10) (gM_pa z10) (gM_tx z10) (gM_od z10))))
set_option maxRecDepth 100000 in
theorem E_X3_keeps {d : Nat}  {s : ModS} {q : ModS} (h : F_X3_keeps s = some q) : mEv d m_X3_keeps none (0, [], [some (.ref 0), none], [], memM s) none (memM q) := by
  unfold F_X3_keeps at h
  refine mEv.br 5 (S1 := (49, [], [some (.ref 0), none], [], memM s)) (S2 := (8, _, [some (.ref 0), none], [], memM s)) rfl (fun c1 => ?_) (fun c1 => ?_)
  · have h := (if_pos c1).symm.trans h
    exact K_X3_keeps_49 (d := d) h
  · have h := (if_neg c1).symm.trans h
    refine mEv.stp 2 (S' := (10, [], [some (.ref 0), some (.int (nI 0))], [], memM s)) rfl ?_
    obtain ⟨z10, e11, h⟩ := bnd h
    refine mWh_ind (b := (fun x => B_X3_keeps_10 x.1 x.2)) (P := fun x : Int32 × ModS => mEv d m_X3_keeps none (10, [], [some (.ref 0), some (.int x.1)], [], memM x.2) none (memM q)) (K := fun z : ModS => mEv d m_X3_keeps none (39, [], [some (.ref 0), none], [], memM z) none (memM q)) (fun x u hq hk => H_X3_keeps_10 (d := d) (x1 := x.1) (s := x.2) (q := u) (r0 := none) (mu0 := (memM q)) hq hk) fuel0 ((nI 0), s) z10 e11 ?_
    refine mEv.stp 0 (S' := (39, [], [some (.ref 0), none], [], memM z10)) rfl ?_
    refine mEv.stp 7 (S' := (49, [], [some (.ref 0), none], [], memMx ((gM_ss z10) - (nI 1)) (gM_ty z10) (gM_at z10) (gM_ft z10) (gM_mn z10) (gM_bd z10) (gM_no z10) (gM_fu z10) (gM_nw z10) (gM_as z10) (gM_pa z10) (gM_tx z10) (gM_od z10))) rfl ?_
    refine mEv.mem memM_mk ?_
    exact K_X3_keeps_49 (d := d) h
theorem A_X3_keeps {d : Nat}  {s : ModS} {q : ModS} (h : F_X3_keeps s = some q) : mCall d m_X3_keeps [.ref 0] (memM s) none (memM q) := mCall.intro ok_X3_keeps pl_X3_keeps rfl (E_X3_keeps (d := d) h)
def F_X3_pairOf (p0 : Int32) (p1 : Int32)  : Option (Int32) := if p1 ≤ p0 then (some ((((nI 6) * p1) + p0))) else (some ((((nI 6) * p0) + p1)))
set_option maxRecDepth 100000 in
theorem E_X3_pairOf {d : Nat} {p0 : Int32} {p1 : Int32} {μ : MMe} {q : Int32} (h : F_X3_pairOf p0 p1 = some q) : mEv d m_X3_pairOf none (0, [], [some (.int p0), some (.int p1)], [], μ) (some (Value.int q)) (μ) := by
  unfold F_X3_pairOf at h
  refine mEv.br 4 (S1 := (14, [], [some (.int p0), some (.int p1)], [], μ)) (S2 := (5, _, [some (.int p0), some (.int p1)], [], μ)) rfl (fun c1 => ?_) (fun c1 => ?_)
  · have h := (if_pos c1).symm.trans h
    obtain rfl := Option.some.inj h
    exact mEv.stp 7 (S' := (20, _, [some (.int p0), some (.int p1)], [.int (((nI 6) * p1) + p0)], μ)) rfl (mEv.reti ⟨_, rfl, rfl⟩)
  · have h := (if_neg c1).symm.trans h
    obtain rfl := Option.some.inj h
    exact mEv.stp 7 (S' := (20, _, [some (.int p0), some (.int p1)], [.int (((nI 6) * p0) + p1)], μ)) rfl (mEv.reti ⟨_, rfl, rfl⟩)
theorem A_X3_pairOf {d : Nat} {p0 : Int32} {p1 : Int32} {μ : MMe} {q : Int32} (h : F_X3_pairOf p0 p1 = some q) : mCall d m_X3_pairOf [.int p0, .int p1] (μ) (some (Value.int q)) (μ) := mCall.intro ok_X3_pairOf pl_X3_pairOf rfl (E_X3_pairOf (d := d) h)
def F_X3_towns (p1 : Int32) (s : ModS) : Option (Int32 × ModS) := (F_X3_in p1 (nI 3) (nI 6)).bind (fun v1 => if ¬ v1 = (nI 0) then ((F_X3_keeps s).bind (fun v4 => gI (nI 0) 637 ((F_X3_begins p1 v4).bind (fun v7 => some ((((gM_nw v4) (Int32.toNatClampNeg (nI 0))), v7)))))) else ((F_X3_bads s).bind (fun v9 => some ((v9.1, v9.2)))))
set_option maxRecDepth 100000 in
theorem E_X3_towns {d : Nat} {p1 : Int32} {s : ModS} {q : Int32 × ModS} (h : F_X3_towns p1 s = some q) : mEv (d + 1) m_X3_towns none (0, [], [some (.ref 0), some (.int p1), none], [], memM s) (some (Value.int q.1)) (memM q.2) := by
  unfold F_X3_towns at h
  refine mEv.stp 4 (S' := (4, _, [some (.ref 0), some (.int p1), none], [.int (nI 6), .int (nI 3), .int p1], memM s)) rfl ?_
  obtain ⟨v1, e2, h⟩ := bnd h
  refine mEv.callS (As := [.int p1, .int (nI 3), .int (nI 6)]) (st := []) (r := (some (.int v1))) (μ1 := memM s) lk_X3_36 rfl rfl rfl (A_X3_in (d := d + 0) e2) ?_
  refine mEv.stp 0 (S' := (7, _, [some (.ref 0), some (.int p1), none], [.int v1], memM s)) rfl ?_
  refine mEv.br 1 (S1 := (15, [], [some (.ref 0), some (.int p1), none], [], memM s)) (S2 := (10, _, [some (.ref 0), some (.int p1), none], [], memM s)) rfl (fun c3 => ?_) (fun c3 => ?_)
  · have h := (if_pos c3).symm.trans h
    refine mEv.stp 2 (S' := (16, _, [some (.ref 0), some (.int p1), none], [.ref 0], memM s)) rfl ?_
    obtain ⟨v4, e5, h⟩ := bnd h
    refine mEv.callV (As := []) (st := []) (h := 0) (r := none) (μ1 := memM v4) lk_X3_51 rfl rfl rfl rfl rfl (A_X3_keeps (d := d + 0) e5) ?_
    refine mEv.stp 0 (S' := (19, _, [some (.ref 0), some (.int p1), none], [], memM v4)) rfl ?_
    obtain ⟨g6, h⟩ := gI_some h
    refine mEv.gd 4 (S' := (25, _, [some (.ref 0), some (.int p1), none], [.int ((gM_nw v4) (Int32.toNatClampNeg (nI 0)))], memM v4)) rfl g6 ?_
    refine mEv.stp 3 (S' := (28, _, [some (.ref 0), some (.int p1), some (.int ((gM_nw v4) (Int32.toNatClampNeg (nI 0))))], [.int p1, .ref 0], memM v4)) rfl ?_
    obtain ⟨v7, e8, h⟩ := bnd h
    refine mEv.callV (As := [.int p1]) (st := []) (h := 0) (r := none) (μ1 := memM v7) lk_X3_25 rfl rfl rfl rfl rfl (A_X3_begins (d := d + 0) e8) ?_
    refine mEv.stp 0 (S' := (31, _, [some (.ref 0), some (.int p1), some (.int ((gM_nw v4) (Int32.toNatClampNeg (nI 0))))], [], memM v7)) rfl ?_
    obtain rfl := Option.some.inj h
    exact mEv.stp 1 (S' := (32, _, [some (.ref 0), some (.int p1), some (.int ((gM_nw v4) (Int32.toNatClampNeg (nI 0))))], [.int ((gM_nw v4) (Int32.toNatClampNeg (nI 0)))], memM v7)) rfl (mEv.reti ⟨_, rfl, rfl⟩)
  · have h := (if_neg c3).symm.trans h
    refine mEv.stp 1 (S' := (11, _, [some (.ref 0), some (.int p1), none], [.ref 0], memM s)) rfl ?_
    obtain ⟨v9, e10, h⟩ := bnd h
    refine mEv.callV (As := []) (st := []) (h := 0) (r := (some (.int v9.1))) (μ1 := memM v9.2) lk_X3_47 rfl rfl rfl rfl rfl (A_X3_bads (d := d + 0) e10) ?_
    refine mEv.stp 0 (S' := (14, _, [some (.ref 0), some (.int p1), none], [.int v9.1], memM v9.2)) rfl ?_
    obtain rfl := Option.some.inj h
    exact mEv.reti ⟨_, rfl, rfl⟩
theorem A_X3_towns {d : Nat} {p1 : Int32} {s : ModS} {q : Int32 × ModS} (h : F_X3_towns p1 s = some q) : mCall (d + 1) m_X3_towns [.ref 0, .int p1] (memM s) (some (Value.int q.1)) (memM q.2) := mCall.intro ok_X3_towns pl_X3_towns rfl (E_X3_towns (d := d) h)
def J_X3_link_29  (s : ModS) : Option (Int32 × ModS) := (F_X3_bads s).bind (fun v4 => some ((v4.1, v4.2)))
set_option maxRecDepth 100000 in
theorem K_X3_link_29 {d : Nat}  {s : ModS} {q : Int32 × ModS} (h : J_X3_link_29 s = some q) : mEv (d + 3) m_X3_link none (29, [], [some (.ref 0), none, none, none, none, none, none], [], memM s) (some (Value.int q.1)) (memM q.2) := by
  unfold J_X3_link_29 at h
  refine mEv.stp 2 (S' := (30, _, [some (.ref 0), none, none, none, none, none, none], [.ref 0], memM s)) rfl ?_
  obtain ⟨v4, e5, h⟩ := bnd h
  refine mEv.callV (As := []) (st := []) (h := 0) (r := (some (.int v4.1))) (μ1 := memM v4.2) lk_X3_47 rfl rfl rfl rfl rfl (A_X3_bads (d := d + 2) e5) ?_
  refine mEv.stp 0 (S' := (33, _, [some (.ref 0), none, none, none, none, none, none], [.int v4.1], memM v4.2)) rfl ?_
  obtain rfl := Option.some.inj h
  exact mEv.reti ⟨_, rfl, rfl⟩
def J_X3_link_48 (x1 : Int32) (x2 : Int32) (x4 : Int32) (y0 : Int32) (s : ModS) : Option (Int32 × ModS) := (F_X3_pairOf x1 x2).bind (fun v15 => gI (y0 + v15) 637 (gI (y0 + v15) 637 (some ((((gM_nw s) (Int32.toNatClampNeg (y0 + v15))), (mkM (gM_ss s) (gM_ty s) (gM_at s) (gM_ft s) (gM_mn s) (gM_bd s) (gM_no s) (gM_fu s) (upd (gM_nw s) (Int32.toNatClampNeg (y0 + v15)) x4) (gM_as s) (gM_pa s) (gM_tx s) (gM_od s)))))))
set_option maxRecDepth 100000 in
theorem K_X3_link_48 {d : Nat} {x1 : Int32} {x2 : Int32} {x4 : Int32} {y0 : Int32} {s : ModS} {q : Int32 × ModS} (h : J_X3_link_48 x1 x2 x4 y0 s = some q) : mEv (d + 3) m_X3_link none (48, [], [some (.ref 0), some (.int x1), some (.int x2), none, some (.int x4), none, none], [.int y0], memM s) (some (Value.int q.1)) (memM q.2) := by
  unfold J_X3_link_48 at h
  refine mEv.stp 3 (S' := (50, _, [some (.ref 0), some (.int x1), some (.int x2), none, some (.int x4), none, none], [.int x2, .int x1, .int y0], memM s)) rfl ?_
  obtain ⟨v15, e16, h⟩ := bnd h
  refine mEv.callS (As := [.int x1, .int x2]) (st := [.int y0]) (r := (some (.int v15))) (μ1 := memM s) lk_X3_58 rfl rfl rfl (A_X3_pairOf (d := d + 2) e16) ?_
  refine mEv.stp 0 (S' := (53, _, [some (.ref 0), some (.int x1), some (.int x2), none, some (.int x4), none, none], [.int v15, .int y0], memM s)) rfl ?_
  obtain ⟨g17, h⟩ := gI_some h
  refine mEv.gd 6 (S' := (63, _, [some (.ref 0), some (.int x1), some (.int x2), none, some (.int x4), some (.int (y0 + v15)), none], [.int ((gM_nw s) (Int32.toNatClampNeg (y0 + v15)))], memM s)) rfl g17 ?_
  obtain ⟨g18, h⟩ := gI_some h
  refine mEv.gd 6 (S' := (74, _, [some (.ref 0), some (.int x1), some (.int x2), none, some (.int x4), some (.int (y0 + v15)), some (.int ((gM_nw s) (Int32.toNatClampNeg (y0 + v15))))], [], memMx (gM_ss s) (gM_ty s) (gM_at s) (gM_ft s) (gM_mn s) (gM_bd s) (gM_no s) (gM_fu s) (upd (gM_nw s) (Int32.toNatClampNeg (y0 + v15)) x4) (gM_as s) (gM_pa s) (gM_tx s) (gM_od s))) rfl g18 ?_
  obtain rfl := Option.some.inj h
  exact mEv.tgt memM_mk (mEv.stp 1 (S' := (76, _, [some (.ref 0), some (.int x1), some (.int x2), none, some (.int x4), some (.int (y0 + v15)), some (.int ((gM_nw s) (Int32.toNatClampNeg (y0 + v15))))], [.int ((gM_nw s) (Int32.toNatClampNeg (y0 + v15)))], memMx (gM_ss s) (gM_ty s) (gM_at s) (gM_ft s) (gM_mn s) (gM_bd s) (gM_no s) (gM_fu s) (upd (gM_nw s) (Int32.toNatClampNeg (y0 + v15)) x4) (gM_as s) (gM_pa s) (gM_tx s) (gM_od s))) rfl (mEv.reti ⟨_, rfl, rfl⟩))
def F_X3_link (p1 : Int32) (p2 : Int32) (p3 : Int32) (p4 : Int32) (s : ModS) : Option (Int32 × ModS) := (F_X3_areTowns p1 p2 s).bind (fun v1 => if v1 = (nI 0) then (J_X3_link_29 s) else ((F_X3_in p3 (nI 0) (nI 1)).bind (fun v6 => if v6 = (nI 0) then (J_X3_link_29 s) else ((F_X3_in p4 (nI 0) (nI 30)).bind (fun v9 => if ¬ v9 = (nI 0) then ((F_X3_keeps s).bind (fun v12 => if ¬ p3 = (nI 0) then (J_X3_link_48 p1 p2 p4 (nI 41) v12) else (J_X3_link_48 p1 p2 p4 (nI 5) v12))) else (J_X3_link_29 s))))))
set_option maxRecDepth 100000 in
theorem E_X3_link {d : Nat} {p1 : Int32} {p2 : Int32} {p3 : Int32} {p4 : Int32} {s : ModS} {q : Int32 × ModS} (h : F_X3_link p1 p2 p3 p4 s = some q) : mEv (d + 3) m_X3_link none (0, [], [some (.ref 0), some (.int p1), some (.int p2), some (.int p3), some (.int p4), none, none], [], memM s) (some (Value.int q.1)) (memM q.2) := by
  unfold F_X3_link at h
  refine mEv.stp 4 (S' := (3, _, [some (.ref 0), some (.int p1), some (.int p2), some (.int p3), some (.int p4), none, none], [.int p2, .int p1, .ref 0], memM s)) rfl ?_
  obtain ⟨v1, e2, h⟩ := bnd h
  refine mEv.callV (As := [.int p1, .int p2]) (st := []) (h := 0) (r := (some (.int v1))) (μ1 := memM s) lk_X3_54 rfl rfl rfl rfl rfl (A_X3_areTowns (d := d + 0) e2) ?_
  refine mEv.stp 0 (S' := (6, _, [some (.ref 0), some (.int p1), some (.int p2), some (.int p3), some (.int p4), none, none], [.int v1], memM s)) rfl ?_
  refine mEv.br 1 (S1 := (29, [], [some (.ref 0), some (.int p1), some (.int p2), some (.int p3), some (.int p4), none, none], [], memM s)) (S2 := (9, _, [some (.ref 0), some (.int p1), some (.int p2), some (.int p3), some (.int p4), none, none], [], memM s)) rfl (fun c3 => ?_) (fun c3 => ?_)
  · have h := (if_pos c3).symm.trans h
    refine mEv.fg [1, 2, 3, 4] (z' := [some (.ref 0), none, none, none, none, none, none]) rfl ?_
    exact K_X3_link_29 (d := d) h
  · have h := (if_neg c3).symm.trans h
    refine mEv.stp 3 (S' := (12, _, [some (.ref 0), some (.int p1), some (.int p2), some (.int p3), some (.int p4), none, none], [.int (nI 1), .int (nI 0), .int p3], memM s)) rfl ?_
    obtain ⟨v6, e7, h⟩ := bnd h
    refine mEv.callS (As := [.int p3, .int (nI 0), .int (nI 1)]) (st := []) (r := (some (.int v6))) (μ1 := memM s) lk_X3_36 rfl rfl rfl (A_X3_in (d := d + 2) e7) ?_
    refine mEv.stp 0 (S' := (15, _, [some (.ref 0), some (.int p1), some (.int p2), some (.int p3), some (.int p4), none, none], [.int v6], memM s)) rfl ?_
    refine mEv.br 1 (S1 := (29, [], [some (.ref 0), some (.int p1), some (.int p2), some (.int p3), some (.int p4), none, none], [], memM s)) (S2 := (18, _, [some (.ref 0), some (.int p1), some (.int p2), some (.int p3), some (.int p4), none, none], [], memM s)) rfl (fun c8 => ?_) (fun c8 => ?_)
    · have h := (if_pos c8).symm.trans h
      refine mEv.fg [1, 2, 3, 4] (z' := [some (.ref 0), none, none, none, none, none, none]) rfl ?_
      exact K_X3_link_29 (d := d) h
    · have h := (if_neg c8).symm.trans h
      refine mEv.stp 3 (S' := (23, _, [some (.ref 0), some (.int p1), some (.int p2), some (.int p3), some (.int p4), none, none], [.int (nI 30), .int (nI 0), .int p4], memM s)) rfl ?_
      obtain ⟨v9, e10, h⟩ := bnd h
      refine mEv.callS (As := [.int p4, .int (nI 0), .int (nI 30)]) (st := []) (r := (some (.int v9))) (μ1 := memM s) lk_X3_36 rfl rfl rfl (A_X3_in (d := d + 2) e10) ?_
      refine mEv.stp 0 (S' := (26, _, [some (.ref 0), some (.int p1), some (.int p2), some (.int p3), some (.int p4), none, none], [.int v9], memM s)) rfl ?_
      refine mEv.br 1 (S1 := (34, [], [some (.ref 0), some (.int p1), some (.int p2), some (.int p3), some (.int p4), none, none], [], memM s)) (S2 := (29, [], [some (.ref 0), some (.int p1), some (.int p2), some (.int p3), some (.int p4), none, none], [], memM s)) rfl (fun c11 => ?_) (fun c11 => ?_)
      · have h := (if_pos c11).symm.trans h
        refine mEv.stp 2 (S' := (35, _, [some (.ref 0), some (.int p1), some (.int p2), some (.int p3), some (.int p4), none, none], [.ref 0], memM s)) rfl ?_
        obtain ⟨v12, e13, h⟩ := bnd h
        refine mEv.callV (As := []) (st := []) (h := 0) (r := none) (μ1 := memM v12) lk_X3_51 rfl rfl rfl rfl rfl (A_X3_keeps (d := d + 2) e13) ?_
        refine mEv.stp 0 (S' := (38, _, [some (.ref 0), some (.int p1), some (.int p2), some (.int p3), some (.int p4), none, none], [], memM v12)) rfl ?_
        refine mEv.br 2 (S1 := (46, [], [some (.ref 0), some (.int p1), some (.int p2), some (.int p3), some (.int p4), none, none], [], memM v12)) (S2 := (42, _, [some (.ref 0), some (.int p1), some (.int p2), some (.int p3), some (.int p4), none, none], [], memM v12)) rfl (fun c14 => ?_) (fun c14 => ?_)
        · have h := (if_pos c14).symm.trans h
          refine mEv.stp 2 (S' := (48, [], [some (.ref 0), some (.int p1), some (.int p2), some (.int p3), some (.int p4), none, none], [.int (nI 41)], memM v12)) rfl ?_
          refine mEv.fg [3] (z' := [some (.ref 0), some (.int p1), some (.int p2), none, some (.int p4), none, none]) rfl ?_
          exact K_X3_link_48 (d := d) h
        · have h := (if_neg c14).symm.trans h
          refine mEv.stp 2 (S' := (48, [], [some (.ref 0), some (.int p1), some (.int p2), some (.int p3), some (.int p4), none, none], [.int (nI 5)], memM v12)) rfl ?_
          refine mEv.fg [3] (z' := [some (.ref 0), some (.int p1), some (.int p2), none, some (.int p4), none, none]) rfl ?_
          exact K_X3_link_48 (d := d) h
      · have h := (if_neg c11).symm.trans h
        refine mEv.fg [1, 2, 3, 4] (z' := [some (.ref 0), none, none, none, none, none, none]) rfl ?_
        exact K_X3_link_29 (d := d) h
theorem A_X3_link {d : Nat} {p1 : Int32} {p2 : Int32} {p3 : Int32} {p4 : Int32} {s : ModS} {q : Int32 × ModS} (h : F_X3_link p1 p2 p3 p4 s = some q) : mCall (d + 3) m_X3_link [.ref 0, .int p1, .int p2, .int p3, .int p4] (memM s) (some (Value.int q.1)) (memM q.2) := mCall.intro ok_X3_link pl_X3_link rfl (E_X3_link (d := d) h)
def J_X3_links_19  (s : ModS) : Option (Int32 × ModS) := (F_X3_bads s).bind (fun v4 => some ((v4.1, v4.2)))
set_option maxRecDepth 100000 in
theorem K_X3_links_19 {d : Nat}  {s : ModS} {q : Int32 × ModS} (h : J_X3_links_19 s = some q) : mEv (d + 1) m_X3_links none (19, [], [some (.ref 0), none, none, none], [], memM s) (some (Value.int q.1)) (memM q.2) := by
  unfold J_X3_links_19 at h
  refine mEv.stp 2 (S' := (20, _, [some (.ref 0), none, none, none], [.ref 0], memM s)) rfl ?_
  obtain ⟨v4, e5, h⟩ := bnd h
  refine mEv.callV (As := []) (st := []) (h := 0) (r := (some (.int v4.1))) (μ1 := memM v4.2) lk_X3_47 rfl rfl rfl rfl rfl (A_X3_bads (d := d + 0) e5) ?_
  refine mEv.stp 0 (S' := (23, _, [some (.ref 0), none, none, none], [.int v4.1], memM v4.2)) rfl ?_
  obtain rfl := Option.some.inj h
  exact mEv.reti ⟨_, rfl, rfl⟩
def B_X3_links_30 (x1 : Int32) (x2 : Int32) (x3 : Int32) (s : ModS) : Option ((Int32 × ModS) ⊕ (ModS)) := if (nI 36) ≤ x3 then (some (.inr (s))) else (if ¬ x1 = (nI 0) then (gI ((nI 41) + x3) 637 (some (.inl ((x3 + (nI 1)), (mkM (gM_ss s) (gM_ty s) (gM_at s) (gM_ft s) (gM_mn s) (gM_bd s) (gM_no s) (gM_fu s) (upd (gM_nw s) (Int32.toNatClampNeg ((nI 41) + x3)) x2) (gM_as s) (gM_pa s) (gM_tx s) (gM_od s)))))) else (gI ((nI 5) + x3) 637 (some (.inl ((x3 + (nI 1)), (mkM (gM_ss s) (gM_ty s) (gM_at s) (gM_ft s) (gM_mn s) (gM_bd s) (gM_no s) (gM_fu s) (upd (gM_nw s) (Int32.toNatClampNeg ((nI 5) + x3)) x2) (gM_as s) (gM_pa s) (gM_tx s) (gM_od s)))))))
set_option maxRecDepth 100000 in
theorem H_X3_links_30 {d : Nat} {x1 : Int32} {x2 : Int32} {x3 : Int32} {s : ModS} {q : (Int32 × ModS) ⊕ (ModS)} {r0 : Option Value} {mu0 : MMe} (h : B_X3_links_30 x1 x2 x3 s = some q) (hk : Sum.elim (fun x : Int32 × ModS => mEv (d + 1) m_X3_links none (30, [], [some (.ref 0), some (.int x1), some (.int x2), some (.int x.1)], [], memM x.2) r0 mu0) (fun z : ModS => mEv (d + 1) m_X3_links none (60, [], [some (.ref 0), none, none, none], [], memM z) r0 mu0) q) : mEv (d + 1) m_X3_links none (30, [], [some (.ref 0), some (.int x1), some (.int x2), some (.int x3)], [], memM s) r0 mu0 := by
  unfold B_X3_links_30 at h
  refine mEv.br 4 (S1 := (60, [], [some (.ref 0), some (.int x1), some (.int x2), some (.int x3)], [], memM s)) (S2 := (36, _, [some (.ref 0), some (.int x1), some (.int x2), some (.int x3)], [], memM s)) rfl (fun c11 => ?_) (fun c11 => ?_)
  · have h := (if_pos c11).symm.trans h
    refine mEv.fg [1, 2, 3] (z' := [some (.ref 0), none, none, none]) rfl ?_
    obtain rfl := Option.some.inj h
    exact hk
  · have h := (if_neg c11).symm.trans h
    refine mEv.br 4 (S1 := (48, [], [some (.ref 0), some (.int x1), some (.int x2), some (.int x3)], [.ref 1], memM s)) (S2 := (44, _, [some (.ref 0), some (.int x1), some (.int x2), some (.int x3)], [.ref 1], memM s)) rfl (fun c12 => ?_) (fun c12 => ?_)
    · have h := (if_pos c12).symm.trans h
      obtain ⟨g13, h⟩ := gI_some h
      refine mEv.gd 7 (S' := (54, _, [some (.ref 0), some (.int x1), some (.int x2), some (.int x3)], [], memMx (gM_ss s) (gM_ty s) (gM_at s) (gM_ft s) (gM_mn s) (gM_bd s) (gM_no s) (gM_fu s) (upd (gM_nw s) (Int32.toNatClampNeg ((nI 41) + x3)) x2) (gM_as s) (gM_pa s) (gM_tx s) (gM_od s))) rfl g13 ?_
      refine mEv.stp 2 (S' := (30, [], [some (.ref 0), some (.int x1), some (.int x2), some (.int (x3 + (nI 1)))], [], memMx (gM_ss s) (gM_ty s) (gM_at s) (gM_ft s) (gM_mn s) (gM_bd s) (gM_no s) (gM_fu s) (upd (gM_nw s) (Int32.toNatClampNeg ((nI 41) + x3)) x2) (gM_as s) (gM_pa s) (gM_tx s) (gM_od s))) rfl ?_
      refine mEv.mem memM_mk ?_
      obtain rfl := Option.some.inj h
      exact hk
    · have h := (if_neg c12).symm.trans h
      obtain ⟨g14, h⟩ := gI_some h
      refine mEv.gd 7 (S' := (54, _, [some (.ref 0), some (.int x1), some (.int x2), some (.int x3)], [], memMx (gM_ss s) (gM_ty s) (gM_at s) (gM_ft s) (gM_mn s) (gM_bd s) (gM_no s) (gM_fu s) (upd (gM_nw s) (Int32.toNatClampNeg ((nI 5) + x3)) x2) (gM_as s) (gM_pa s) (gM_tx s) (gM_od s))) rfl g14 ?_
      refine mEv.stp 2 (S' := (30, [], [some (.ref 0), some (.int x1), some (.int x2), some (.int (x3 + (nI 1)))], [], memMx (gM_ss s) (gM_ty s) (gM_at s) (gM_ft s) (gM_mn s) (gM_bd s) (gM_no s) (gM_fu s) (upd (gM_nw s) (Int32.toNatClampNeg ((nI 5) + x3)) x2) (gM_as s) (gM_pa s) (gM_tx s) (gM_od s))) rfl ?_
      refine mEv.mem memM_mk ?_
      obtain rfl := Option.some.inj h
      exact hk
def F_X3_links (p1 : Int32) (p2 : Int32) (s : ModS) : Option (Int32 × ModS) := (F_X3_in p1 (nI 0) (nI 1)).bind (fun v1 => if v1 = (nI 0) then (J_X3_links_19 s) else ((F_X3_in p2 (nI 0) (nI 30)).bind (fun v6 => if ¬ v6 = (nI 0) then ((F_X3_keeps s).bind (fun v9 => (mWh (fun x => B_X3_links_30 p1 p2 x.1 x.2) fuel0 ((nI 0), v9)).bind (fun z15 => gI (nI 0) 637 (gI (nI 0) 637 (gZ (nI 2) (some ((((((gM_nw z15) (Int32.toNatClampNeg (nI 0))) * (((gM_nw z15) (Int32.toNatClampNeg (nI 0))) - (nI 1))) / (nI 2)), z15)))))))) else (J_X3_links_19 s))))
set_option maxRecDepth 100000 in
theorem E_X3_links {d : Nat} {p1 : Int32} {p2 : Int32} {s : ModS} {q : Int32 × ModS} (h : F_X3_links p1 p2 s = some q) : mEv (d + 1) m_X3_links none (0, [], [some (.ref 0), some (.int p1), some (.int p2), none], [], memM s) (some (Value.int q.1)) (memM q.2) := by
  unfold F_X3_links at h
  refine mEv.stp 4 (S' := (3, _, [some (.ref 0), some (.int p1), some (.int p2), none], [.int (nI 1), .int (nI 0), .int p1], memM s)) rfl ?_
  obtain ⟨v1, e2, h⟩ := bnd h
  refine mEv.callS (As := [.int p1, .int (nI 0), .int (nI 1)]) (st := []) (r := (some (.int v1))) (μ1 := memM s) lk_X3_36 rfl rfl rfl (A_X3_in (d := d + 0) e2) ?_
  refine mEv.stp 0 (S' := (6, _, [some (.ref 0), some (.int p1), some (.int p2), none], [.int v1], memM s)) rfl ?_
  refine mEv.br 1 (S1 := (19, [], [some (.ref 0), some (.int p1), some (.int p2), none], [], memM s)) (S2 := (9, _, [some (.ref 0), some (.int p1), some (.int p2), none], [], memM s)) rfl (fun c3 => ?_) (fun c3 => ?_)
  · have h := (if_pos c3).symm.trans h
    refine mEv.fg [1, 2] (z' := [some (.ref 0), none, none, none]) rfl ?_
    exact K_X3_links_19 (d := d) h
  · have h := (if_neg c3).symm.trans h
    refine mEv.stp 3 (S' := (13, _, [some (.ref 0), some (.int p1), some (.int p2), none], [.int (nI 30), .int (nI 0), .int p2], memM s)) rfl ?_
    obtain ⟨v6, e7, h⟩ := bnd h
    refine mEv.callS (As := [.int p2, .int (nI 0), .int (nI 30)]) (st := []) (r := (some (.int v6))) (μ1 := memM s) lk_X3_36 rfl rfl rfl (A_X3_in (d := d + 0) e7) ?_
    refine mEv.stp 0 (S' := (16, _, [some (.ref 0), some (.int p1), some (.int p2), none], [.int v6], memM s)) rfl ?_
    refine mEv.br 1 (S1 := (24, [], [some (.ref 0), some (.int p1), some (.int p2), none], [], memM s)) (S2 := (19, [], [some (.ref 0), some (.int p1), some (.int p2), none], [], memM s)) rfl (fun c8 => ?_) (fun c8 => ?_)
    · have h := (if_pos c8).symm.trans h
      refine mEv.stp 2 (S' := (25, _, [some (.ref 0), some (.int p1), some (.int p2), none], [.ref 0], memM s)) rfl ?_
      obtain ⟨v9, e10, h⟩ := bnd h
      refine mEv.callV (As := []) (st := []) (h := 0) (r := none) (μ1 := memM v9) lk_X3_51 rfl rfl rfl rfl rfl (A_X3_keeps (d := d + 0) e10) ?_
      refine mEv.stp 0 (S' := (28, _, [some (.ref 0), some (.int p1), some (.int p2), none], [], memM v9)) rfl ?_
      refine mEv.stp 2 (S' := (30, [], [some (.ref 0), some (.int p1), some (.int p2), some (.int (nI 0))], [], memM v9)) rfl ?_
      obtain ⟨z15, e16, h⟩ := bnd h
      refine mWh_ind (b := (fun x => B_X3_links_30 p1 p2 x.1 x.2)) (P := fun x : Int32 × ModS => mEv (d + 1) m_X3_links none (30, [], [some (.ref 0), some (.int p1), some (.int p2), some (.int x.1)], [], memM x.2) (some (Value.int q.1)) (memM q.2)) (K := fun z : ModS => mEv (d + 1) m_X3_links none (60, [], [some (.ref 0), none, none, none], [], memM z) (some (Value.int q.1)) (memM q.2)) (fun x u hq hk => H_X3_links_30 (d := d) (x1 := p1) (x2 := p2) (x3 := x.1) (s := x.2) (q := u) (r0 := (some (Value.int q.1))) (mu0 := (memM q.2)) hq hk) fuel0 ((nI 0), v9) z15 e16 ?_
      refine mEv.stp 0 (S' := (60, [], [some (.ref 0), none, none, none], [], memM z15)) rfl ?_
      obtain ⟨g17, h⟩ := gI_some h
      refine mEv.gd 5 (S' := (66, _, [some (.ref 0), none, none, none], [.int ((gM_nw z15) (Int32.toNatClampNeg (nI 0)))], memM z15)) rfl g17 ?_
      obtain ⟨g18, h⟩ := gI_some h
      refine mEv.gd 4 (S' := (72, _, [some (.ref 0), none, none, none], [.int ((gM_nw z15) (Int32.toNatClampNeg (nI 0))), .int ((gM_nw z15) (Int32.toNatClampNeg (nI 0)))], memM z15)) rfl g18 ?_
      obtain ⟨g19, h⟩ := gZ_some h
      refine mEv.gd 5 (S' := (77, _, [some (.ref 0), none, none, none], [.int ((((gM_nw z15) (Int32.toNatClampNeg (nI 0))) * (((gM_nw z15) (Int32.toNatClampNeg (nI 0))) - (nI 1))) / (nI 2))], memM z15)) rfl g19 ?_
      obtain rfl := Option.some.inj h
      exact mEv.reti ⟨_, rfl, rfl⟩
    · have h := (if_neg c8).symm.trans h
      refine mEv.fg [1, 2] (z' := [some (.ref 0), none, none, none]) rfl ?_
      exact K_X3_links_19 (d := d) h
theorem A_X3_links {d : Nat} {p1 : Int32} {p2 : Int32} {s : ModS} {q : Int32 × ModS} (h : F_X3_links p1 p2 s = some q) : mCall (d + 1) m_X3_links [.ref 0, .int p1, .int p2] (memM s) (some (Value.int q.1)) (memM q.2) := mCall.intro ok_X3_links pl_X3_links rfl (E_X3_links (d := d) h)
def F_X3_back (p1 : Int32) (s : ModS) : Option (Int32 × ModS) := (F_X3_in p1 (nI 0) (nI 1)).bind (fun v1 => if ¬ v1 = (nI 0) then ((F_X3_keeps s).bind (fun v4 => gI (nI 1) 637 (gI (nI 1) 637 (some ((((gM_nw v4) (Int32.toNatClampNeg (nI 1))), (mkM (gM_ss v4) (gM_ty v4) (gM_at v4) (gM_ft v4) (gM_mn v4) (gM_bd v4) (gM_no v4) (gM_fu v4) (upd (gM_nw v4) (Int32.toNatClampNeg (nI 1)) p1) (gM_as v4) (gM_pa v4) (gM_tx v4) (gM_od v4)))))))) else ((F_X3_bads s).bind (fun v8 => some ((v8.1, v8.2)))))
set_option maxRecDepth 100000 in
theorem E_X3_back {d : Nat} {p1 : Int32} {s : ModS} {q : Int32 × ModS} (h : F_X3_back p1 s = some q) : mEv (d + 1) m_X3_back none (0, [], [some (.ref 0), some (.int p1), none], [], memM s) (some (Value.int q.1)) (memM q.2) := by
  unfold F_X3_back at h
  refine mEv.stp 4 (S' := (3, _, [some (.ref 0), some (.int p1), none], [.int (nI 1), .int (nI 0), .int p1], memM s)) rfl ?_
  obtain ⟨v1, e2, h⟩ := bnd h
  refine mEv.callS (As := [.int p1, .int (nI 0), .int (nI 1)]) (st := []) (r := (some (.int v1))) (μ1 := memM s) lk_X3_36 rfl rfl rfl (A_X3_in (d := d + 0) e2) ?_
  refine mEv.stp 0 (S' := (6, _, [some (.ref 0), some (.int p1), none], [.int v1], memM s)) rfl ?_
  refine mEv.br 1 (S1 := (14, [], [some (.ref 0), some (.int p1), none], [], memM s)) (S2 := (9, _, [some (.ref 0), some (.int p1), none], [], memM s)) rfl (fun c3 => ?_) (fun c3 => ?_)
  · have h := (if_pos c3).symm.trans h
    refine mEv.stp 2 (S' := (15, _, [some (.ref 0), some (.int p1), none], [.ref 0], memM s)) rfl ?_
    obtain ⟨v4, e5, h⟩ := bnd h
    refine mEv.callV (As := []) (st := []) (h := 0) (r := none) (μ1 := memM v4) lk_X3_51 rfl rfl rfl rfl rfl (A_X3_keeps (d := d + 0) e5) ?_
    refine mEv.stp 0 (S' := (18, _, [some (.ref 0), some (.int p1), none], [], memM v4)) rfl ?_
    obtain ⟨g6, h⟩ := gI_some h
    refine mEv.gd 4 (S' := (24, _, [some (.ref 0), some (.int p1), none], [.int ((gM_nw v4) (Int32.toNatClampNeg (nI 1)))], memM v4)) rfl g6 ?_
    obtain ⟨g7, h⟩ := gI_some h
    refine mEv.gd 6 (S' := (32, _, [some (.ref 0), some (.int p1), some (.int ((gM_nw v4) (Int32.toNatClampNeg (nI 1))))], [], memMx (gM_ss v4) (gM_ty v4) (gM_at v4) (gM_ft v4) (gM_mn v4) (gM_bd v4) (gM_no v4) (gM_fu v4) (upd (gM_nw v4) (Int32.toNatClampNeg (nI 1)) p1) (gM_as v4) (gM_pa v4) (gM_tx v4) (gM_od v4))) rfl g7 ?_
    obtain rfl := Option.some.inj h
    exact mEv.tgt memM_mk (mEv.stp 1 (S' := (33, _, [some (.ref 0), some (.int p1), some (.int ((gM_nw v4) (Int32.toNatClampNeg (nI 1))))], [.int ((gM_nw v4) (Int32.toNatClampNeg (nI 1)))], memMx (gM_ss v4) (gM_ty v4) (gM_at v4) (gM_ft v4) (gM_mn v4) (gM_bd v4) (gM_no v4) (gM_fu v4) (upd (gM_nw v4) (Int32.toNatClampNeg (nI 1)) p1) (gM_as v4) (gM_pa v4) (gM_tx v4) (gM_od v4))) rfl (mEv.reti ⟨_, rfl, rfl⟩))
  · have h := (if_neg c3).symm.trans h
    refine mEv.stp 1 (S' := (10, _, [some (.ref 0), some (.int p1), none], [.ref 0], memM s)) rfl ?_
    obtain ⟨v8, e9, h⟩ := bnd h
    refine mEv.callV (As := []) (st := []) (h := 0) (r := (some (.int v8.1))) (μ1 := memM v8.2) lk_X3_47 rfl rfl rfl rfl rfl (A_X3_bads (d := d + 0) e9) ?_
    refine mEv.stp 0 (S' := (13, _, [some (.ref 0), some (.int p1), none], [.int v8.1], memM v8.2)) rfl ?_
    obtain rfl := Option.some.inj h
    exact mEv.reti ⟨_, rfl, rfl⟩
theorem A_X3_back {d : Nat} {p1 : Int32} {s : ModS} {q : Int32 × ModS} (h : F_X3_back p1 s = some q) : mCall (d + 1) m_X3_back [.ref 0, .int p1] (memM s) (some (Value.int q.1)) (memM q.2) := mCall.intro ok_X3_back pl_X3_back rfl (E_X3_back (d := d) h)
def J_X3_load_20  (s : ModS) : Option (Int32 × ModS) := (F_X3_bads s).bind (fun v4 => some ((v4.1, v4.2)))
set_option maxRecDepth 100000 in
theorem K_X3_load_20 {d : Nat}  {s : ModS} {q : Int32 × ModS} (h : J_X3_load_20 s = some q) : mEv (d + 1) m_X3_load none (20, [], [some (.ref 0), none, none, none], [], memM s) (some (Value.int q.1)) (memM q.2) := by
  unfold J_X3_load_20 at h
  refine mEv.stp 2 (S' := (21, _, [some (.ref 0), none, none, none], [.ref 0], memM s)) rfl ?_
  obtain ⟨v4, e5, h⟩ := bnd h
  refine mEv.callV (As := []) (st := []) (h := 0) (r := (some (.int v4.1))) (μ1 := memM v4.2) lk_X3_47 rfl rfl rfl rfl rfl (A_X3_bads (d := d + 0) e5) ?_
  refine mEv.stp 0 (S' := (24, _, [some (.ref 0), none, none, none], [.int v4.1], memM v4.2)) rfl ?_
  obtain rfl := Option.some.inj h
  exact mEv.reti ⟨_, rfl, rfl⟩
def F_X3_load (p1 : Int32) (p2 : Int32) (s : ModS) : Option (Int32 × ModS) := (F_X3_in p1 (nI 0) (nI 23)).bind (fun v1 => if v1 = (nI 0) then (J_X3_load_20 s) else ((F_X3_in p2 (nI 0) (nI 9)).bind (fun v6 => if ¬ v6 = (nI 0) then ((F_X3_keeps s).bind (fun v9 => gI ((nI 293) + p1) 637 (gI ((nI 293) + p1) 637 (some ((((gM_nw v9) (Int32.toNatClampNeg ((nI 293) + p1))), (mkM (gM_ss v9) (gM_ty v9) (gM_at v9) (gM_ft v9) (gM_mn v9) (gM_bd v9) (gM_no v9) (gM_fu v9) (upd (gM_nw v9) (Int32.toNatClampNeg ((nI 293) + p1)) p2) (gM_as v9) (gM_pa v9) (gM_tx v9) (gM_od v9)))))))) else (J_X3_load_20 s))))
set_option maxRecDepth 100000 in
theorem E_X3_load {d : Nat} {p1 : Int32} {p2 : Int32} {s : ModS} {q : Int32 × ModS} (h : F_X3_load p1 p2 s = some q) : mEv (d + 1) m_X3_load none (0, [], [some (.ref 0), some (.int p1), some (.int p2), none], [], memM s) (some (Value.int q.1)) (memM q.2) := by
  unfold F_X3_load at h
  refine mEv.stp 4 (S' := (4, _, [some (.ref 0), some (.int p1), some (.int p2), none], [.int (nI 23), .int (nI 0), .int p1], memM s)) rfl ?_
  obtain ⟨v1, e2, h⟩ := bnd h
  refine mEv.callS (As := [.int p1, .int (nI 0), .int (nI 23)]) (st := []) (r := (some (.int v1))) (μ1 := memM s) lk_X3_36 rfl rfl rfl (A_X3_in (d := d + 0) e2) ?_
  refine mEv.stp 0 (S' := (7, _, [some (.ref 0), some (.int p1), some (.int p2), none], [.int v1], memM s)) rfl ?_
  refine mEv.br 1 (S1 := (20, [], [some (.ref 0), some (.int p1), some (.int p2), none], [], memM s)) (S2 := (10, _, [some (.ref 0), some (.int p1), some (.int p2), none], [], memM s)) rfl (fun c3 => ?_) (fun c3 => ?_)
  · have h := (if_pos c3).symm.trans h
    refine mEv.fg [1, 2] (z' := [some (.ref 0), none, none, none]) rfl ?_
    exact K_X3_load_20 (d := d) h
  · have h := (if_neg c3).symm.trans h
    refine mEv.stp 3 (S' := (14, _, [some (.ref 0), some (.int p1), some (.int p2), none], [.int (nI 9), .int (nI 0), .int p2], memM s)) rfl ?_
    obtain ⟨v6, e7, h⟩ := bnd h
    refine mEv.callS (As := [.int p2, .int (nI 0), .int (nI 9)]) (st := []) (r := (some (.int v6))) (μ1 := memM s) lk_X3_36 rfl rfl rfl (A_X3_in (d := d + 0) e7) ?_
    refine mEv.stp 0 (S' := (17, _, [some (.ref 0), some (.int p1), some (.int p2), none], [.int v6], memM s)) rfl ?_
    refine mEv.br 1 (S1 := (25, [], [some (.ref 0), some (.int p1), some (.int p2), none], [], memM s)) (S2 := (20, [], [some (.ref 0), some (.int p1), some (.int p2), none], [], memM s)) rfl (fun c8 => ?_) (fun c8 => ?_)
    · have h := (if_pos c8).symm.trans h
      refine mEv.stp 2 (S' := (26, _, [some (.ref 0), some (.int p1), some (.int p2), none], [.ref 0], memM s)) rfl ?_
      obtain ⟨v9, e10, h⟩ := bnd h
      refine mEv.callV (As := []) (st := []) (h := 0) (r := none) (μ1 := memM v9) lk_X3_51 rfl rfl rfl rfl rfl (A_X3_keeps (d := d + 0) e10) ?_
      refine mEv.stp 0 (S' := (29, _, [some (.ref 0), some (.int p1), some (.int p2), none], [], memM v9)) rfl ?_
      obtain ⟨g11, h⟩ := gI_some h
      refine mEv.gd 6 (S' := (39, _, [some (.ref 0), some (.int p1), some (.int p2), none], [.int ((gM_nw v9) (Int32.toNatClampNeg ((nI 293) + p1)))], memM v9)) rfl g11 ?_
      obtain ⟨g12, h⟩ := gI_some h
      refine mEv.gd 8 (S' := (51, _, [some (.ref 0), some (.int p1), some (.int p2), some (.int ((gM_nw v9) (Int32.toNatClampNeg ((nI 293) + p1))))], [], memMx (gM_ss v9) (gM_ty v9) (gM_at v9) (gM_ft v9) (gM_mn v9) (gM_bd v9) (gM_no v9) (gM_fu v9) (upd (gM_nw v9) (Int32.toNatClampNeg ((nI 293) + p1)) p2) (gM_as v9) (gM_pa v9) (gM_tx v9) (gM_od v9))) rfl g12 ?_
      obtain rfl := Option.some.inj h
      exact mEv.tgt memM_mk (mEv.stp 1 (S' := (52, _, [some (.ref 0), some (.int p1), some (.int p2), some (.int ((gM_nw v9) (Int32.toNatClampNeg ((nI 293) + p1))))], [.int ((gM_nw v9) (Int32.toNatClampNeg ((nI 293) + p1)))], memMx (gM_ss v9) (gM_ty v9) (gM_at v9) (gM_ft v9) (gM_mn v9) (gM_bd v9) (gM_no v9) (gM_fu v9) (upd (gM_nw v9) (Int32.toNatClampNeg ((nI 293) + p1)) p2) (gM_as v9) (gM_pa v9) (gM_tx v9) (gM_od v9))) rfl (mEv.reti ⟨_, rfl, rfl⟩))
    · have h := (if_neg c8).symm.trans h
      refine mEv.fg [1, 2] (z' := [some (.ref 0), none, none, none]) rfl ?_
      exact K_X3_load_20 (d := d) h
theorem A_X3_load {d : Nat} {p1 : Int32} {p2 : Int32} {s : ModS} {q : Int32 × ModS} (h : F_X3_load p1 p2 s = some q) : mCall (d + 1) m_X3_load [.ref 0, .int p1, .int p2] (memM s) (some (Value.int q.1)) (memM q.2) := mCall.intro ok_X3_load pl_X3_load rfl (E_X3_load (d := d) h)
def F_X3_seed (p1 : Int32) (s : ModS) : Option (Int32 × ModS) := (F_X3_in p1 (nI 0) (nI 999999)).bind (fun v1 => if ¬ v1 = (nI 0) then ((F_X3_keeps s).bind (fun v4 => gI (nI 2) 637 (some (((nI 1), (mkM (gM_ss v4) (gM_ty v4) (gM_at v4) (gM_ft v4) (gM_mn v4) (gM_bd v4) (gM_no v4) (gM_fu v4) (upd (gM_nw v4) (Int32.toNatClampNeg (nI 2)) p1) (gM_as v4) (gM_pa v4) (gM_tx v4) (gM_od v4))))))) else ((F_X3_bads s).bind (fun v7 => some ((v7.1, v7.2)))))
set_option maxRecDepth 100000 in
theorem E_X3_seed {d : Nat} {p1 : Int32} {s : ModS} {q : Int32 × ModS} (h : F_X3_seed p1 s = some q) : mEv (d + 1) m_X3_seed none (0, [], [some (.ref 0), some (.int p1)], [], memM s) (some (Value.int q.1)) (memM q.2) := by
  unfold F_X3_seed at h
  refine mEv.stp 4 (S' := (4, _, [some (.ref 0), some (.int p1)], [.int (nI 999999), .int (nI 0), .int p1], memM s)) rfl ?_
  obtain ⟨v1, e2, h⟩ := bnd h
  refine mEv.callS (As := [.int p1, .int (nI 0), .int (nI 999999)]) (st := []) (r := (some (.int v1))) (μ1 := memM s) lk_X3_36 rfl rfl rfl (A_X3_in (d := d + 0) e2) ?_
  refine mEv.stp 0 (S' := (7, _, [some (.ref 0), some (.int p1)], [.int v1], memM s)) rfl ?_
  refine mEv.br 1 (S1 := (15, [], [some (.ref 0), some (.int p1)], [], memM s)) (S2 := (10, _, [some (.ref 0), some (.int p1)], [], memM s)) rfl (fun c3 => ?_) (fun c3 => ?_)
  · have h := (if_pos c3).symm.trans h
    refine mEv.stp 2 (S' := (16, _, [some (.ref 0), some (.int p1)], [.ref 0], memM s)) rfl ?_
    obtain ⟨v4, e5, h⟩ := bnd h
    refine mEv.callV (As := []) (st := []) (h := 0) (r := none) (μ1 := memM v4) lk_X3_51 rfl rfl rfl rfl rfl (A_X3_keeps (d := d + 0) e5) ?_
    refine mEv.stp 0 (S' := (19, _, [some (.ref 0), some (.int p1)], [], memM v4)) rfl ?_
    obtain ⟨g6, h⟩ := gI_some h
    refine mEv.gd 5 (S' := (26, _, [some (.ref 0), some (.int p1)], [], memMx (gM_ss v4) (gM_ty v4) (gM_at v4) (gM_ft v4) (gM_mn v4) (gM_bd v4) (gM_no v4) (gM_fu v4) (upd (gM_nw v4) (Int32.toNatClampNeg (nI 2)) p1) (gM_as v4) (gM_pa v4) (gM_tx v4) (gM_od v4))) rfl g6 ?_
    obtain rfl := Option.some.inj h
    exact mEv.tgt memM_mk (mEv.stp 1 (S' := (27, _, [some (.ref 0), some (.int p1)], [.int (nI 1)], memMx (gM_ss v4) (gM_ty v4) (gM_at v4) (gM_ft v4) (gM_mn v4) (gM_bd v4) (gM_no v4) (gM_fu v4) (upd (gM_nw v4) (Int32.toNatClampNeg (nI 2)) p1) (gM_as v4) (gM_pa v4) (gM_tx v4) (gM_od v4))) rfl (mEv.reti ⟨_, rfl, rfl⟩))
  · have h := (if_neg c3).symm.trans h
    refine mEv.stp 1 (S' := (11, _, [some (.ref 0), some (.int p1)], [.ref 0], memM s)) rfl ?_
    obtain ⟨v7, e8, h⟩ := bnd h
    refine mEv.callV (As := []) (st := []) (h := 0) (r := (some (.int v7.1))) (μ1 := memM v7.2) lk_X3_47 rfl rfl rfl rfl rfl (A_X3_bads (d := d + 0) e8) ?_
    refine mEv.stp 0 (S' := (14, _, [some (.ref 0), some (.int p1)], [.int v7.1], memM v7.2)) rfl ?_
    obtain rfl := Option.some.inj h
    exact mEv.reti ⟨_, rfl, rfl⟩
theorem A_X3_seed {d : Nat} {p1 : Int32} {s : ModS} {q : Int32 × ModS} (h : F_X3_seed p1 s = some q) : mCall (d + 1) m_X3_seed [.ref 0, .int p1] (memM s) (some (Value.int q.1)) (memM q.2) := mCall.intro ok_X3_seed pl_X3_seed rfl (E_X3_seed (d := d) h)
def J_X3_holding_140 (x1 : Int32) (x2 : Int32) (x3 : Int32) (x5 : Int32) (x11 : Int32) (y0 : Int32) (s : ModS) : Option ((Int32 × Int32) ⊕ (Int32)) := if x3 = (nI 1) then (some (.inl ((y0 + (nI 0)), (x5 + (nI 1))))) else (if x11 = (nI 0) then (some (.inl ((y0 + (nI 0)), (x5 + (nI 1))))) else (some (.inl ((y0 + (nI 1)), (x5 + (nI 1))))))
set_option maxRecDepth 100000 in
theorem K_X3_holding_140 {d : Nat} {x1 : Int32} {x2 : Int32} {x3 : Int32} {x5 : Int32} {x11 : Int32} {y0 : Int32} {s : ModS} {q : (Int32 × Int32) ⊕ (Int32)} {r0 : Option Value} {mu0 : MMe} (h : J_X3_holding_140 x1 x2 x3 x5 x11 y0 s = some q) (hk : Sum.elim (fun x : Int32 × Int32 => mEv (d + 1) m_X3_holding none (6, [], [some (.ref 0), some (.int x1), some (.int x2), some (.int x3), some (.int x.1), some (.int x.2), none, none, none, none, none, none], [], memM s) r0 mu0) (fun z : Int32 => mEv (d + 1) m_X3_holding none (164, [], [none, none, none, none, some (.int z), none, none, none, none, none, none, none], [], memM s) r0 mu0) q) : mEv (d + 1) m_X3_holding none (140, [], [some (.ref 0), some (.int x1), some (.int x2), some (.int x3), none, some (.int x5), none, none, none, none, none, some (.int x11)], [.int y0], memM s) r0 mu0 := by
  unfold J_X3_holding_140 at h
  refine mEv.br 4 (S1 := (154, [], [some (.ref 0), some (.int x1), some (.int x2), some (.int x3), none, some (.int x5), none, none, none, none, none, some (.int x11)], [.int y0], memM s)) (S2 := (145, _, [some (.ref 0), some (.int x1), some (.int x2), some (.int x3), none, some (.int x5), none, none, none, none, none, some (.int x11)], [.int y0], memM s)) rfl (fun c9 => ?_) (fun c9 => ?_)
  · have h := (if_pos c9).symm.trans h
    refine mEv.stp 7 (S' := (6, [], [some (.ref 0), some (.int x1), some (.int x2), some (.int x3), some (.int (y0 + (nI 0))), some (.int (x5 + (nI 1))), none, none, none, none, none, some (.int x11)], [], memM s)) rfl ?_
    refine mEv.fg [11] (z' := [some (.ref 0), some (.int x1), some (.int x2), some (.int x3), some (.int (y0 + (nI 0))), some (.int (x5 + (nI 1))), none, none, none, none, none, none]) rfl ?_
    obtain rfl := Option.some.inj h
    exact hk
  · have h := (if_neg c9).symm.trans h
    refine mEv.br 2 (S1 := (154, [], [some (.ref 0), some (.int x1), some (.int x2), some (.int x3), none, some (.int x5), none, none, none, none, none, some (.int x11)], [.int y0], memM s)) (S2 := (150, [], [some (.ref 0), some (.int x1), some (.int x2), some (.int x3), none, some (.int x5), none, none, none, none, none, some (.int x11)], [.int y0], memM s)) rfl (fun c10 => ?_) (fun c10 => ?_)
    · have h := (if_pos c10).symm.trans h
      refine mEv.stp 7 (S' := (6, [], [some (.ref 0), some (.int x1), some (.int x2), some (.int x3), some (.int (y0 + (nI 0))), some (.int (x5 + (nI 1))), none, none, none, none, none, some (.int x11)], [], memM s)) rfl ?_
      refine mEv.fg [11] (z' := [some (.ref 0), some (.int x1), some (.int x2), some (.int x3), some (.int (y0 + (nI 0))), some (.int (x5 + (nI 1))), none, none, none, none, none, none]) rfl ?_
      obtain rfl := Option.some.inj h
      exact hk
    · have h := (if_neg c10).symm.trans h
      refine mEv.stp 8 (S' := (6, [], [some (.ref 0), some (.int x1), some (.int x2), some (.int x3), some (.int (y0 + (nI 1))), some (.int (x5 + (nI 1))), none, none, none, none, none, some (.int x11)], [], memM s)) rfl ?_
      refine mEv.fg [11] (z' := [some (.ref 0), some (.int x1), some (.int x2), some (.int x3), some (.int (y0 + (nI 1))), some (.int (x5 + (nI 1))), none, none, none, none, none, none]) rfl ?_
      obtain rfl := Option.some.inj h
      exact hk
def J_X3_holding_127 (x1 : Int32) (x2 : Int32) (x3 : Int32) (x4 : Int32) (x5 : Int32) (x10 : Int32) (y0 : Int32) (s : ModS) : Option ((Int32 × Int32) ⊕ (Int32)) := if x3 = (nI 0) then (J_X3_holding_140 x1 x2 x3 x5 y0 x4 s) else (if ¬ x10 = (nI 0) then (some (.inl ((x4 + (nI 1)), (x5 + (nI 1))))) else (J_X3_holding_140 x1 x2 x3 x5 y0 x4 s))
set_option maxRecDepth 100000 in
theorem K_X3_holding_127 {d : Nat} {x1 : Int32} {x2 : Int32} {x3 : Int32} {x4 : Int32} {x5 : Int32} {x10 : Int32} {y0 : Int32} {s : ModS} {q : (Int32 × Int32) ⊕ (Int32)} {r0 : Option Value} {mu0 : MMe} (h : J_X3_holding_127 x1 x2 x3 x4 x5 x10 y0 s = some q) (hk : Sum.elim (fun x : Int32 × Int32 => mEv (d + 1) m_X3_holding none (6, [], [some (.ref 0), some (.int x1), some (.int x2), some (.int x3), some (.int x.1), some (.int x.2), none, none, none, none, none, none], [], memM s) r0 mu0) (fun z : Int32 => mEv (d + 1) m_X3_holding none (164, [], [none, none, none, none, some (.int z), none, none, none, none, none, none, none], [], memM s) r0 mu0) q) : mEv (d + 1) m_X3_holding none (127, [], [some (.ref 0), some (.int x1), some (.int x2), some (.int x3), some (.int x4), some (.int x5), none, none, none, none, some (.int x10), none], [.int y0], memM s) r0 mu0 := by
  unfold J_X3_holding_127 at h
  refine mEv.br 5 (S1 := (140, [], [some (.ref 0), some (.int x1), some (.int x2), some (.int x3), some (.int x4), some (.int x5), none, none, none, none, some (.int x10), some (.int y0)], [.int x4], memM s)) (S2 := (135, _, [some (.ref 0), some (.int x1), some (.int x2), some (.int x3), some (.int x4), some (.int x5), none, none, none, none, some (.int x10), some (.int y0)], [.int x4], memM s)) rfl (fun c8 => ?_) (fun c8 => ?_)
  · have h := (if_pos c8).symm.trans h
    refine mEv.fg [4, 10] (z' := [some (.ref 0), some (.int x1), some (.int x2), some (.int x3), none, some (.int x5), none, none, none, none, none, some (.int y0)]) rfl ?_
    exact K_X3_holding_140 (d := d) h hk
  · have h := (if_neg c8).symm.trans h
    refine mEv.br 2 (S1 := (150, [], [some (.ref 0), some (.int x1), some (.int x2), some (.int x3), some (.int x4), some (.int x5), none, none, none, none, some (.int x10), some (.int y0)], [.int x4], memM s)) (S2 := (140, [], [some (.ref 0), some (.int x1), some (.int x2), some (.int x3), some (.int x4), some (.int x5), none, none, none, none, some (.int x10), some (.int y0)], [.int x4], memM s)) rfl (fun c11 => ?_) (fun c11 => ?_)
    · have h := (if_pos c11).symm.trans h
      refine mEv.stp 8 (S' := (6, [], [some (.ref 0), some (.int x1), some (.int x2), some (.int x3), some (.int (x4 + (nI 1))), some (.int (x5 + (nI 1))), none, none, none, none, some (.int x10), some (.int y0)], [], memM s)) rfl ?_
      refine mEv.fg [10, 11] (z' := [some (.ref 0), some (.int x1), some (.int x2), some (.int x3), some (.int (x4 + (nI 1))), some (.int (x5 + (nI 1))), none, none, none, none, none, none]) rfl ?_
      obtain rfl := Option.some.inj h
      exact hk
    · have h := (if_neg c11).symm.trans h
      refine mEv.fg [4, 10] (z' := [some (.ref 0), some (.int x1), some (.int x2), some (.int x3), none, some (.int x5), none, none, none, none, none, some (.int y0)]) rfl ?_
      exact K_X3_holding_140 (d := d) h hk
def J_X3_holding_126 (x1 : Int32) (x2 : Int32) (x3 : Int32) (x4 : Int32) (x5 : Int32) (x10 : Int32) (s : ModS) : Option ((Int32 × Int32) ⊕ (Int32)) := J_X3_holding_127 x1 x2 x3 x4 x5 x10 (nI 0) s
set_option maxRecDepth 100000 in
theorem K_X3_holding_126 {d : Nat} {x1 : Int32} {x2 : Int32} {x3 : Int32} {x4 : Int32} {x5 : Int32} {x10 : Int32} {s : ModS} {q : (Int32 × Int32) ⊕ (Int32)} {r0 : Option Value} {mu0 : MMe} (h : J_X3_holding_126 x1 x2 x3 x4 x5 x10 s = some q) (hk : Sum.elim (fun x : Int32 × Int32 => mEv (d + 1) m_X3_holding none (6, [], [some (.ref 0), some (.int x1), some (.int x2), some (.int x3), some (.int x.1), some (.int x.2), none, none, none, none, none, none], [], memM s) r0 mu0) (fun z : Int32 => mEv (d + 1) m_X3_holding none (164, [], [none, none, none, none, some (.int z), none, none, none, none, none, none, none], [], memM s) r0 mu0) q) : mEv (d + 1) m_X3_holding none (126, [], [some (.ref 0), some (.int x1), some (.int x2), some (.int x3), some (.int x4), some (.int x5), none, none, none, none, some (.int x10), none], [], memM s) r0 mu0 := by
  unfold J_X3_holding_126 at h
  refine mEv.stp 2 (S' := (127, [], [some (.ref 0), some (.int x1), some (.int x2), some (.int x3), some (.int x4), some (.int x5), none, none, none, none, some (.int x10), none], [.int (nI 0)], memM s)) rfl ?_
  exact K_X3_holding_127 (d := d) h hk
def J_X3_holding_122 (x1 : Int32) (x2 : Int32) (x3 : Int32) (x4 : Int32) (x5 : Int32) (x10 : Int32) (s : ModS) : Option ((Int32 × Int32) ⊕ (Int32)) := J_X3_holding_127 x1 x2 x3 x4 x5 x10 (nI 1) s
set_option maxRecDepth 100000 in
theorem K_X3_holding_122 {d : Nat} {x1 : Int32} {x2 : Int32} {x3 : Int32} {x4 : Int32} {x5 : Int32} {x10 : Int32} {s : ModS} {q : (Int32 × Int32) ⊕ (Int32)} {r0 : Option Value} {mu0 : MMe} (h : J_X3_holding_122 x1 x2 x3 x4 x5 x10 s = some q) (hk : Sum.elim (fun x : Int32 × Int32 => mEv (d + 1) m_X3_holding none (6, [], [some (.ref 0), some (.int x1), some (.int x2), some (.int x3), some (.int x.1), some (.int x.2), none, none, none, none, none, none], [], memM s) r0 mu0) (fun z : Int32 => mEv (d + 1) m_X3_holding none (164, [], [none, none, none, none, some (.int z), none, none, none, none, none, none, none], [], memM s) r0 mu0) q) : mEv (d + 1) m_X3_holding none (122, [], [some (.ref 0), some (.int x1), some (.int x2), some (.int x3), some (.int x4), some (.int x5), none, none, none, none, some (.int x10), none], [], memM s) r0 mu0 := by
  unfold J_X3_holding_122 at h
  refine mEv.stp 3 (S' := (127, [], [some (.ref 0), some (.int x1), some (.int x2), some (.int x3), some (.int x4), some (.int x5), none, none, none, none, some (.int x10), none], [.int (nI 1)], memM s)) rfl ?_
  exact K_X3_holding_127 (d := d) h hk
def J_X3_holding_84 (x1 : Int32) (x2 : Int32) (x3 : Int32) (x4 : Int32) (x5 : Int32) (x7 : Int32) (x8 : Int32) (x9 : Int32) (y0 : Int32) (s : ModS) : Option ((Int32 × Int32) ⊕ (Int32)) := if x9 = (-nI 1) then (J_X3_holding_126 x1 x2 x3 x4 x5 y0 s) else ((F_X3_pairOf x7 x9).bind (fun v12 => (F_X3_pairOf x1 x2).bind (fun v14 => if v12 = v14 then (J_X3_holding_122 x1 x2 x3 x4 x5 y0 s) else ((F_X3_pairOf x9 x8).bind (fun v17 => (F_X3_pairOf x1 x2).bind (fun v19 => if ¬ v17 = v19 then (J_X3_holding_126 x1 x2 x3 x4 x5 y0 s) else (J_X3_holding_122 x1 x2 x3 x4 x5 y0 s)))))))
set_option maxRecDepth 100000 in
theorem K_X3_holding_84 {d : Nat} {x1 : Int32} {x2 : Int32} {x3 : Int32} {x4 : Int32} {x5 : Int32} {x7 : Int32} {x8 : Int32} {x9 : Int32} {y0 : Int32} {s : ModS} {q : (Int32 × Int32) ⊕ (Int32)} {r0 : Option Value} {mu0 : MMe} (h : J_X3_holding_84 x1 x2 x3 x4 x5 x7 x8 x9 y0 s = some q) (hk : Sum.elim (fun x : Int32 × Int32 => mEv (d + 1) m_X3_holding none (6, [], [some (.ref 0), some (.int x1), some (.int x2), some (.int x3), some (.int x.1), some (.int x.2), none, none, none, none, none, none], [], memM s) r0 mu0) (fun z : Int32 => mEv (d + 1) m_X3_holding none (164, [], [none, none, none, none, some (.int z), none, none, none, none, none, none, none], [], memM s) r0 mu0) q) : mEv (d + 1) m_X3_holding none (84, [], [some (.ref 0), some (.int x1), some (.int x2), some (.int x3), some (.int x4), some (.int x5), none, some (.int x7), some (.int x8), some (.int x9), none, none], [.int y0], memM s) r0 mu0 := by
  unfold J_X3_holding_84 at h
  refine mEv.br 5 (S1 := (126, [], [some (.ref 0), some (.int x1), some (.int x2), some (.int x3), some (.int x4), some (.int x5), none, some (.int x7), some (.int x8), some (.int x9), some (.int y0), none], [], memM s)) (S2 := (92, _, [some (.ref 0), some (.int x1), some (.int x2), some (.int x3), some (.int x4), some (.int x5), none, some (.int x7), some (.int x8), some (.int x9), some (.int y0), none], [], memM s)) rfl (fun c7 => ?_) (fun c7 => ?_)
  · have h := (if_pos c7).symm.trans h
    refine mEv.fg [7, 8, 9] (z' := [some (.ref 0), some (.int x1), some (.int x2), some (.int x3), some (.int x4), some (.int x5), none, none, none, none, some (.int y0), none]) rfl ?_
    exact K_X3_holding_126 (d := d) h hk
  · have h := (if_neg c7).symm.trans h
    refine mEv.stp 2 (S' := (96, _, [some (.ref 0), some (.int x1), some (.int x2), some (.int x3), some (.int x4), some (.int x5), none, some (.int x7), some (.int x8), some (.int x9), some (.int y0), none], [.int x9, .int x7], memM s)) rfl ?_
    obtain ⟨v12, e13, h⟩ := bnd h
    refine mEv.callS (As := [.int x7, .int x9]) (st := []) (r := (some (.int v12))) (μ1 := memM s) lk_X3_58 rfl rfl rfl (A_X3_pairOf (d := d + 0) e13) ?_
    refine mEv.stp 0 (S' := (99, _, [some (.ref 0), some (.int x1), some (.int x2), some (.int x3), some (.int x4), some (.int x5), none, some (.int x7), some (.int x8), some (.int x9), some (.int y0), none], [.int v12], memM s)) rfl ?_
    refine mEv.stp 2 (S' := (101, _, [some (.ref 0), some (.int x1), some (.int x2), some (.int x3), some (.int x4), some (.int x5), none, some (.int x7), some (.int x8), some (.int x9), some (.int y0), none], [.int x2, .int x1, .int v12], memM s)) rfl ?_
    obtain ⟨v14, e15, h⟩ := bnd h
    refine mEv.callS (As := [.int x1, .int x2]) (st := [.int v12]) (r := (some (.int v14))) (μ1 := memM s) lk_X3_58 rfl rfl rfl (A_X3_pairOf (d := d + 0) e15) ?_
    refine mEv.stp 0 (S' := (104, _, [some (.ref 0), some (.int x1), some (.int x2), some (.int x3), some (.int x4), some (.int x5), none, some (.int x7), some (.int x8), some (.int x9), some (.int y0), none], [.int v14, .int v12], memM s)) rfl ?_
    refine mEv.br 1 (S1 := (122, [], [some (.ref 0), some (.int x1), some (.int x2), some (.int x3), some (.int x4), some (.int x5), none, some (.int x7), some (.int x8), some (.int x9), some (.int y0), none], [], memM s)) (S2 := (107, _, [some (.ref 0), some (.int x1), some (.int x2), some (.int x3), some (.int x4), some (.int x5), none, some (.int x7), some (.int x8), some (.int x9), some (.int y0), none], [], memM s)) rfl (fun c16 => ?_) (fun c16 => ?_)
    · have h := (if_pos c16).symm.trans h
      refine mEv.fg [7, 8, 9] (z' := [some (.ref 0), some (.int x1), some (.int x2), some (.int x3), some (.int x4), some (.int x5), none, none, none, none, some (.int y0), none]) rfl ?_
      exact K_X3_holding_122 (d := d) h hk
    · have h := (if_neg c16).symm.trans h
      refine mEv.stp 2 (S' := (111, _, [some (.ref 0), some (.int x1), some (.int x2), some (.int x3), some (.int x4), some (.int x5), none, some (.int x7), some (.int x8), some (.int x9), some (.int y0), none], [.int x8, .int x9], memM s)) rfl ?_
      obtain ⟨v17, e18, h⟩ := bnd h
      refine mEv.callS (As := [.int x9, .int x8]) (st := []) (r := (some (.int v17))) (μ1 := memM s) lk_X3_58 rfl rfl rfl (A_X3_pairOf (d := d + 0) e18) ?_
      refine mEv.stp 0 (S' := (114, _, [some (.ref 0), some (.int x1), some (.int x2), some (.int x3), some (.int x4), some (.int x5), none, some (.int x7), some (.int x8), some (.int x9), some (.int y0), none], [.int v17], memM s)) rfl ?_
      refine mEv.stp 2 (S' := (116, _, [some (.ref 0), some (.int x1), some (.int x2), some (.int x3), some (.int x4), some (.int x5), none, some (.int x7), some (.int x8), some (.int x9), some (.int y0), none], [.int x2, .int x1, .int v17], memM s)) rfl ?_
      obtain ⟨v19, e20, h⟩ := bnd h
      refine mEv.callS (As := [.int x1, .int x2]) (st := [.int v17]) (r := (some (.int v19))) (μ1 := memM s) lk_X3_58 rfl rfl rfl (A_X3_pairOf (d := d + 0) e20) ?_
      refine mEv.stp 0 (S' := (119, _, [some (.ref 0), some (.int x1), some (.int x2), some (.int x3), some (.int x4), some (.int x5), none, some (.int x7), some (.int x8), some (.int x9), some (.int y0), none], [.int v19, .int v17], memM s)) rfl ?_
      refine mEv.br 1 (S1 := (126, [], [some (.ref 0), some (.int x1), some (.int x2), some (.int x3), some (.int x4), some (.int x5), none, some (.int x7), some (.int x8), some (.int x9), some (.int y0), none], [], memM s)) (S2 := (122, [], [some (.ref 0), some (.int x1), some (.int x2), some (.int x3), some (.int x4), some (.int x5), none, some (.int x7), some (.int x8), some (.int x9), some (.int y0), none], [], memM s)) rfl (fun c21 => ?_) (fun c21 => ?_)
      · have h := (if_pos c21).symm.trans h
        refine mEv.fg [7, 8, 9] (z' := [some (.ref 0), some (.int x1), some (.int x2), some (.int x3), some (.int x4), some (.int x5), none, none, none, none, some (.int y0), none]) rfl ?_
        exact K_X3_holding_126 (d := d) h hk
      · have h := (if_neg c21).symm.trans h
        refine mEv.fg [7, 8, 9] (z' := [some (.ref 0), some (.int x1), some (.int x2), some (.int x3), some (.int x4), some (.int x5), none, none, none, none, some (.int y0), none]) rfl ?_
        exact K_X3_holding_122 (d := d) h hk
def J_X3_holding_83 (x1 : Int32) (x2 : Int32) (x3 : Int32) (x4 : Int32) (x5 : Int32) (x7 : Int32) (x8 : Int32) (x9 : Int32) (s : ModS) : Option ((Int32 × Int32) ⊕ (Int32)) := J_X3_holding_84 x1 x2 x3 x4 x5 x7 x8 x9 (nI 0) s
set_option maxRecDepth 100000 in
theorem K_X3_holding_83 {d : Nat} {x1 : Int32} {x2 : Int32} {x3 : Int32} {x4 : Int32} {x5 : Int32} {x7 : Int32} {x8 : Int32} {x9 : Int32} {s : ModS} {q : (Int32 × Int32) ⊕ (Int32)} {r0 : Option Value} {mu0 : MMe} (h : J_X3_holding_83 x1 x2 x3 x4 x5 x7 x8 x9 s = some q) (hk : Sum.elim (fun x : Int32 × Int32 => mEv (d + 1) m_X3_holding none (6, [], [some (.ref 0), some (.int x1), some (.int x2), some (.int x3), some (.int x.1), some (.int x.2), none, none, none, none, none, none], [], memM s) r0 mu0) (fun z : Int32 => mEv (d + 1) m_X3_holding none (164, [], [none, none, none, none, some (.int z), none, none, none, none, none, none, none], [], memM s) r0 mu0) q) : mEv (d + 1) m_X3_holding none (83, [], [some (.ref 0), some (.int x1), some (.int x2), some (.int x3), some (.int x4), some (.int x5), none, some (.int x7), some (.int x8), some (.int x9), none, none], [], memM s) r0 mu0 := by
  unfold J_X3_holding_83 at h
  refine mEv.stp 2 (S' := (84, [], [some (.ref 0), some (.int x1), some (.int x2), some (.int x3), some (.int x4), some (.int x5), none, some (.int x7), some (.int x8), some (.int x9), none, none], [.int (nI 0)], memM s)) rfl ?_
  exact K_X3_holding_84 (d := d) h hk
def B_X3_holding_6 (x1 : Int32) (x2 : Int32) (x3 : Int32) (x4 : Int32) (x5 : Int32) (s : ModS) : Option ((Int32 × Int32) ⊕ (Int32)) := gI (nI 4) 637 (if ((gM_nw s) (Int32.toNatClampNeg (nI 4))) ≤ x5 then (some (.inr (x4))) else (gI ((nI 317) + ((nI 4) * x5)) 637 (gI (((nI 317) + ((nI 4) * x5)) + (nI 1)) 637 (gI (((nI 317) + ((nI 4) * x5)) + (nI 2)) 637 (if ¬ ((gM_nw s) (Int32.toNatClampNeg (((nI 317) + ((nI 4) * x5)) + (nI 2)))) = (-nI 1) then (J_X3_holding_83 x1 x2 x3 x4 x5 ((gM_nw s) (Int32.toNatClampNeg ((nI 317) + ((nI 4) * x5)))) ((gM_nw s) (Int32.toNatClampNeg (((nI 317) + ((nI 4) * x5)) + (nI 1)))) ((gM_nw s) (Int32.toNatClampNeg (((nI 317) + ((nI 4) * x5)) + (nI 2)))) s) else ((F_X3_pairOf ((gM_nw s) (Int32.toNatClampNeg ((nI 317) + ((nI 4) * x5)))) ((gM_nw s) (Int32.toNatClampNeg (((nI 317) + ((nI 4) * x5)) + (nI 1))))).bind (fun v22 => (F_X3_pairOf x1 x2).bind (fun v24 => if ¬ v22 = v24 then (J_X3_holding_83 x1 x2 x3 x4 x5 ((gM_nw s) (Int32.toNatClampNeg ((nI 317) + ((nI 4) * x5)))) ((gM_nw s) (Int32.toNatClampNeg (((nI 317) + ((nI 4) * x5)) + (nI 1)))) ((gM_nw s) (Int32.toNatClampNeg (((nI 317) + ((nI 4) * x5)) + (nI 2)))) s) else (J_X3_holding_84 x1 x2 x3 x4 x5 ((gM_nw s) (Int32.toNatClampNeg ((nI 317) + ((nI 4) * x5)))) ((gM_nw s) (Int32.toNatClampNeg (((nI 317) + ((nI 4) * x5)) + (nI 1)))) ((gM_nw s) (Int32.toNatClampNeg (((nI 317) + ((nI 4) * x5)) + (nI 2)))) (nI 1) s)))))))))
set_option maxRecDepth 100000 in
theorem H_X3_holding_6 {d : Nat} {x1 : Int32} {x2 : Int32} {x3 : Int32} {x4 : Int32} {x5 : Int32} {s : ModS} {q : (Int32 × Int32) ⊕ (Int32)} {r0 : Option Value} {mu0 : MMe} (h : B_X3_holding_6 x1 x2 x3 x4 x5 s = some q) (hk : Sum.elim (fun x : Int32 × Int32 => mEv (d + 1) m_X3_holding none (6, [], [some (.ref 0), some (.int x1), some (.int x2), some (.int x3), some (.int x.1), some (.int x.2), none, none, none, none, none, none], [], memM s) r0 mu0) (fun z : Int32 => mEv (d + 1) m_X3_holding none (164, [], [none, none, none, none, some (.int z), none, none, none, none, none, none, none], [], memM s) r0 mu0) q) : mEv (d + 1) m_X3_holding none (6, [], [some (.ref 0), some (.int x1), some (.int x2), some (.int x3), some (.int x4), some (.int x5), none, none, none, none, none, none], [], memM s) r0 mu0 := by
  unfold B_X3_holding_6 at h
  obtain ⟨g1, h⟩ := gI_some h
  refine mEv.gd 6 (S' := (14, _, [some (.ref 0), some (.int x1), some (.int x2), some (.int x3), some (.int x4), some (.int x5), none, none, none, none, none, none], [.int ((gM_nw s) (Int32.toNatClampNeg (nI 4))), .int x5], memM s)) rfl g1 ?_
  refine mEv.br 1 (S1 := (164, [], [some (.ref 0), some (.int x1), some (.int x2), some (.int x3), some (.int x4), some (.int x5), none, none, none, none, none, none], [], memM s)) (S2 := (17, _, [some (.ref 0), some (.int x1), some (.int x2), some (.int x3), some (.int x4), some (.int x5), none, none, none, none, none, none], [], memM s)) rfl (fun c2 => ?_) (fun c2 => ?_)
  · have h := (if_pos c2).symm.trans h
    refine mEv.fg [0, 1, 2, 3, 5] (z' := [none, none, none, none, some (.int x4), none, none, none, none, none, none, none]) rfl ?_
    obtain rfl := Option.some.inj h
    exact hk
  · have h := (if_neg c2).symm.trans h
    obtain ⟨g3, h⟩ := gI_some h
    refine mEv.gd 10 (S' := (34, _, [some (.ref 0), some (.int x1), some (.int x2), some (.int x3), some (.int x4), some (.int x5), some (.int ((nI 317) + ((nI 4) * x5))), none, none, none, none, none], [.int ((gM_nw s) (Int32.toNatClampNeg ((nI 317) + ((nI 4) * x5))))], memM s)) rfl g3 ?_
    obtain ⟨g4, h⟩ := gI_some h
    refine mEv.gd 7 (S' := (45, _, [some (.ref 0), some (.int x1), some (.int x2), some (.int x3), some (.int x4), some (.int x5), some (.int ((nI 317) + ((nI 4) * x5))), some (.int ((gM_nw s) (Int32.toNatClampNeg ((nI 317) + ((nI 4) * x5))))), none, none, none, none], [.int ((gM_nw s) (Int32.toNatClampNeg (((nI 317) + ((nI 4) * x5)) + (nI 1))))], memM s)) rfl g4 ?_
    obtain ⟨g5, h⟩ := gI_some h
    refine mEv.gd 7 (S' := (56, _, [some (.ref 0), some (.int x1), some (.int x2), some (.int x3), some (.int x4), some (.int x5), some (.int ((nI 317) + ((nI 4) * x5))), some (.int ((gM_nw s) (Int32.toNatClampNeg ((nI 317) + ((nI 4) * x5))))), some (.int ((gM_nw s) (Int32.toNatClampNeg (((nI 317) + ((nI 4) * x5)) + (nI 1))))), none, none, none], [.int ((gM_nw s) (Int32.toNatClampNeg (((nI 317) + ((nI 4) * x5)) + (nI 2))))], memM s)) rfl g5 ?_
    refine mEv.br 4 (S1 := (83, [], [some (.ref 0), some (.int x1), some (.int x2), some (.int x3), some (.int x4), some (.int x5), some (.int ((nI 317) + ((nI 4) * x5))), some (.int ((gM_nw s) (Int32.toNatClampNeg ((nI 317) + ((nI 4) * x5))))), some (.int ((gM_nw s) (Int32.toNatClampNeg (((nI 317) + ((nI 4) * x5)) + (nI 1))))), some (.int ((gM_nw s) (Int32.toNatClampNeg (((nI 317) + ((nI 4) * x5)) + (nI 2))))), none, none], [], memM s)) (S2 := (64, _, [some (.ref 0), some (.int x1), some (.int x2), some (.int x3), some (.int x4), some (.int x5), some (.int ((nI 317) + ((nI 4) * x5))), some (.int ((gM_nw s) (Int32.toNatClampNeg ((nI 317) + ((nI 4) * x5))))), some (.int ((gM_nw s) (Int32.toNatClampNeg (((nI 317) + ((nI 4) * x5)) + (nI 1))))), some (.int ((gM_nw s) (Int32.toNatClampNeg (((nI 317) + ((nI 4) * x5)) + (nI 2))))), none, none], [], memM s)) rfl (fun c6 => ?_) (fun c6 => ?_)
    · have h := (if_pos c6).symm.trans h
      refine mEv.fg [6] (z' := [some (.ref 0), some (.int x1), some (.int x2), some (.int x3), some (.int x4), some (.int x5), none, some (.int ((gM_nw s) (Int32.toNatClampNeg ((nI 317) + ((nI 4) * x5))))), some (.int ((gM_nw s) (Int32.toNatClampNeg (((nI 317) + ((nI 4) * x5)) + (nI 1))))), some (.int ((gM_nw s) (Int32.toNatClampNeg (((nI 317) + ((nI 4) * x5)) + (nI 2))))), none, none]) rfl ?_
      exact K_X3_holding_83 (d := d) h hk
    · have h := (if_neg c6).symm.trans h
      refine mEv.stp 2 (S' := (68, _, [some (.ref 0), some (.int x1), some (.int x2), some (.int x3), some (.int x4), some (.int x5), some (.int ((nI 317) + ((nI 4) * x5))), some (.int ((gM_nw s) (Int32.toNatClampNeg ((nI 317) + ((nI 4) * x5))))), some (.int ((gM_nw s) (Int32.toNatClampNeg (((nI 317) + ((nI 4) * x5)) + (nI 1))))), some (.int ((gM_nw s) (Int32.toNatClampNeg (((nI 317) + ((nI 4) * x5)) + (nI 2))))), none, none], [.int ((gM_nw s) (Int32.toNatClampNeg (((nI 317) + ((nI 4) * x5)) + (nI 1)))), .int ((gM_nw s) (Int32.toNatClampNeg ((nI 317) + ((nI 4) * x5))))], memM s)) rfl ?_
      obtain ⟨v22, e23, h⟩ := bnd h
      refine mEv.callS (As := [.int ((gM_nw s) (Int32.toNatClampNeg ((nI 317) + ((nI 4) * x5)))), .int ((gM_nw s) (Int32.toNatClampNeg (((nI 317) + ((nI 4) * x5)) + (nI 1))))]) (st := []) (r := (some (.int v22))) (μ1 := memM s) lk_X3_58 rfl rfl rfl (A_X3_pairOf (d := d + 0) e23) ?_
      refine mEv.stp 0 (S' := (71, _, [some (.ref 0), some (.int x1), some (.int x2), some (.int x3), some (.int x4), some (.int x5), some (.int ((nI 317) + ((nI 4) * x5))), some (.int ((gM_nw s) (Int32.toNatClampNeg ((nI 317) + ((nI 4) * x5))))), some (.int ((gM_nw s) (Int32.toNatClampNeg (((nI 317) + ((nI 4) * x5)) + (nI 1))))), some (.int ((gM_nw s) (Int32.toNatClampNeg (((nI 317) + ((nI 4) * x5)) + (nI 2))))), none, none], [.int v22], memM s)) rfl ?_
      refine mEv.stp 2 (S' := (73, _, [some (.ref 0), some (.int x1), some (.int x2), some (.int x3), some (.int x4), some (.int x5), some (.int ((nI 317) + ((nI 4) * x5))), some (.int ((gM_nw s) (Int32.toNatClampNeg ((nI 317) + ((nI 4) * x5))))), some (.int ((gM_nw s) (Int32.toNatClampNeg (((nI 317) + ((nI 4) * x5)) + (nI 1))))), some (.int ((gM_nw s) (Int32.toNatClampNeg (((nI 317) + ((nI 4) * x5)) + (nI 2))))), none, none], [.int x2, .int x1, .int v22], memM s)) rfl ?_
      obtain ⟨v24, e25, h⟩ := bnd h
      refine mEv.callS (As := [.int x1, .int x2]) (st := [.int v22]) (r := (some (.int v24))) (μ1 := memM s) lk_X3_58 rfl rfl rfl (A_X3_pairOf (d := d + 0) e25) ?_
      refine mEv.stp 0 (S' := (76, _, [some (.ref 0), some (.int x1), some (.int x2), some (.int x3), some (.int x4), some (.int x5), some (.int ((nI 317) + ((nI 4) * x5))), some (.int ((gM_nw s) (Int32.toNatClampNeg ((nI 317) + ((nI 4) * x5))))), some (.int ((gM_nw s) (Int32.toNatClampNeg (((nI 317) + ((nI 4) * x5)) + (nI 1))))), some (.int ((gM_nw s) (Int32.toNatClampNeg (((nI 317) + ((nI 4) * x5)) + (nI 2))))), none, none], [.int v24, .int v22], memM s)) rfl ?_
      refine mEv.br 1 (S1 := (83, [], [some (.ref 0), some (.int x1), some (.int x2), some (.int x3), some (.int x4), some (.int x5), some (.int ((nI 317) + ((nI 4) * x5))), some (.int ((gM_nw s) (Int32.toNatClampNeg ((nI 317) + ((nI 4) * x5))))), some (.int ((gM_nw s) (Int32.toNatClampNeg (((nI 317) + ((nI 4) * x5)) + (nI 1))))), some (.int ((gM_nw s) (Int32.toNatClampNeg (((nI 317) + ((nI 4) * x5)) + (nI 2))))), none, none], [], memM s)) (S2 := (79, _, [some (.ref 0), some (.int x1), some (.int x2), some (.int x3), some (.int x4), some (.int x5), some (.int ((nI 317) + ((nI 4) * x5))), some (.int ((gM_nw s) (Int32.toNatClampNeg ((nI 317) + ((nI 4) * x5))))), some (.int ((gM_nw s) (Int32.toNatClampNeg (((nI 317) + ((nI 4) * x5)) + (nI 1))))), some (.int ((gM_nw s) (Int32.toNatClampNeg (((nI 317) + ((nI 4) * x5)) + (nI 2))))), none, none], [], memM s)) rfl (fun c26 => ?_) (fun c26 => ?_)
      · have h := (if_pos c26).symm.trans h
        refine mEv.fg [6] (z' := [some (.ref 0), some (.int x1), some (.int x2), some (.int x3), some (.int x4), some (.int x5), none, some (.int ((gM_nw s) (Int32.toNatClampNeg ((nI 317) + ((nI 4) * x5))))), some (.int ((gM_nw s) (Int32.toNatClampNeg (((nI 317) + ((nI 4) * x5)) + (nI 1))))), some (.int ((gM_nw s) (Int32.toNatClampNeg (((nI 317) + ((nI 4) * x5)) + (nI 2))))), none, none]) rfl ?_
        exact K_X3_holding_83 (d := d) h hk
      · have h := (if_neg c26).symm.trans h
        refine mEv.stp 2 (S' := (84, [], [some (.ref 0), some (.int x1), some (.int x2), some (.int x3), some (.int x4), some (.int x5), some (.int ((nI 317) + ((nI 4) * x5))), some (.int ((gM_nw s) (Int32.toNatClampNeg ((nI 317) + ((nI 4) * x5))))), some (.int ((gM_nw s) (Int32.toNatClampNeg (((nI 317) + ((nI 4) * x5)) + (nI 1))))), some (.int ((gM_nw s) (Int32.toNatClampNeg (((nI 317) + ((nI 4) * x5)) + (nI 2))))), none, none], [.int (nI 1)], memM s)) rfl ?_
        refine mEv.fg [6] (z' := [some (.ref 0), some (.int x1), some (.int x2), some (.int x3), some (.int x4), some (.int x5), none, some (.int ((gM_nw s) (Int32.toNatClampNeg ((nI 317) + ((nI 4) * x5))))), some (.int ((gM_nw s) (Int32.toNatClampNeg (((nI 317) + ((nI 4) * x5)) + (nI 1))))), some (.int ((gM_nw s) (Int32.toNatClampNeg (((nI 317) + ((nI 4) * x5)) + (nI 2))))), none, none]) rfl ?_
        exact K_X3_holding_84 (d := d) h hk
def F_X3_holding (p1 : Int32) (p2 : Int32) (p3 : Int32) (s : ModS) : Option (Int32) := (mWh (fun x => B_X3_holding_6 p1 p2 p3 x.1 x.2 s) fuel0 ((nI 0), (nI 0))).bind (fun z27 => some (z27))
set_option maxRecDepth 100000 in
theorem E_X3_holding {d : Nat} {p1 : Int32} {p2 : Int32} {p3 : Int32} {s : ModS} {q : Int32} (h : F_X3_holding p1 p2 p3 s = some q) : mEv (d + 1) m_X3_holding none (0, [], [some (.ref 0), some (.int p1), some (.int p2), some (.int p3), none, none, none, none, none, none, none, none], [], memM s) (some (Value.int q)) (memM s) := by
  unfold F_X3_holding at h
  refine mEv.stp 5 (S' := (6, [], [some (.ref 0), some (.int p1), some (.int p2), some (.int p3), some (.int (nI 0)), some (.int (nI 0)), none, none, none, none, none, none], [], memM s)) rfl ?_
  obtain ⟨z27, e28, h⟩ := bnd h
  refine mWh_ind (b := (fun x => B_X3_holding_6 p1 p2 p3 x.1 x.2 s)) (P := fun x : Int32 × Int32 => mEv (d + 1) m_X3_holding none (6, [], [some (.ref 0), some (.int p1), some (.int p2), some (.int p3), some (.int x.1), some (.int x.2), none, none, none, none, none, none], [], memM s) (some (Value.int q)) (memM s)) (K := fun z : Int32 => mEv (d + 1) m_X3_holding none (164, [], [none, none, none, none, some (.int z), none, none, none, none, none, none, none], [], memM s) (some (Value.int q)) (memM s)) (fun x u hq hk => H_X3_holding_6 (d := d) (x1 := p1) (x2 := p2) (x3 := p3) (x4 := x.1) (x5 := x.2) (s := s) (q := u) (r0 := (some (Value.int q))) (mu0 := (memM s)) hq hk) fuel0 ((nI 0), (nI 0)) z27 e28 ?_
  refine mEv.stp 0 (S' := (164, [], [none, none, none, none, some (.int z27), none, none, none, none, none, none, none], [], memM s)) rfl ?_
  obtain rfl := Option.some.inj h
  exact mEv.stp 2 (S' := (166, _, [none, none, none, none, some (.int z27), none, none, none, none, none, none, none], [.int z27], memM s)) rfl (mEv.reti ⟨_, rfl, rfl⟩)
theorem A_X3_holding {d : Nat} {p1 : Int32} {p2 : Int32} {p3 : Int32} {s : ModS} {q : Int32} (h : F_X3_holding p1 p2 p3 s = some q) : mCall (d + 1) m_X3_holding [.ref 0, .int p1, .int p2, .int p3] (memM s) (some (Value.int q)) (memM s) := mCall.intro ok_X3_holding pl_X3_holding rfl (E_X3_holding (d := d) h)
def F_X3_free (p1 : Int32) (p2 : Int32) (s : ModS) : Option (Int32) := (F_X3_pairOf p1 p2).bind (fun v1 => gI ((nI 5) + v1) 637 ((F_X3_holding p1 p2 (nI 2) s).bind (fun v4 => if (((gM_nw s) (Int32.toNatClampNeg ((nI 5) + v1))) - v4) ≤ (nI 0) then (some ((nI 0))) else (some ((((gM_nw s) (Int32.toNatClampNeg ((nI 5) + v1))) - v4))))))
set_option maxRecDepth 100000 in
theorem E_X3_free {d : Nat} {p1 : Int32} {p2 : Int32} {s : ModS} {q : Int32} (h : F_X3_free p1 p2 s = some q) : mEv (d + 2) m_X3_free none (0, [], [some (.ref 0), some (.int p1), some (.int p2), none], [], memM s) (some (Value.int q)) (memM s) := by
  unfold F_X3_free at h
  refine mEv.stp 6 (S' := (7, _, [some (.ref 0), some (.int p1), some (.int p2), none], [.int p2, .int p1, .int (nI 5), .ref 1], memM s)) rfl ?_
  obtain ⟨v1, e2, h⟩ := bnd h
  refine mEv.callS (As := [.int p1, .int p2]) (st := [.int (nI 5), .ref 1]) (r := (some (.int v1))) (μ1 := memM s) lk_X3_58 rfl rfl rfl (A_X3_pairOf (d := d + 1) e2) ?_
  refine mEv.stp 0 (S' := (10, _, [some (.ref 0), some (.int p1), some (.int p2), none], [.int v1, .int (nI 5), .ref 1], memM s)) rfl ?_
  obtain ⟨g3, h⟩ := gI_some h
  refine mEv.gd 2 (S' := (12, _, [some (.ref 0), some (.int p1), some (.int p2), none], [.int ((gM_nw s) (Int32.toNatClampNeg ((nI 5) + v1)))], memM s)) rfl g3 ?_
  refine mEv.stp 4 (S' := (16, _, [some (.ref 0), some (.int p1), some (.int p2), none], [.int (nI 2), .int p2, .int p1, .ref 0, .int ((gM_nw s) (Int32.toNatClampNeg ((nI 5) + v1)))], memM s)) rfl ?_
  obtain ⟨v4, e5, h⟩ := bnd h
  refine mEv.callV (As := [.int p1, .int p2, .int (nI 2)]) (st := [.int ((gM_nw s) (Int32.toNatClampNeg ((nI 5) + v1)))]) (h := 0) (r := (some (.int v4))) (μ1 := memM s) lk_X3_63 rfl rfl rfl rfl rfl (A_X3_holding (d := d + 0) e5) ?_
  refine mEv.stp 0 (S' := (19, _, [some (.ref 0), some (.int p1), some (.int p2), none], [.int v4, .int ((gM_nw s) (Int32.toNatClampNeg ((nI 5) + v1)))], memM s)) rfl ?_
  refine mEv.br 4 (S1 := (29, [], [some (.ref 0), some (.int p1), some (.int p2), some (.int (((gM_nw s) (Int32.toNatClampNeg ((nI 5) + v1))) - v4))], [], memM s)) (S2 := (25, _, [some (.ref 0), some (.int p1), some (.int p2), some (.int (((gM_nw s) (Int32.toNatClampNeg ((nI 5) + v1))) - v4))], [], memM s)) rfl (fun c6 => ?_) (fun c6 => ?_)
  · have h := (if_pos c6).symm.trans h
    obtain rfl := Option.some.inj h
    exact mEv.stp 3 (S' := (30, _, [some (.ref 0), some (.int p1), some (.int p2), some (.int (((gM_nw s) (Int32.toNatClampNeg ((nI 5) + v1))) - v4))], [.int (nI 0)], memM s)) rfl (mEv.reti ⟨_, rfl, rfl⟩)
  · have h := (if_neg c6).symm.trans h
    obtain rfl := Option.some.inj h
    exact mEv.stp 3 (S' := (30, _, [some (.ref 0), some (.int p1), some (.int p2), some (.int (((gM_nw s) (Int32.toNatClampNeg ((nI 5) + v1))) - v4))], [.int (((gM_nw s) (Int32.toNatClampNeg ((nI 5) + v1))) - v4)], memM s)) rfl (mEv.reti ⟨_, rfl, rfl⟩)
theorem A_X3_free {d : Nat} {p1 : Int32} {p2 : Int32} {s : ModS} {q : Int32} (h : F_X3_free p1 p2 s = some q) : mCall (d + 2) m_X3_free [.ref 0, .int p1, .int p2] (memM s) (some (Value.int q)) (memM s) := mCall.intro ok_X3_free pl_X3_free rfl (E_X3_free (d := d) h)
def J_X3_of_18  (s : ModS) : Option (Int32 × ModS) := (F_X3_bads s).bind (fun v4 => some ((v4.1, v4.2)))
set_option maxRecDepth 100000 in
theorem K_X3_of_18 {d : Nat}  {s : ModS} {q : Int32 × ModS} (h : J_X3_of_18 s = some q) : mEv (d + 3) m_X3_of none (18, [], [some (.ref 0), none, none, none], [], memM s) (some (Value.int q.1)) (memM q.2) := by
  unfold J_X3_of_18 at h
  refine mEv.stp 2 (S' := (19, _, [some (.ref 0), none, none, none], [.ref 0], memM s)) rfl ?_
  obtain ⟨v4, e5, h⟩ := bnd h
  refine mEv.callV (As := []) (st := []) (h := 0) (r := (some (.int v4.1))) (μ1 := memM v4.2) lk_X3_47 rfl rfl rfl rfl rfl (A_X3_bads (d := d + 2) e5) ?_
  refine mEv.stp 0 (S' := (22, _, [some (.ref 0), none, none, none], [.int v4.1], memM v4.2)) rfl ?_
  obtain rfl := Option.some.inj h
  exact mEv.reti ⟨_, rfl, rfl⟩
def F_X3_of (p1 : Int32) (p2 : Int32) (p3 : Int32) (s : ModS) : Option (Int32 × ModS) := (F_X3_areTowns p1 p2 s).bind (fun v1 => if v1 = (nI 0) then (J_X3_of_18 s) else ((F_X3_in p3 (nI 0) (nI 3)).bind (fun v6 => if ¬ v6 = (nI 0) then (if ¬ p3 = (nI 0) then (if ¬ p3 = (nI 1) then (if ¬ p3 = (nI 2) then ((F_X3_holding p1 p2 (nI 0) s).bind (fun v12 => some ((v12, s)))) else ((F_X3_free p1 p2 s).bind (fun v14 => some ((v14, s))))) else ((F_X3_pairOf p1 p2).bind (fun v16 => gI ((nI 41) + v16) 637 (some ((((gM_nw s) (Int32.toNatClampNeg ((nI 41) + v16))), s)))))) else ((F_X3_pairOf p1 p2).bind (fun v19 => gI ((nI 5) + v19) 637 (some ((((gM_nw s) (Int32.toNatClampNeg ((nI 5) + v19))), s)))))) else (J_X3_of_18 s))))
set_option maxRecDepth 100000 in
theorem E_X3_of {d : Nat} {p1 : Int32} {p2 : Int32} {p3 : Int32} {s : ModS} {q : Int32 × ModS} (h : F_X3_of p1 p2 p3 s = some q) : mEv (d + 3) m_X3_of none (0, [], [some (.ref 0), some (.int p1), some (.int p2), some (.int p3)], [], memM s) (some (Value.int q.1)) (memM q.2) := by
  unfold F_X3_of at h
  refine mEv.stp 4 (S' := (3, _, [some (.ref 0), some (.int p1), some (.int p2), some (.int p3)], [.int p2, .int p1, .ref 0], memM s)) rfl ?_
  obtain ⟨v1, e2, h⟩ := bnd h
  refine mEv.callV (As := [.int p1, .int p2]) (st := []) (h := 0) (r := (some (.int v1))) (μ1 := memM s) lk_X3_54 rfl rfl rfl rfl rfl (A_X3_areTowns (d := d + 0) e2) ?_
  refine mEv.stp 0 (S' := (6, _, [some (.ref 0), some (.int p1), some (.int p2), some (.int p3)], [.int v1], memM s)) rfl ?_
  refine mEv.br 1 (S1 := (18, [], [some (.ref 0), some (.int p1), some (.int p2), some (.int p3)], [], memM s)) (S2 := (9, _, [some (.ref 0), some (.int p1), some (.int p2), some (.int p3)], [], memM s)) rfl (fun c3 => ?_) (fun c3 => ?_)
  · have h := (if_pos c3).symm.trans h
    refine mEv.fg [1, 2, 3] (z' := [some (.ref 0), none, none, none]) rfl ?_
    exact K_X3_of_18 (d := d) h
  · have h := (if_neg c3).symm.trans h
    refine mEv.stp 3 (S' := (12, _, [some (.ref 0), some (.int p1), some (.int p2), some (.int p3)], [.int (nI 3), .int (nI 0), .int p3], memM s)) rfl ?_
    obtain ⟨v6, e7, h⟩ := bnd h
    refine mEv.callS (As := [.int p3, .int (nI 0), .int (nI 3)]) (st := []) (r := (some (.int v6))) (μ1 := memM s) lk_X3_36 rfl rfl rfl (A_X3_in (d := d + 2) e7) ?_
    refine mEv.stp 0 (S' := (15, _, [some (.ref 0), some (.int p1), some (.int p2), some (.int p3)], [.int v6], memM s)) rfl ?_
    refine mEv.br 1 (S1 := (23, [], [some (.ref 0), some (.int p1), some (.int p2), some (.int p3)], [], memM s)) (S2 := (18, [], [some (.ref 0), some (.int p1), some (.int p2), some (.int p3)], [], memM s)) rfl (fun c8 => ?_) (fun c8 => ?_)
    · have h := (if_pos c8).symm.trans h
      refine mEv.br 3 (S1 := (42, [], [some (.ref 0), some (.int p1), some (.int p2), some (.int p3)], [], memM s)) (S2 := (27, _, [some (.ref 0), some (.int p1), some (.int p2), some (.int p3)], [], memM s)) rfl (fun c9 => ?_) (fun c9 => ?_)
      · have h := (if_pos c9).symm.trans h
        refine mEv.br 4 (S1 := (63, [], [some (.ref 0), some (.int p1), some (.int p2), some (.int p3)], [], memM s)) (S2 := (47, _, [some (.ref 0), some (.int p1), some (.int p2), some (.int p3)], [], memM s)) rfl (fun c10 => ?_) (fun c10 => ?_)
        · have h := (if_pos c10).symm.trans h
          refine mEv.br 4 (S1 := (77, [], [some (.ref 0), some (.int p1), some (.int p2), some (.int p3)], [], memM s)) (S2 := (68, _, [some (.ref 0), some (.int p1), some (.int p2), some (.int p3)], [], memM s)) rfl (fun c11 => ?_) (fun c11 => ?_)
          · have h := (if_pos c11).symm.trans h
            refine mEv.stp 5 (S' := (81, _, [some (.ref 0), some (.int p1), some (.int p2), some (.int p3)], [.int (nI 0), .int p2, .int p1, .ref 0], memM s)) rfl ?_
            obtain ⟨v12, e13, h⟩ := bnd h
            refine mEv.callV (As := [.int p1, .int p2, .int (nI 0)]) (st := []) (h := 0) (r := (some (.int v12))) (μ1 := memM s) lk_X3_63 rfl rfl rfl rfl rfl (A_X3_holding (d := d + 1) e13) ?_
            refine mEv.stp 0 (S' := (84, [], [some (.ref 0), some (.int p1), some (.int p2), some (.int p3)], [.int v12], memM s)) rfl ?_
            obtain rfl := Option.some.inj h
            exact mEv.stp 1 (S' := (84, _, [some (.ref 0), some (.int p1), some (.int p2), some (.int p3)], [.int v12], memM s)) rfl (mEv.reti ⟨_, rfl, rfl⟩)
          · have h := (if_neg c11).symm.trans h
            refine mEv.stp 3 (S' := (71, _, [some (.ref 0), some (.int p1), some (.int p2), some (.int p3)], [.int p2, .int p1, .ref 0], memM s)) rfl ?_
            obtain ⟨v14, e15, h⟩ := bnd h
            refine mEv.callV (As := [.int p1, .int p2]) (st := []) (h := 0) (r := (some (.int v14))) (μ1 := memM s) lk_X3_67 rfl rfl rfl rfl rfl (A_X3_free (d := d + 0) e15) ?_
            refine mEv.stp 0 (S' := (74, _, [some (.ref 0), some (.int p1), some (.int p2), some (.int p3)], [.int v14], memM s)) rfl ?_
            obtain rfl := Option.some.inj h
            exact mEv.stp 2 (S' := (84, _, [some (.ref 0), some (.int p1), some (.int p2), some (.int p3)], [.int v14], memM s)) rfl (mEv.reti ⟨_, rfl, rfl⟩)
        · have h := (if_neg c10).symm.trans h
          refine mEv.stp 5 (S' := (55, _, [some (.ref 0), some (.int p1), some (.int p2), some (.int p3)], [.int p2, .int p1, .int (nI 41), .ref 1], memM s)) rfl ?_
          obtain ⟨v16, e17, h⟩ := bnd h
          refine mEv.callS (As := [.int p1, .int p2]) (st := [.int (nI 41), .ref 1]) (r := (some (.int v16))) (μ1 := memM s) lk_X3_58 rfl rfl rfl (A_X3_pairOf (d := d + 2) e17) ?_
          refine mEv.stp 0 (S' := (58, _, [some (.ref 0), some (.int p1), some (.int p2), some (.int p3)], [.int v16, .int (nI 41), .ref 1], memM s)) rfl ?_
          obtain ⟨g18, h⟩ := gI_some h
          refine mEv.gd 2 (S' := (60, _, [some (.ref 0), some (.int p1), some (.int p2), some (.int p3)], [.int ((gM_nw s) (Int32.toNatClampNeg ((nI 41) + v16)))], memM s)) rfl g18 ?_
          obtain rfl := Option.some.inj h
          exact mEv.stp 2 (S' := (84, _, [some (.ref 0), some (.int p1), some (.int p2), some (.int p3)], [.int ((gM_nw s) (Int32.toNatClampNeg ((nI 41) + v16)))], memM s)) rfl (mEv.reti ⟨_, rfl, rfl⟩)
      · have h := (if_neg c9).symm.trans h
        refine mEv.stp 5 (S' := (34, _, [some (.ref 0), some (.int p1), some (.int p2), some (.int p3)], [.int p2, .int p1, .int (nI 5), .ref 1], memM s)) rfl ?_
        obtain ⟨v19, e20, h⟩ := bnd h
        refine mEv.callS (As := [.int p1, .int p2]) (st := [.int (nI 5), .ref 1]) (r := (some (.int v19))) (μ1 := memM s) lk_X3_58 rfl rfl rfl (A_X3_pairOf (d := d + 2) e20) ?_
        refine mEv.stp 0 (S' := (37, _, [some (.ref 0), some (.int p1), some (.int p2), some (.int p3)], [.int v19, .int (nI 5), .ref 1], memM s)) rfl ?_
        obtain ⟨g21, h⟩ := gI_some h
        refine mEv.gd 2 (S' := (39, _, [some (.ref 0), some (.int p1), some (.int p2), some (.int p3)], [.int ((gM_nw s) (Int32.toNatClampNeg ((nI 5) + v19)))], memM s)) rfl g21 ?_
        obtain rfl := Option.some.inj h
        exact mEv.stp 2 (S' := (84, _, [some (.ref 0), some (.int p1), some (.int p2), some (.int p3)], [.int ((gM_nw s) (Int32.toNatClampNeg ((nI 5) + v19)))], memM s)) rfl (mEv.reti ⟨_, rfl, rfl⟩)
    · have h := (if_neg c8).symm.trans h
      refine mEv.fg [1, 2, 3] (z' := [some (.ref 0), none, none, none]) rfl ?_
      exact K_X3_of_18 (d := d) h
theorem A_X3_of {d : Nat} {p1 : Int32} {p2 : Int32} {p3 : Int32} {s : ModS} {q : Int32 × ModS} (h : F_X3_of p1 p2 p3 s = some q) : mCall (d + 3) m_X3_of [.ref 0, .int p1, .int p2, .int p3] (memM s) (some (Value.int q.1)) (memM q.2) := mCall.intro ok_X3_of pl_X3_of rfl (E_X3_of (d := d) h)
def F_X3_sticky (p1 : Int32) (p2 : Int32) (s : ModS) : Option (Int32 × ModS) := (F_X3_areTowns p1 p2 s).bind (fun v1 => if v1 = (nI 0) then ((F_X3_bads s).bind (fun v4 => some ((v4.1, v4.2)))) else (gI (((nI 77) + ((nI 6) * p1)) + p2) 637 (some ((((gM_nw s) (Int32.toNatClampNeg (((nI 77) + ((nI 6) * p1)) + p2))), s)))))
set_option maxRecDepth 100000 in
theorem E_X3_sticky {d : Nat} {p1 : Int32} {p2 : Int32} {s : ModS} {q : Int32 × ModS} (h : F_X3_sticky p1 p2 s = some q) : mEv (d + 3) m_X3_sticky none (0, [], [some (.ref 0), some (.int p1), some (.int p2)], [], memM s) (some (Value.int q.1)) (memM q.2) := by
  unfold F_X3_sticky at h
  refine mEv.stp 4 (S' := (3, _, [some (.ref 0), some (.int p1), some (.int p2)], [.int p2, .int p1, .ref 0], memM s)) rfl ?_
  obtain ⟨v1, e2, h⟩ := bnd h
  refine mEv.callV (As := [.int p1, .int p2]) (st := []) (h := 0) (r := (some (.int v1))) (μ1 := memM s) lk_X3_54 rfl rfl rfl rfl rfl (A_X3_areTowns (d := d + 0) e2) ?_
  refine mEv.stp 0 (S' := (6, _, [some (.ref 0), some (.int p1), some (.int p2)], [.int v1], memM s)) rfl ?_
  refine mEv.br 1 (S1 := (26, [], [some (.ref 0), some (.int p1), some (.int p2)], [], memM s)) (S2 := (9, _, [some (.ref 0), some (.int p1), some (.int p2)], [], memM s)) rfl (fun c3 => ?_) (fun c3 => ?_)
  · have h := (if_pos c3).symm.trans h
    refine mEv.stp 2 (S' := (27, _, [some (.ref 0), some (.int p1), some (.int p2)], [.ref 0], memM s)) rfl ?_
    obtain ⟨v4, e5, h⟩ := bnd h
    refine mEv.callV (As := []) (st := []) (h := 0) (r := (some (.int v4.1))) (μ1 := memM v4.2) lk_X3_47 rfl rfl rfl rfl rfl (A_X3_bads (d := d + 2) e5) ?_
    refine mEv.stp 0 (S' := (30, [], [some (.ref 0), some (.int p1), some (.int p2)], [.int v4.1], memM v4.2)) rfl ?_
    obtain rfl := Option.some.inj h
    exact mEv.stp 1 (S' := (30, _, [some (.ref 0), some (.int p1), some (.int p2)], [.int v4.1], memM v4.2)) rfl (mEv.reti ⟨_, rfl, rfl⟩)
  · have h := (if_neg c3).symm.trans h
    obtain ⟨g6, h⟩ := gI_some h
    refine mEv.gd 10 (S' := (23, _, [some (.ref 0), some (.int p1), some (.int p2)], [.int ((gM_nw s) (Int32.toNatClampNeg (((nI 77) + ((nI 6) * p1)) + p2)))], memM s)) rfl g6 ?_
    obtain rfl := Option.some.inj h
    exact mEv.stp 2 (S' := (30, _, [some (.ref 0), some (.int p1), some (.int p2)], [.int ((gM_nw s) (Int32.toNatClampNeg (((nI 77) + ((nI 6) * p1)) + p2)))], memM s)) rfl (mEv.reti ⟨_, rfl, rfl⟩)
theorem A_X3_sticky {d : Nat} {p1 : Int32} {p2 : Int32} {s : ModS} {q : Int32 × ModS} (h : F_X3_sticky p1 p2 s = some q) : mCall (d + 3) m_X3_sticky [.ref 0, .int p1, .int p2] (memM s) (some (Value.int q.1)) (memM q.2) := mCall.intro ok_X3_sticky pl_X3_sticky rfl (E_X3_sticky (d := d) h)
def F_X3_draws  (s : ModS) : Option (ModS) := gI (nI 2) 637 (gZL (lN 2147483648) (gI (nI 2) 637 (some ((mkM (gM_ss s) (gM_ty s) (gM_at s) (gM_ft s) (gM_mn s) (gM_bd s) (gM_no s) (gM_fu s) (upd (gM_nw s) (Int32.toNatClampNeg (nI 2)) (Int64.toInt32 ((((Int32.toInt64 ((gM_nw s) (Int32.toNatClampNeg (nI 2)))) * (lN 1103515245)) + (lN 12345)) - (((Int32.toInt64 ((gM_nw s) (Int32.toNatClampNeg (nI 2)))) * (lN 1103515245)) + (lN 12345)) / (lN 2147483648) * (lN 2147483648)))) (gM_as s) (gM_pa s) (gM_tx s) (gM_od s))))))
set_option maxRecDepth 100000 in
theorem E_X3_draws {d : Nat}  {s : ModS} {q : ModS} (h : F_X3_draws s = some q) : mEv d m_X3_draws none (0, [], [some (.ref 0)], [], memM s) none (memM q) := by
  unfold F_X3_draws at h
  obtain ⟨g1, h⟩ := gI_some h
  refine mEv.gd 8 (S' := (11, _, [some (.ref 0)], [.int ((gM_nw s) (Int32.toNatClampNeg (nI 2))), .int (nI 2), .ref 1], memM s)) rfl g1 ?_
  obtain ⟨g2, h⟩ := gZL_some h
  refine mEv.gd 7 (S' := (24, _, [some (.ref 0)], [.long ((((Int32.toInt64 ((gM_nw s) (Int32.toNatClampNeg (nI 2)))) * (lN 1103515245)) + (lN 12345)) - (((Int32.toInt64 ((gM_nw s) (Int32.toNatClampNeg (nI 2)))) * (lN 1103515245)) + (lN 12345)) / (lN 2147483648) * (lN 2147483648)), .int (nI 2), .ref 1], memM s)) rfl g2 ?_
  obtain ⟨g3, h⟩ := gI_some h
  refine mEv.gd 2 (S' := (26, _, [some (.ref 0)], [], memMx (gM_ss s) (gM_ty s) (gM_at s) (gM_ft s) (gM_mn s) (gM_bd s) (gM_no s) (gM_fu s) (upd (gM_nw s) (Int32.toNatClampNeg (nI 2)) (Int64.toInt32 ((((Int32.toInt64 ((gM_nw s) (Int32.toNatClampNeg (nI 2)))) * (lN 1103515245)) + (lN 12345)) - (((Int32.toInt64 ((gM_nw s) (Int32.toNatClampNeg (nI 2)))) * (lN 1103515245)) + (lN 12345)) / (lN 2147483648) * (lN 2147483648)))) (gM_as s) (gM_pa s) (gM_tx s) (gM_od s))) rfl g3 ?_
  obtain rfl := Option.some.inj h
  exact mEv.tgt memM_mk (mEv.retv rfl)
theorem A_X3_draws {d : Nat}  {s : ModS} {q : ModS} (h : F_X3_draws s = some q) : mCall d m_X3_draws [.ref 0] (memM s) none (memM q) := mCall.intro ok_X3_draws pl_X3_draws rfl (E_X3_draws (d := d) h)
def J_X3_drawsSticky_42 (x1 : Int32) (x2 : Int32) (x3 : Int32) (x4 : Int32) (s : ModS) : Option ((Int32 × Int32) ⊕ (Int32)) := if x4 = x1 then (some (.inl ((x3 - (nI 0)), (x4 + (nI 1))))) else (if ¬ x4 = x2 then (some (.inl ((x3 - (nI 1)), (x4 + (nI 1))))) else (some (.inl ((x3 - (nI 0)), (x4 + (nI 1))))))
set_option maxRecDepth 100000 in
theorem K_X3_drawsSticky_42 {d : Nat} {x1 : Int32} {x2 : Int32} {x3 : Int32} {x4 : Int32} {s : ModS} {q : (Int32 × Int32) ⊕ (Int32)} {r0 : Option Value} {mu0 : MMe} (h : J_X3_drawsSticky_42 x1 x2 x3 x4 s = some q) (hk : Sum.elim (fun x : Int32 × Int32 => mEv (d + 1) m_X3_drawsSticky none (26, [], [some (.ref 0), some (.int x1), some (.int x2), some (.int x.1), some (.int x.2)], [], memM s) r0 mu0) (fun z : Int32 => mEv (d + 1) m_X3_drawsSticky none (68, [], [some (.ref 0), some (.int x1), some (.int x2), none, some (.int z)], [], memM s) r0 mu0) q) : mEv (d + 1) m_X3_drawsSticky none (42, [], [some (.ref 0), some (.int x1), some (.int x2), some (.int x3), some (.int x4)], [], memM s) r0 mu0 := by
  unfold J_X3_drawsSticky_42 at h
  refine mEv.br 5 (S1 := (55, [], [some (.ref 0), some (.int x1), some (.int x2), some (.int x3), some (.int x4)], [.int x3], memM s)) (S2 := (49, _, [some (.ref 0), some (.int x1), some (.int x2), some (.int x3), some (.int x4)], [.int x3], memM s)) rfl (fun c8 => ?_) (fun c8 => ?_)
  · have h := (if_pos c8).symm.trans h
    refine mEv.stp 8 (S' := (26, [], [some (.ref 0), some (.int x1), some (.int x2), some (.int (x3 - (nI 0))), some (.int (x4 + (nI 1)))], [], memM s)) rfl ?_
    obtain rfl := Option.some.inj h
    exact hk
  · have h := (if_neg c8).symm.trans h
    refine mEv.br 3 (S1 := (59, [], [some (.ref 0), some (.int x1), some (.int x2), some (.int x3), some (.int x4)], [.int x3], memM s)) (S2 := (55, [], [some (.ref 0), some (.int x1), some (.int x2), some (.int x3), some (.int x4)], [.int x3], memM s)) rfl (fun c9 => ?_) (fun c9 => ?_)
    · have h := (if_pos c9).symm.trans h
      refine mEv.stp 7 (S' := (26, [], [some (.ref 0), some (.int x1), some (.int x2), some (.int (x3 - (nI 1))), some (.int (x4 + (nI 1)))], [], memM s)) rfl ?_
      obtain rfl := Option.some.inj h
      exact hk
    · have h := (if_neg c9).symm.trans h
      refine mEv.stp 8 (S' := (26, [], [some (.ref 0), some (.int x1), some (.int x2), some (.int (x3 - (nI 0))), some (.int (x4 + (nI 1)))], [], memM s)) rfl ?_
      obtain rfl := Option.some.inj h
      exact hk
def B_X3_drawsSticky_26 (x1 : Int32) (x2 : Int32) (x3 : Int32) (x4 : Int32) (s : ModS) : Option ((Int32 × Int32) ⊕ (Int32)) := if x4 = x1 then (J_X3_drawsSticky_42 x1 x2 x3 x4 s) else (if x4 = x2 then (J_X3_drawsSticky_42 x1 x2 x3 x4 s) else (if x3 ≤ (nI 0) then (some (.inr (x4))) else (J_X3_drawsSticky_42 x1 x2 x3 x4 s)))
set_option maxRecDepth 100000 in
theorem H_X3_drawsSticky_26 {d : Nat} {x1 : Int32} {x2 : Int32} {x3 : Int32} {x4 : Int32} {s : ModS} {q : (Int32 × Int32) ⊕ (Int32)} {r0 : Option Value} {mu0 : MMe} (h : B_X3_drawsSticky_26 x1 x2 x3 x4 s = some q) (hk : Sum.elim (fun x : Int32 × Int32 => mEv (d + 1) m_X3_drawsSticky none (26, [], [some (.ref 0), some (.int x1), some (.int x2), some (.int x.1), some (.int x.2)], [], memM s) r0 mu0) (fun z : Int32 => mEv (d + 1) m_X3_drawsSticky none (68, [], [some (.ref 0), some (.int x1), some (.int x2), none, some (.int z)], [], memM s) r0 mu0) q) : mEv (d + 1) m_X3_drawsSticky none (26, [], [some (.ref 0), some (.int x1), some (.int x2), some (.int x3), some (.int x4)], [], memM s) r0 mu0 := by
  unfold B_X3_drawsSticky_26 at h
  refine mEv.br 4 (S1 := (42, [], [some (.ref 0), some (.int x1), some (.int x2), some (.int x3), some (.int x4)], [], memM s)) (S2 := (32, _, [some (.ref 0), some (.int x1), some (.int x2), some (.int x3), some (.int x4)], [], memM s)) rfl (fun c7 => ?_) (fun c7 => ?_)
  · have h := (if_pos c7).symm.trans h
    exact K_X3_drawsSticky_42 (d := d) h hk
  · have h := (if_neg c7).symm.trans h
    refine mEv.br 3 (S1 := (42, [], [some (.ref 0), some (.int x1), some (.int x2), some (.int x3), some (.int x4)], [], memM s)) (S2 := (38, _, [some (.ref 0), some (.int x1), some (.int x2), some (.int x3), some (.int x4)], [], memM s)) rfl (fun c10 => ?_) (fun c10 => ?_)
    · have h := (if_pos c10).symm.trans h
      exact K_X3_drawsSticky_42 (d := d) h hk
    · have h := (if_neg c10).symm.trans h
      refine mEv.br 2 (S1 := (68, [], [some (.ref 0), some (.int x1), some (.int x2), some (.int x3), some (.int x4)], [], memM s)) (S2 := (42, [], [some (.ref 0), some (.int x1), some (.int x2), some (.int x3), some (.int x4)], [], memM s)) rfl (fun c11 => ?_) (fun c11 => ?_)
      · have h := (if_pos c11).symm.trans h
        refine mEv.fg [3] (z' := [some (.ref 0), some (.int x1), some (.int x2), none, some (.int x4)]) rfl ?_
        obtain rfl := Option.some.inj h
        exact hk
      · have h := (if_neg c11).symm.trans h
        exact K_X3_drawsSticky_42 (d := d) h hk
def F_X3_drawsSticky (p1 : Int32) (p2 : Int32) (s : ModS) : Option (ModS) := (F_X3_draws s).bind (fun v1 => gI (nI 2) 637 (gZ (nI 65536) (gI (nI 0) 637 (gZ (((gM_nw v1) (Int32.toNatClampNeg (nI 0))) - (nI 2)) ((mWh (fun x => B_X3_drawsSticky_26 p1 p2 x.1 x.2 v1) fuel0 (((((gM_nw v1) (Int32.toNatClampNeg (nI 2))) / (nI 65536)) - (((gM_nw v1) (Int32.toNatClampNeg (nI 2))) / (nI 65536)) / (((gM_nw v1) (Int32.toNatClampNeg (nI 0))) - (nI 2)) * (((gM_nw v1) (Int32.toNatClampNeg (nI 0))) - (nI 2))), (nI 0))).bind (fun z12 => gI (((nI 77) + ((nI 6) * p1)) + p2) 637 (some ((mkM (gM_ss v1) (gM_ty v1) (gM_at v1) (gM_ft v1) (gM_mn v1) (gM_bd v1) (gM_no v1) (gM_fu v1) (upd (gM_nw v1) (Int32.toNatClampNeg (((nI 77) + ((nI 6) * p1)) + p2)) z12) (gM_as v1) (gM_pa v1) (gM_tx v1) (gM_od v1))))))))))
set_option maxRecDepth 100000 in
theorem E_X3_drawsSticky {d : Nat} {p1 : Int32} {p2 : Int32} {s : ModS} {q : ModS} (h : F_X3_drawsSticky p1 p2 s = some q) : mEv (d + 1) m_X3_drawsSticky none (0, [], [some (.ref 0), some (.int p1), some (.int p2), none, none], [], memM s) none (memM q) := by
  unfold F_X3_drawsSticky at h
  refine mEv.stp 2 (S' := (1, _, [some (.ref 0), some (.int p1), some (.int p2), none, none], [.ref 0], memM s)) rfl ?_
  obtain ⟨v1, e2, h⟩ := bnd h
  refine mEv.callV (As := []) (st := []) (h := 0) (r := none) (μ1 := memM v1) lk_X3_76 rfl rfl rfl rfl rfl (A_X3_draws (d := d + 0) e2) ?_
  refine mEv.stp 0 (S' := (4, _, [some (.ref 0), some (.int p1), some (.int p2), none, none], [], memM v1)) rfl ?_
  obtain ⟨g3, h⟩ := gI_some h
  refine mEv.gd 4 (S' := (10, _, [some (.ref 0), some (.int p1), some (.int p2), none, none], [.int ((gM_nw v1) (Int32.toNatClampNeg (nI 2)))], memM v1)) rfl g3 ?_
  obtain ⟨g4, h⟩ := gZ_some h
  refine mEv.gd 2 (S' := (13, _, [some (.ref 0), some (.int p1), some (.int p2), none, none], [.int (((gM_nw v1) (Int32.toNatClampNeg (nI 2))) / (nI 65536))], memM v1)) rfl g4 ?_
  obtain ⟨g5, h⟩ := gI_some h
  refine mEv.gd 4 (S' := (19, _, [some (.ref 0), some (.int p1), some (.int p2), none, none], [.int ((gM_nw v1) (Int32.toNatClampNeg (nI 0))), .int (((gM_nw v1) (Int32.toNatClampNeg (nI 2))) / (nI 65536))], memM v1)) rfl g5 ?_
  obtain ⟨g6, h⟩ := gZ_some h
  refine mEv.gd 3 (S' := (22, _, [some (.ref 0), some (.int p1), some (.int p2), none, none], [.int ((((gM_nw v1) (Int32.toNatClampNeg (nI 2))) / (nI 65536)) - (((gM_nw v1) (Int32.toNatClampNeg (nI 2))) / (nI 65536)) / (((gM_nw v1) (Int32.toNatClampNeg (nI 0))) - (nI 2)) * (((gM_nw v1) (Int32.toNatClampNeg (nI 0))) - (nI 2)))], memM v1)) rfl g6 ?_
  refine mEv.stp 3 (S' := (26, [], [some (.ref 0), some (.int p1), some (.int p2), some (.int ((((gM_nw v1) (Int32.toNatClampNeg (nI 2))) / (nI 65536)) - (((gM_nw v1) (Int32.toNatClampNeg (nI 2))) / (nI 65536)) / (((gM_nw v1) (Int32.toNatClampNeg (nI 0))) - (nI 2)) * (((gM_nw v1) (Int32.toNatClampNeg (nI 0))) - (nI 2)))), some (.int (nI 0))], [], memM v1)) rfl ?_
  obtain ⟨z12, e13, h⟩ := bnd h
  refine mWh_ind (b := (fun x => B_X3_drawsSticky_26 p1 p2 x.1 x.2 v1)) (P := fun x : Int32 × Int32 => mEv (d + 1) m_X3_drawsSticky none (26, [], [some (.ref 0), some (.int p1), some (.int p2), some (.int x.1), some (.int x.2)], [], memM v1) none (memM q)) (K := fun z : Int32 => mEv (d + 1) m_X3_drawsSticky none (68, [], [some (.ref 0), some (.int p1), some (.int p2), none, some (.int z)], [], memM v1) none (memM q)) (fun x u hq hk => H_X3_drawsSticky_26 (d := d) (x1 := p1) (x2 := p2) (x3 := x.1) (x4 := x.2) (s := v1) (q := u) (r0 := none) (mu0 := (memM q)) hq hk) fuel0 (((((gM_nw v1) (Int32.toNatClampNeg (nI 2))) / (nI 65536)) - (((gM_nw v1) (Int32.toNatClampNeg (nI 2))) / (nI 65536)) / (((gM_nw v1) (Int32.toNatClampNeg (nI 0))) - (nI 2)) * (((gM_nw v1) (Int32.toNatClampNeg (nI 0))) - (nI 2))), (nI 0)) z12 e13 ?_
  refine mEv.stp 0 (S' := (68, [], [some (.ref 0), some (.int p1), some (.int p2), none, some (.int z12)], [], memM v1)) rfl ?_
  obtain ⟨g14, h⟩ := gI_some h
  refine mEv.gd 12 (S' := (84, _, [some (.ref 0), some (.int p1), some (.int p2), none, some (.int z12)], [], memMx (gM_ss v1) (gM_ty v1) (gM_at v1) (gM_ft v1) (gM_mn v1) (gM_bd v1) (gM_no v1) (gM_fu v1) (upd (gM_nw v1) (Int32.toNatClampNeg (((nI 77) + ((nI 6) * p1)) + p2)) z12) (gM_as v1) (gM_pa v1) (gM_tx v1) (gM_od v1))) rfl g14 ?_
  obtain rfl := Option.some.inj h
  exact mEv.tgt memM_mk (mEv.retv rfl)
theorem A_X3_drawsSticky {d : Nat} {p1 : Int32} {p2 : Int32} {s : ModS} {q : ModS} (h : F_X3_drawsSticky p1 p2 s = some q) : mCall (d + 1) m_X3_drawsSticky [.ref 0, .int p1, .int p2] (memM s) none (memM q) := mCall.intro ok_X3_drawsSticky pl_X3_drawsSticky rfl (E_X3_drawsSticky (d := d) h)
def F_X3_hasMore (p1 : Int32) (p2 : Int32) (s : ModS) : Option (Int32) := (F_X3_free p1 p2 s).bind (fun v1 => (F_X3_pairOf p1 p2).bind (fun v3 => gI ((nI 41) + v3) 637 (if v1 ≤ ((gM_nw s) (Int32.toNatClampNeg ((nI 41) + v3))) then (some ((nI 0))) else (some ((nI 1))))))
set_option maxRecDepth 100000 in
theorem E_X3_hasMore {d : Nat} {p1 : Int32} {p2 : Int32} {s : ModS} {q : Int32} (h : F_X3_hasMore p1 p2 s = some q) : mEv (d + 3) m_X3_hasMore none (0, [], [some (.ref 0), some (.int p1), some (.int p2)], [], memM s) (some (Value.int q)) (memM s) := by
  unfold F_X3_hasMore at h
  refine mEv.stp 4 (S' := (3, _, [some (.ref 0), some (.int p1), some (.int p2)], [.int p2, .int p1, .ref 0], memM s)) rfl ?_
  obtain ⟨v1, e2, h⟩ := bnd h
  refine mEv.callV (As := [.int p1, .int p2]) (st := []) (h := 0) (r := (some (.int v1))) (μ1 := memM s) lk_X3_67 rfl rfl rfl rfl rfl (A_X3_free (d := d + 0) e2) ?_
  refine mEv.stp 0 (S' := (6, _, [some (.ref 0), some (.int p1), some (.int p2)], [.int v1], memM s)) rfl ?_
  refine mEv.stp 5 (S' := (14, _, [some (.ref 0), some (.int p1), some (.int p2)], [.int p2, .int p1, .int (nI 41), .ref 1, .int v1], memM s)) rfl ?_
  obtain ⟨v3, e4, h⟩ := bnd h
  refine mEv.callS (As := [.int p1, .int p2]) (st := [.int (nI 41), .ref 1, .int v1]) (r := (some (.int v3))) (μ1 := memM s) lk_X3_58 rfl rfl rfl (A_X3_pairOf (d := d + 2) e4) ?_
  refine mEv.stp 0 (S' := (17, _, [some (.ref 0), some (.int p1), some (.int p2)], [.int v3, .int (nI 41), .ref 1, .int v1], memM s)) rfl ?_
  obtain ⟨g5, h⟩ := gI_some h
  refine mEv.gd 2 (S' := (19, _, [some (.ref 0), some (.int p1), some (.int p2)], [.int ((gM_nw s) (Int32.toNatClampNeg ((nI 41) + v3))), .int v1], memM s)) rfl g5 ?_
  refine mEv.br 1 (S1 := (26, [], [some (.ref 0), some (.int p1), some (.int p2)], [], memM s)) (S2 := (22, _, [some (.ref 0), some (.int p1), some (.int p2)], [], memM s)) rfl (fun c6 => ?_) (fun c6 => ?_)
  · have h := (if_pos c6).symm.trans h
    obtain rfl := Option.some.inj h
    exact mEv.stp 3 (S' := (27, _, [some (.ref 0), some (.int p1), some (.int p2)], [.int (nI 0)], memM s)) rfl (mEv.reti ⟨_, rfl, rfl⟩)
  · have h := (if_neg c6).symm.trans h
    obtain rfl := Option.some.inj h
    exact mEv.stp 3 (S' := (27, _, [some (.ref 0), some (.int p1), some (.int p2)], [.int (nI 1)], memM s)) rfl (mEv.reti ⟨_, rfl, rfl⟩)
theorem A_X3_hasMore {d : Nat} {p1 : Int32} {p2 : Int32} {s : ModS} {q : Int32} (h : F_X3_hasMore p1 p2 s = some q) : mCall (d + 3) m_X3_hasMore [.ref 0, .int p1, .int p2] (memM s) (some (Value.int q)) (memM s) := mCall.intro ok_X3_hasMore pl_X3_hasMore rfl (E_X3_hasMore (d := d) h)
def F_X3_counts (p1 : Int32) (p2 : Int32) (p3 : Int32) (s : ModS) : Option (ModS) := gI (((nI 113) + ((nI 5) * (((nI 6) * p1) + p2))) + p3) 637 (gI (((nI 113) + ((nI 5) * (((nI 6) * p1) + p2))) + p3) 637 (some ((mkM (gM_ss s) (gM_ty s) (gM_at s) (gM_ft s) (gM_mn s) (gM_bd s) (gM_no s) (gM_fu s) (upd (gM_nw s) (Int32.toNatClampNeg (((nI 113) + ((nI 5) * (((nI 6) * p1) + p2))) + p3)) (((gM_nw s) (Int32.toNatClampNeg (((nI 113) + ((nI 5) * (((nI 6) * p1) + p2))) + p3))) + (nI 1))) (gM_as s) (gM_pa s) (gM_tx s) (gM_od s)))))
set_option maxRecDepth 100000 in
theorem E_X3_counts {d : Nat} {p1 : Int32} {p2 : Int32} {p3 : Int32} {s : ModS} {q : ModS} (h : F_X3_counts p1 p2 p3 s = some q) : mEv d m_X3_counts none (0, [], [some (.ref 0), some (.int p1), some (.int p2), some (.int p3)], [], memM s) none (memM q) := by
  unfold F_X3_counts at h
  obtain ⟨g1, h⟩ := gI_some h
  refine mEv.gd 16 (S' := (19, _, [some (.ref 0), some (.int p1), some (.int p2), some (.int p3)], [.int ((gM_nw s) (Int32.toNatClampNeg (((nI 113) + ((nI 5) * (((nI 6) * p1) + p2))) + p3))), .int (((nI 113) + ((nI 5) * (((nI 6) * p1) + p2))) + p3), .ref 1], memM s)) rfl g1 ?_
  obtain ⟨g2, h⟩ := gI_some h
  refine mEv.gd 3 (S' := (22, _, [some (.ref 0), some (.int p1), some (.int p2), some (.int p3)], [], memMx (gM_ss s) (gM_ty s) (gM_at s) (gM_ft s) (gM_mn s) (gM_bd s) (gM_no s) (gM_fu s) (upd (gM_nw s) (Int32.toNatClampNeg (((nI 113) + ((nI 5) * (((nI 6) * p1) + p2))) + p3)) (((gM_nw s) (Int32.toNatClampNeg (((nI 113) + ((nI 5) * (((nI 6) * p1) + p2))) + p3))) + (nI 1))) (gM_as s) (gM_pa s) (gM_tx s) (gM_od s))) rfl g2 ?_
  obtain rfl := Option.some.inj h
  exact mEv.tgt memM_mk (mEv.retv rfl)
theorem A_X3_counts {d : Nat} {p1 : Int32} {p2 : Int32} {p3 : Int32} {s : ModS} {q : ModS} (h : F_X3_counts p1 p2 p3 s = some q) : mCall d m_X3_counts [.ref 0, .int p1, .int p2, .int p3] (memM s) none (memM q) := mCall.intro ok_X3_counts pl_X3_counts rfl (E_X3_counts (d := d) h)
def J_X3_goes_76 (y0 : Int32) (y1 : Int32) (y2 : Int32) (s : ModS) : Option (ModS) := (F_X3_counts y2 y1 y0 s).bind (fun v9 => some (v9))
set_option maxRecDepth 100000 in
theorem K_X3_goes_76 {d : Nat} {y0 : Int32} {y1 : Int32} {y2 : Int32} {s : ModS} {q : ModS} (h : J_X3_goes_76 y0 y1 y2 s = some q) : mEv (d + 1) m_X3_goes none (76, [], [none, none, none, none, none, none], [.int y0, .int y1, .int y2, .ref 0], memM s) none (memM q) := by
  unfold J_X3_goes_76 at h
  refine mEv.stp 1 (S' := (76, _, [none, none, none, none, none, none], [.int y0, .int y1, .int y2, .ref 0], memM s)) rfl ?_
  obtain ⟨v9, e10, h⟩ := bnd h
  refine mEv.callV (As := [.int y2, .int y1, .int y0]) (st := []) (h := 0) (r := none) (μ1 := memM v9) lk_X3_80 rfl rfl rfl rfl rfl (A_X3_counts (d := d + 0) e10) ?_
  refine mEv.stp 0 (S' := (79, _, [none, none, none, none, none, none], [], memM v9)) rfl ?_
  obtain rfl := Option.some.inj h
  exact mEv.retv rfl
def F_X3_goes (p1 : Int32) (p2 : Int32) (p3 : Int32) (p4 : Int32) (s : ModS) : Option (ModS) := gI (nI 4) 637 (gI ((nI 317) + ((nI 4) * ((gM_nw s) (Int32.toNatClampNeg (nI 4))))) 637 (gI (((nI 317) + ((nI 4) * ((gM_nw s) (Int32.toNatClampNeg (nI 4))))) + (nI 1)) 637 (gI (((nI 317) + ((nI 4) * ((gM_nw s) (Int32.toNatClampNeg (nI 4))))) + (nI 2)) 637 (gI (((nI 317) + ((nI 4) * ((gM_nw s) (Int32.toNatClampNeg (nI 4))))) + (nI 3)) 637 (gI (nI 4) 637 (gI (nI 4) 637 (if ¬ p3 = (-nI 1) then (J_X3_goes_76 (nI 2) p2 p1 (mkM (gM_ss s) (gM_ty s) (gM_at s) (gM_ft s) (gM_mn s) (gM_bd s) (gM_no s) (gM_fu s) (upd (upd (upd (upd (upd (gM_nw s) (Int32.toNatClampNeg ((nI 317) + ((nI 4) * ((gM_nw s) (Int32.toNatClampNeg (nI 4)))))) p1) (Int32.toNatClampNeg (((nI 317) + ((nI 4) * ((gM_nw s) (Int32.toNatClampNeg (nI 4))))) + (nI 1))) p2) (Int32.toNatClampNeg (((nI 317) + ((nI 4) * ((gM_nw s) (Int32.toNatClampNeg (nI 4))))) + (nI 2))) p3) (Int32.toNatClampNeg (((nI 317) + ((nI 4) * ((gM_nw s) (Int32.toNatClampNeg (nI 4))))) + (nI 3))) p4) (Int32.toNatClampNeg (nI 4)) (((upd (upd (upd (upd (gM_nw s) (Int32.toNatClampNeg ((nI 317) + ((nI 4) * ((gM_nw s) (Int32.toNatClampNeg (nI 4)))))) p1) (Int32.toNatClampNeg (((nI 317) + ((nI 4) * ((gM_nw s) (Int32.toNatClampNeg (nI 4))))) + (nI 1))) p2) (Int32.toNatClampNeg (((nI 317) + ((nI 4) * ((gM_nw s) (Int32.toNatClampNeg (nI 4))))) + (nI 2))) p3) (Int32.toNatClampNeg (((nI 317) + ((nI 4) * ((gM_nw s) (Int32.toNatClampNeg (nI 4))))) + (nI 3))) p4) (Int32.toNatClampNeg (nI 4))) + (nI 1))) (gM_as s) (gM_pa s) (gM_tx s) (gM_od s))) else (J_X3_goes_76 (nI 1) p2 p1 (mkM (gM_ss s) (gM_ty s) (gM_at s) (gM_ft s) (gM_mn s) (gM_bd s) (gM_no s) (gM_fu s) (upd (upd (upd (upd (upd (gM_nw s) (Int32.toNatClampNeg ((nI 317) + ((nI 4) * ((gM_nw s) (Int32.toNatClampNeg (nI 4)))))) p1) (Int32.toNatClampNeg (((nI 317) + ((nI 4) * ((gM_nw s) (Int32.toNatClampNeg (nI 4))))) + (nI 1))) p2) (Int32.toNatClampNeg (((nI 317) + ((nI 4) * ((gM_nw s) (Int32.toNatClampNeg (nI 4))))) + (nI 2))) p3) (Int32.toNatClampNeg (((nI 317) + ((nI 4) * ((gM_nw s) (Int32.toNatClampNeg (nI 4))))) + (nI 3))) p4) (Int32.toNatClampNeg (nI 4)) (((upd (upd (upd (upd (gM_nw s) (Int32.toNatClampNeg ((nI 317) + ((nI 4) * ((gM_nw s) (Int32.toNatClampNeg (nI 4)))))) p1) (Int32.toNatClampNeg (((nI 317) + ((nI 4) * ((gM_nw s) (Int32.toNatClampNeg (nI 4))))) + (nI 1))) p2) (Int32.toNatClampNeg (((nI 317) + ((nI 4) * ((gM_nw s) (Int32.toNatClampNeg (nI 4))))) + (nI 2))) p3) (Int32.toNatClampNeg (((nI 317) + ((nI 4) * ((gM_nw s) (Int32.toNatClampNeg (nI 4))))) + (nI 3))) p4) (Int32.toNatClampNeg (nI 4))) + (nI 1))) (gM_as s) (gM_pa s) (gM_tx s) (gM_od s))))))))))
set_option maxRecDepth 100000 in
theorem E_X3_goes {d : Nat} {p1 : Int32} {p2 : Int32} {p3 : Int32} {p4 : Int32} {s : ModS} {q : ModS} (h : F_X3_goes p1 p2 p3 p4 s = some q) : mEv (d + 1) m_X3_goes none (0, [], [some (.ref 0), some (.int p1), some (.int p2), some (.int p3), some (.int p4), none], [], memM s) none (memM q) := by
  unfold F_X3_goes at h
  obtain ⟨g1, h⟩ := gI_some h
  refine mEv.gd 7 (S' := (10, _, [some (.ref 0), some (.int p1), some (.int p2), some (.int p3), some (.int p4), none], [.int ((gM_nw s) (Int32.toNatClampNeg (nI 4))), .int (nI 4), .int (nI 317)], memM s)) rfl g1 ?_
  obtain ⟨g2, h⟩ := gI_some h
  refine mEv.gd 8 (S' := (22, _, [some (.ref 0), some (.int p1), some (.int p2), some (.int p3), some (.int p4), some (.int ((nI 317) + ((nI 4) * ((gM_nw s) (Int32.toNatClampNeg (nI 4))))))], [], memMx (gM_ss s) (gM_ty s) (gM_at s) (gM_ft s) (gM_mn s) (gM_bd s) (gM_no s) (gM_fu s) (upd (gM_nw s) (Int32.toNatClampNeg ((nI 317) + ((nI 4) * ((gM_nw s) (Int32.toNatClampNeg (nI 4)))))) p1) (gM_as s) (gM_pa s) (gM_tx s) (gM_od s))) rfl g2 ?_
  obtain ⟨g3, h⟩ := gI_some h
  refine mEv.gd 7 (S' := (32, _, [some (.ref 0), some (.int p1), some (.int p2), some (.int p3), some (.int p4), some (.int ((nI 317) + ((nI 4) * ((gM_nw s) (Int32.toNatClampNeg (nI 4))))))], [], memMx (gM_ss s) (gM_ty s) (gM_at s) (gM_ft s) (gM_mn s) (gM_bd s) (gM_no s) (gM_fu s) (upd (upd (gM_nw s) (Int32.toNatClampNeg ((nI 317) + ((nI 4) * ((gM_nw s) (Int32.toNatClampNeg (nI 4)))))) p1) (Int32.toNatClampNeg (((nI 317) + ((nI 4) * ((gM_nw s) (Int32.toNatClampNeg (nI 4))))) + (nI 1))) p2) (gM_as s) (gM_pa s) (gM_tx s) (gM_od s))) rfl g3 ?_
  obtain ⟨g4, h⟩ := gI_some h
  refine mEv.gd 7 (S' := (42, _, [some (.ref 0), some (.int p1), some (.int p2), some (.int p3), some (.int p4), some (.int ((nI 317) + ((nI 4) * ((gM_nw s) (Int32.toNatClampNeg (nI 4))))))], [], memMx (gM_ss s) (gM_ty s) (gM_at s) (gM_ft s) (gM_mn s) (gM_bd s) (gM_no s) (gM_fu s) (upd (upd (upd (gM_nw s) (Int32.toNatClampNeg ((nI 317) + ((nI 4) * ((gM_nw s) (Int32.toNatClampNeg (nI 4)))))) p1) (Int32.toNatClampNeg (((nI 317) + ((nI 4) * ((gM_nw s) (Int32.toNatClampNeg (nI 4))))) + (nI 1))) p2) (Int32.toNatClampNeg (((nI 317) + ((nI 4) * ((gM_nw s) (Int32.toNatClampNeg (nI 4))))) + (nI 2))) p3) (gM_as s) (gM_pa s) (gM_tx s) (gM_od s))) rfl g4 ?_
  obtain ⟨g5, h⟩ := gI_some h
  refine mEv.gd 7 (S' := (53, _, [some (.ref 0), some (.int p1), some (.int p2), some (.int p3), some (.int p4), some (.int ((nI 317) + ((nI 4) * ((gM_nw s) (Int32.toNatClampNeg (nI 4))))))], [], memMx (gM_ss s) (gM_ty s) (gM_at s) (gM_ft s) (gM_mn s) (gM_bd s) (gM_no s) (gM_fu s) (upd (upd (upd (upd (gM_nw s) (Int32.toNatClampNeg ((nI 317) + ((nI 4) * ((gM_nw s) (Int32.toNatClampNeg (nI 4)))))) p1) (Int32.toNatClampNeg (((nI 317) + ((nI 4) * ((gM_nw s) (Int32.toNatClampNeg (nI 4))))) + (nI 1))) p2) (Int32.toNatClampNeg (((nI 317) + ((nI 4) * ((gM_nw s) (Int32.toNatClampNeg (nI 4))))) + (nI 2))) p3) (Int32.toNatClampNeg (((nI 317) + ((nI 4) * ((gM_nw s) (Int32.toNatClampNeg (nI 4))))) + (nI 3))) p4) (gM_as s) (gM_pa s) (gM_tx s) (gM_od s))) rfl g5 ?_
  obtain ⟨g6, h⟩ := gI_some h
  refine mEv.gd 5 (S' := (60, _, [some (.ref 0), some (.int p1), some (.int p2), some (.int p3), some (.int p4), some (.int ((nI 317) + ((nI 4) * ((gM_nw s) (Int32.toNatClampNeg (nI 4))))))], [.int ((upd (upd (upd (upd (gM_nw s) (Int32.toNatClampNeg ((nI 317) + ((nI 4) * ((gM_nw s) (Int32.toNatClampNeg (nI 4)))))) p1) (Int32.toNatClampNeg (((nI 317) + ((nI 4) * ((gM_nw s) (Int32.toNatClampNeg (nI 4))))) + (nI 1))) p2) (Int32.toNatClampNeg (((nI 317) + ((nI 4) * ((gM_nw s) (Int32.toNatClampNeg (nI 4))))) + (nI 2))) p3) (Int32.toNatClampNeg (((nI 317) + ((nI 4) * ((gM_nw s) (Int32.toNatClampNeg (nI 4))))) + (nI 3))) p4) (Int32.toNatClampNeg (nI 4))), .int (nI 4), .ref 1], memMx (gM_ss s) (gM_ty s) (gM_at s) (gM_ft s) (gM_mn s) (gM_bd s) (gM_no s) (gM_fu s) (upd (upd (upd (upd (gM_nw s) (Int32.toNatClampNeg ((nI 317) + ((nI 4) * ((gM_nw s) (Int32.toNatClampNeg (nI 4)))))) p1) (Int32.toNatClampNeg (((nI 317) + ((nI 4) * ((gM_nw s) (Int32.toNatClampNeg (nI 4))))) + (nI 1))) p2) (Int32.toNatClampNeg (((nI 317) + ((nI 4) * ((gM_nw s) (Int32.toNatClampNeg (nI 4))))) + (nI 2))) p3) (Int32.toNatClampNeg (((nI 317) + ((nI 4) * ((gM_nw s) (Int32.toNatClampNeg (nI 4))))) + (nI 3))) p4) (gM_as s) (gM_pa s) (gM_tx s) (gM_od s))) rfl g6 ?_
  obtain ⟨g7, h⟩ := gI_some h
  refine mEv.gd 3 (S' := (63, _, [some (.ref 0), some (.int p1), some (.int p2), some (.int p3), some (.int p4), some (.int ((nI 317) + ((nI 4) * ((gM_nw s) (Int32.toNatClampNeg (nI 4))))))], [], memMx (gM_ss s) (gM_ty s) (gM_at s) (gM_ft s) (gM_mn s) (gM_bd s) (gM_no s) (gM_fu s) (upd (upd (upd (upd (upd (gM_nw s) (Int32.toNatClampNeg ((nI 317) + ((nI 4) * ((gM_nw s) (Int32.toNatClampNeg (nI 4)))))) p1) (Int32.toNatClampNeg (((nI 317) + ((nI 4) * ((gM_nw s) (Int32.toNatClampNeg (nI 4))))) + (nI 1))) p2) (Int32.toNatClampNeg (((nI 317) + ((nI 4) * ((gM_nw s) (Int32.toNatClampNeg (nI 4))))) + (nI 2))) p3) (Int32.toNatClampNeg (((nI 317) + ((nI 4) * ((gM_nw s) (Int32.toNatClampNeg (nI 4))))) + (nI 3))) p4) (Int32.toNatClampNeg (nI 4)) (((upd (upd (upd (upd (gM_nw s) (Int32.toNatClampNeg ((nI 317) + ((nI 4) * ((gM_nw s) (Int32.toNatClampNeg (nI 4)))))) p1) (Int32.toNatClampNeg (((nI 317) + ((nI 4) * ((gM_nw s) (Int32.toNatClampNeg (nI 4))))) + (nI 1))) p2) (Int32.toNatClampNeg (((nI 317) + ((nI 4) * ((gM_nw s) (Int32.toNatClampNeg (nI 4))))) + (nI 2))) p3) (Int32.toNatClampNeg (((nI 317) + ((nI 4) * ((gM_nw s) (Int32.toNatClampNeg (nI 4))))) + (nI 3))) p4) (Int32.toNatClampNeg (nI 4))) + (nI 1))) (gM_as s) (gM_pa s) (gM_tx s) (gM_od s))) rfl g7 ?_
  refine mEv.br 6 (S1 := (75, [], [some (.ref 0), some (.int p1), some (.int p2), some (.int p3), some (.int p4), some (.int ((nI 317) + ((nI 4) * ((gM_nw s) (Int32.toNatClampNeg (nI 4))))))], [.int p2, .int p1, .ref 0], memMx (gM_ss s) (gM_ty s) (gM_at s) (gM_ft s) (gM_mn s) (gM_bd s) (gM_no s) (gM_fu s) (upd (upd (upd (upd (upd (gM_nw s) (Int32.toNatClampNeg ((nI 317) + ((nI 4) * ((gM_nw s) (Int32.toNatClampNeg (nI 4)))))) p1) (Int32.toNatClampNeg (((nI 317) + ((nI 4) * ((gM_nw s) (Int32.toNatClampNeg (nI 4))))) + (nI 1))) p2) (Int32.toNatClampNeg (((nI 317) + ((nI 4) * ((gM_nw s) (Int32.toNatClampNeg (nI 4))))) + (nI 2))) p3) (Int32.toNatClampNeg (((nI 317) + ((nI 4) * ((gM_nw s) (Int32.toNatClampNeg (nI 4))))) + (nI 3))) p4) (Int32.toNatClampNeg (nI 4)) (((upd (upd (upd (upd (gM_nw s) (Int32.toNatClampNeg ((nI 317) + ((nI 4) * ((gM_nw s) (Int32.toNatClampNeg (nI 4)))))) p1) (Int32.toNatClampNeg (((nI 317) + ((nI 4) * ((gM_nw s) (Int32.toNatClampNeg (nI 4))))) + (nI 1))) p2) (Int32.toNatClampNeg (((nI 317) + ((nI 4) * ((gM_nw s) (Int32.toNatClampNeg (nI 4))))) + (nI 2))) p3) (Int32.toNatClampNeg (((nI 317) + ((nI 4) * ((gM_nw s) (Int32.toNatClampNeg (nI 4))))) + (nI 3))) p4) (Int32.toNatClampNeg (nI 4))) + (nI 1))) (gM_as s) (gM_pa s) (gM_tx s) (gM_od s))) (S2 := (71, _, [some (.ref 0), some (.int p1), some (.int p2), some (.int p3), some (.int p4), some (.int ((nI 317) + ((nI 4) * ((gM_nw s) (Int32.toNatClampNeg (nI 4))))))], [.int p2, .int p1, .ref 0], memMx (gM_ss s) (gM_ty s) (gM_at s) (gM_ft s) (gM_mn s) (gM_bd s) (gM_no s) (gM_fu s) (upd (upd (upd (upd (upd (gM_nw s) (Int32.toNatClampNeg ((nI 317) + ((nI 4) * ((gM_nw s) (Int32.toNatClampNeg (nI 4)))))) p1) (Int32.toNatClampNeg (((nI 317) + ((nI 4) * ((gM_nw s) (Int32.toNatClampNeg (nI 4))))) + (nI 1))) p2) (Int32.toNatClampNeg (((nI 317) + ((nI 4) * ((gM_nw s) (Int32.toNatClampNeg (nI 4))))) + (nI 2))) p3) (Int32.toNatClampNeg (((nI 317) + ((nI 4) * ((gM_nw s) (Int32.toNatClampNeg (nI 4))))) + (nI 3))) p4) (Int32.toNatClampNeg (nI 4)) (((upd (upd (upd (upd (gM_nw s) (Int32.toNatClampNeg ((nI 317) + ((nI 4) * ((gM_nw s) (Int32.toNatClampNeg (nI 4)))))) p1) (Int32.toNatClampNeg (((nI 317) + ((nI 4) * ((gM_nw s) (Int32.toNatClampNeg (nI 4))))) + (nI 1))) p2) (Int32.toNatClampNeg (((nI 317) + ((nI 4) * ((gM_nw s) (Int32.toNatClampNeg (nI 4))))) + (nI 2))) p3) (Int32.toNatClampNeg (((nI 317) + ((nI 4) * ((gM_nw s) (Int32.toNatClampNeg (nI 4))))) + (nI 3))) p4) (Int32.toNatClampNeg (nI 4))) + (nI 1))) (gM_as s) (gM_pa s) (gM_tx s) (gM_od s))) rfl (fun c8 => ?_) (fun c8 => ?_)
  · have h := (if_pos c8).symm.trans h
    refine mEv.stp 2 (S' := (76, [], [some (.ref 0), some (.int p1), some (.int p2), some (.int p3), some (.int p4), some (.int ((nI 317) + ((nI 4) * ((gM_nw s) (Int32.toNatClampNeg (nI 4))))))], [.int (nI 2), .int p2, .int p1, .ref 0], memMx (gM_ss s) (gM_ty s) (gM_at s) (gM_ft s) (gM_mn s) (gM_bd s) (gM_no s) (gM_fu s) (upd (upd (upd (upd (upd (gM_nw s) (Int32.toNatClampNeg ((nI 317) + ((nI 4) * ((gM_nw s) (Int32.toNatClampNeg (nI 4)))))) p1) (Int32.toNatClampNeg (((nI 317) + ((nI 4) * ((gM_nw s) (Int32.toNatClampNeg (nI 4))))) + (nI 1))) p2) (Int32.toNatClampNeg (((nI 317) + ((nI 4) * ((gM_nw s) (Int32.toNatClampNeg (nI 4))))) + (nI 2))) p3) (Int32.toNatClampNeg (((nI 317) + ((nI 4) * ((gM_nw s) (Int32.toNatClampNeg (nI 4))))) + (nI 3))) p4) (Int32.toNatClampNeg (nI 4)) (((upd (upd (upd (upd (gM_nw s) (Int32.toNatClampNeg ((nI 317) + ((nI 4) * ((gM_nw s) (Int32.toNatClampNeg (nI 4)))))) p1) (Int32.toNatClampNeg (((nI 317) + ((nI 4) * ((gM_nw s) (Int32.toNatClampNeg (nI 4))))) + (nI 1))) p2) (Int32.toNatClampNeg (((nI 317) + ((nI 4) * ((gM_nw s) (Int32.toNatClampNeg (nI 4))))) + (nI 2))) p3) (Int32.toNatClampNeg (((nI 317) + ((nI 4) * ((gM_nw s) (Int32.toNatClampNeg (nI 4))))) + (nI 3))) p4) (Int32.toNatClampNeg (nI 4))) + (nI 1))) (gM_as s) (gM_pa s) (gM_tx s) (gM_od s))) rfl ?_
    refine mEv.fg [0, 1, 2, 3, 4, 5] (z' := [none, none, none, none, none, none]) rfl ?_
    refine mEv.mem memM_mk ?_
    exact K_X3_goes_76 (d := d) h
  · have h := (if_neg c8).symm.trans h
    refine mEv.stp 2 (S' := (76, [], [some (.ref 0), some (.int p1), some (.int p2), some (.int p3), some (.int p4), some (.int ((nI 317) + ((nI 4) * ((gM_nw s) (Int32.toNatClampNeg (nI 4))))))], [.int (nI 1), .int p2, .int p1, .ref 0], memMx (gM_ss s) (gM_ty s) (gM_at s) (gM_ft s) (gM_mn s) (gM_bd s) (gM_no s) (gM_fu s) (upd (upd (upd (upd (upd (gM_nw s) (Int32.toNatClampNeg ((nI 317) + ((nI 4) * ((gM_nw s) (Int32.toNatClampNeg (nI 4)))))) p1) (Int32.toNatClampNeg (((nI 317) + ((nI 4) * ((gM_nw s) (Int32.toNatClampNeg (nI 4))))) + (nI 1))) p2) (Int32.toNatClampNeg (((nI 317) + ((nI 4) * ((gM_nw s) (Int32.toNatClampNeg (nI 4))))) + (nI 2))) p3) (Int32.toNatClampNeg (((nI 317) + ((nI 4) * ((gM_nw s) (Int32.toNatClampNeg (nI 4))))) + (nI 3))) p4) (Int32.toNatClampNeg (nI 4)) (((upd (upd (upd (upd (gM_nw s) (Int32.toNatClampNeg ((nI 317) + ((nI 4) * ((gM_nw s) (Int32.toNatClampNeg (nI 4)))))) p1) (Int32.toNatClampNeg (((nI 317) + ((nI 4) * ((gM_nw s) (Int32.toNatClampNeg (nI 4))))) + (nI 1))) p2) (Int32.toNatClampNeg (((nI 317) + ((nI 4) * ((gM_nw s) (Int32.toNatClampNeg (nI 4))))) + (nI 2))) p3) (Int32.toNatClampNeg (((nI 317) + ((nI 4) * ((gM_nw s) (Int32.toNatClampNeg (nI 4))))) + (nI 3))) p4) (Int32.toNatClampNeg (nI 4))) + (nI 1))) (gM_as s) (gM_pa s) (gM_tx s) (gM_od s))) rfl ?_
    refine mEv.fg [0, 1, 2, 3, 4, 5] (z' := [none, none, none, none, none, none]) rfl ?_
    refine mEv.mem memM_mk ?_
    exact K_X3_goes_76 (d := d) h
theorem A_X3_goes {d : Nat} {p1 : Int32} {p2 : Int32} {p3 : Int32} {p4 : Int32} {s : ModS} {q : ModS} (h : F_X3_goes p1 p2 p3 p4 s = some q) : mCall (d + 1) m_X3_goes [.ref 0, .int p1, .int p2, .int p3, .int p4] (memM s) none (memM q) := mCall.intro ok_X3_goes pl_X3_goes rfl (E_X3_goes (d := d) h)
def J_X3_asks_112 (x1 : Int32) (x2 : Int32) (x3 : Int32) (x4 : Int32) (x6 : Int32) (s : ModS) : Option ((Int32 × ModS) ⊕ (Int32 × ModS)) := if x4 = (nI 1) then (some (.inl (((nI 2) + (nI 1)), s))) else (if x6 = (nI 0) then (some (.inl (((nI 2) + (nI 1)), s))) else (gI (nI 1) 637 (if ¬ ((gM_nw s) (Int32.toNatClampNeg (nI 1))) = (nI 0) then ((F_X3_counts x1 x2 (nI 3) s).bind (fun v23 => (F_X3_drawsSticky x1 x2 v23).bind (fun v25 => some (.inl ((x4 + (nI 1)), v25))))) else (some (.inl (((nI 2) + (nI 1)), s))))))
set_option maxRecDepth 100000 in
theorem K_X3_asks_112 {d : Nat} {x1 : Int32} {x2 : Int32} {x3 : Int32} {x4 : Int32} {x6 : Int32} {s : ModS} {q : (Int32 × ModS) ⊕ (Int32 × ModS)} {r0 : Option Value} {mu0 : MMe} (h : J_X3_asks_112 x1 x2 x3 x4 x6 s = some q) (hk : Sum.elim (fun x : Int32 × ModS => mEv (d + 4) m_X3_asks none (50, [], [some (.ref 0), some (.int x1), some (.int x2), some (.int x3), some (.int x.1), none, none, none], [], memM x.2) r0 mu0) (fun z : Int32 × ModS => r0 = (some (Value.int z.1)) ∧ mu0 = (memM z.2)) q) : mEv (d + 4) m_X3_asks none (112, [], [some (.ref 0), some (.int x1), some (.int x2), some (.int x3), some (.int x4), none, some (.int x6), none], [], memM s) r0 mu0 := by
  unfold J_X3_asks_112 at h
  refine mEv.br 4 (S1 := (132, [], [some (.ref 0), some (.int x1), some (.int x2), some (.int x3), some (.int x4), none, some (.int x6), none], [], memM s)) (S2 := (118, _, [some (.ref 0), some (.int x1), some (.int x2), some (.int x3), some (.int x4), none, some (.int x6), none], [], memM s)) rfl (fun c19 => ?_) (fun c19 => ?_)
  · have h := (if_pos c19).symm.trans h
    refine mEv.stp 7 (S' := (50, [], [some (.ref 0), some (.int x1), some (.int x2), some (.int x3), some (.int ((nI 2) + (nI 1))), none, some (.int x6), none], [], memM s)) rfl ?_
    refine mEv.fg [6] (z' := [some (.ref 0), some (.int x1), some (.int x2), some (.int x3), some (.int ((nI 2) + (nI 1))), none, none, none]) rfl ?_
    obtain rfl := Option.some.inj h
    exact hk
  · have h := (if_neg c19).symm.trans h
    refine mEv.br 2 (S1 := (132, [], [some (.ref 0), some (.int x1), some (.int x2), some (.int x3), some (.int x4), none, some (.int x6), none], [], memM s)) (S2 := (123, _, [some (.ref 0), some (.int x1), some (.int x2), some (.int x3), some (.int x4), none, some (.int x6), none], [], memM s)) rfl (fun c20 => ?_) (fun c20 => ?_)
    · have h := (if_pos c20).symm.trans h
      refine mEv.stp 7 (S' := (50, [], [some (.ref 0), some (.int x1), some (.int x2), some (.int x3), some (.int ((nI 2) + (nI 1))), none, some (.int x6), none], [], memM s)) rfl ?_
      refine mEv.fg [6] (z' := [some (.ref 0), some (.int x1), some (.int x2), some (.int x3), some (.int ((nI 2) + (nI 1))), none, none, none]) rfl ?_
      obtain rfl := Option.some.inj h
      exact hk
    · have h := (if_neg c20).symm.trans h
      obtain ⟨g21, h⟩ := gI_some h
      refine mEv.gd 4 (S' := (129, _, [some (.ref 0), some (.int x1), some (.int x2), some (.int x3), some (.int x4), none, some (.int x6), none], [.int ((gM_nw s) (Int32.toNatClampNeg (nI 1)))], memM s)) rfl g21 ?_
      refine mEv.br 1 (S1 := (138, [], [some (.ref 0), some (.int x1), some (.int x2), some (.int x3), some (.int x4), none, some (.int x6), none], [], memM s)) (S2 := (132, [], [some (.ref 0), some (.int x1), some (.int x2), some (.int x3), some (.int x4), none, some (.int x6), none], [], memM s)) rfl (fun c22 => ?_) (fun c22 => ?_)
      · have h := (if_pos c22).symm.trans h
        refine mEv.stp 5 (S' := (142, _, [some (.ref 0), some (.int x1), some (.int x2), some (.int x3), some (.int x4), none, some (.int x6), none], [.int (nI 3), .int x2, .int x1, .ref 0], memM s)) rfl ?_
        obtain ⟨v23, e24, h⟩ := bnd h
        refine mEv.callV (As := [.int x1, .int x2, .int (nI 3)]) (st := []) (h := 0) (r := none) (μ1 := memM v23) lk_X3_80 rfl rfl rfl rfl rfl (A_X3_counts (d := d + 3) e24) ?_
        refine mEv.stp 0 (S' := (145, _, [some (.ref 0), some (.int x1), some (.int x2), some (.int x3), some (.int x4), none, some (.int x6), none], [], memM v23)) rfl ?_
        refine mEv.stp 3 (S' := (148, _, [some (.ref 0), some (.int x1), some (.int x2), some (.int x3), some (.int x4), none, some (.int x6), none], [.int x2, .int x1, .ref 0], memM v23)) rfl ?_
        obtain ⟨v25, e26, h⟩ := bnd h
        refine mEv.callV (As := [.int x1, .int x2]) (st := []) (h := 0) (r := none) (μ1 := memM v25) lk_X3_91 rfl rfl rfl rfl rfl (A_X3_drawsSticky (d := d + 2) e26) ?_
        refine mEv.stp 0 (S' := (151, [], [some (.ref 0), some (.int x1), some (.int x2), some (.int x3), some (.int x4), none, some (.int x6), none], [], memM v25)) rfl ?_
        refine mEv.stp 3 (S' := (50, [], [some (.ref 0), some (.int x1), some (.int x2), some (.int x3), some (.int (x4 + (nI 1))), none, some (.int x6), none], [], memM v25)) rfl ?_
        refine mEv.fg [6] (z' := [some (.ref 0), some (.int x1), some (.int x2), some (.int x3), some (.int (x4 + (nI 1))), none, none, none]) rfl ?_
        obtain rfl := Option.some.inj h
        exact hk
      · have h := (if_neg c22).symm.trans h
        refine mEv.stp 7 (S' := (50, [], [some (.ref 0), some (.int x1), some (.int x2), some (.int x3), some (.int ((nI 2) + (nI 1))), none, some (.int x6), none], [], memM s)) rfl ?_
        refine mEv.fg [6] (z' := [some (.ref 0), some (.int x1), some (.int x2), some (.int x3), some (.int ((nI 2) + (nI 1))), none, none, none]) rfl ?_
        obtain rfl := Option.some.inj h
        exact hk
def B_X3_asks_50 (x1 : Int32) (x2 : Int32) (x3 : Int32) (x4 : Int32) (s : ModS) : Option ((Int32 × ModS) ⊕ (Int32 × ModS)) := if (nI 2) ≤ x4 then ((F_X3_counts x1 x2 (nI 4) s).bind (fun v9 => (F_X3_drawsSticky x1 x2 v9).bind (fun v11 => some (.inr (((-nI 5), v11)))))) else (gI (((nI 77) + ((nI 6) * x1)) + x2) 637 ((F_X3_hasMore x1 ((gM_nw s) (Int32.toNatClampNeg (((nI 77) + ((nI 6) * x1)) + x2))) s).bind (fun v14 => (F_X3_hasMore ((gM_nw s) (Int32.toNatClampNeg (((nI 77) + ((nI 6) * x1)) + x2))) x2 s).bind (fun v16 => if v14 = (nI 0) then (J_X3_asks_112 x1 x2 x3 x4 v14 s) else (if v16 = (nI 0) then (J_X3_asks_112 x1 x2 x3 x4 v14 s) else ((F_X3_goes x1 x2 ((gM_nw s) (Int32.toNatClampNeg (((nI 77) + ((nI 6) * x1)) + x2))) x3 s).bind (fun v28 => some (.inr ((((gM_nw s) (Int32.toNatClampNeg (((nI 77) + ((nI 6) * x1)) + x2))), v28))))))))))
set_option maxRecDepth 100000 in
theorem H_X3_asks_50 {d : Nat} {x1 : Int32} {x2 : Int32} {x3 : Int32} {x4 : Int32} {s : ModS} {q : (Int32 × ModS) ⊕ (Int32 × ModS)} {r0 : Option Value} {mu0 : MMe} (h : B_X3_asks_50 x1 x2 x3 x4 s = some q) (hk : Sum.elim (fun x : Int32 × ModS => mEv (d + 4) m_X3_asks none (50, [], [some (.ref 0), some (.int x1), some (.int x2), some (.int x3), some (.int x.1), none, none, none], [], memM x.2) r0 mu0) (fun z : Int32 × ModS => r0 = (some (Value.int z.1)) ∧ mu0 = (memM z.2)) q) : mEv (d + 4) m_X3_asks none (50, [], [some (.ref 0), some (.int x1), some (.int x2), some (.int x3), some (.int x4), none, none, none], [], memM s) r0 mu0 := by
  unfold B_X3_asks_50 at h
  refine mEv.br 4 (S1 := (157, [], [some (.ref 0), some (.int x1), some (.int x2), some (.int x3), some (.int x4), none, none, none], [], memM s)) (S2 := (56, _, [some (.ref 0), some (.int x1), some (.int x2), some (.int x3), some (.int x4), none, none, none], [], memM s)) rfl (fun c8 => ?_) (fun c8 => ?_)
  · have h := (if_pos c8).symm.trans h
    refine mEv.stp 5 (S' := (161, _, [some (.ref 0), some (.int x1), some (.int x2), some (.int x3), some (.int x4), none, none, none], [.int (nI 4), .int x2, .int x1, .ref 0], memM s)) rfl ?_
    obtain ⟨v9, e10, h⟩ := bnd h
    refine mEv.callV (As := [.int x1, .int x2, .int (nI 4)]) (st := []) (h := 0) (r := none) (μ1 := memM v9) lk_X3_80 rfl rfl rfl rfl rfl (A_X3_counts (d := d + 3) e10) ?_
    refine mEv.stp 0 (S' := (164, _, [some (.ref 0), some (.int x1), some (.int x2), some (.int x3), some (.int x4), none, none, none], [], memM v9)) rfl ?_
    refine mEv.stp 3 (S' := (167, _, [some (.ref 0), some (.int x1), some (.int x2), some (.int x3), some (.int x4), none, none, none], [.int x2, .int x1, .ref 0], memM v9)) rfl ?_
    obtain ⟨v11, e12, h⟩ := bnd h
    refine mEv.callV (As := [.int x1, .int x2]) (st := []) (h := 0) (r := none) (μ1 := memM v11) lk_X3_91 rfl rfl rfl rfl rfl (A_X3_drawsSticky (d := d + 2) e12) ?_
    refine mEv.stp 0 (S' := (170, _, [some (.ref 0), some (.int x1), some (.int x2), some (.int x3), some (.int x4), none, none, none], [], memM v11)) rfl ?_
    obtain rfl := Option.some.inj h
    obtain ⟨rfl, rfl⟩ := hk
    exact mEv.stp 1 (S' := (172, _, [some (.ref 0), some (.int x1), some (.int x2), some (.int x3), some (.int x4), none, none, none], [.int (-nI 5)], memM v11)) rfl (mEv.reti ⟨_, rfl, rfl⟩)
  · have h := (if_neg c8).symm.trans h
    obtain ⟨g13, h⟩ := gI_some h
    refine mEv.gd 10 (S' := (70, _, [some (.ref 0), some (.int x1), some (.int x2), some (.int x3), some (.int x4), none, none, none], [.int ((gM_nw s) (Int32.toNatClampNeg (((nI 77) + ((nI 6) * x1)) + x2)))], memM s)) rfl g13 ?_
    refine mEv.stp 4 (S' := (76, _, [some (.ref 0), some (.int x1), some (.int x2), some (.int x3), some (.int x4), some (.int ((gM_nw s) (Int32.toNatClampNeg (((nI 77) + ((nI 6) * x1)) + x2)))), none, none], [.int ((gM_nw s) (Int32.toNatClampNeg (((nI 77) + ((nI 6) * x1)) + x2))), .int x1, .ref 0], memM s)) rfl ?_
    obtain ⟨v14, e15, h⟩ := bnd h
    refine mEv.callV (As := [.int x1, .int ((gM_nw s) (Int32.toNatClampNeg (((nI 77) + ((nI 6) * x1)) + x2)))]) (st := []) (h := 0) (r := (some (.int v14))) (μ1 := memM s) lk_X3_88 rfl rfl rfl rfl rfl (A_X3_hasMore (d := d + 0) e15) ?_
    refine mEv.stp 0 (S' := (79, _, [some (.ref 0), some (.int x1), some (.int x2), some (.int x3), some (.int x4), some (.int ((gM_nw s) (Int32.toNatClampNeg (((nI 77) + ((nI 6) * x1)) + x2)))), none, none], [.int v14], memM s)) rfl ?_
    refine mEv.stp 4 (S' := (85, _, [some (.ref 0), some (.int x1), some (.int x2), some (.int x3), some (.int x4), some (.int ((gM_nw s) (Int32.toNatClampNeg (((nI 77) + ((nI 6) * x1)) + x2)))), some (.int v14), none], [.int x2, .int ((gM_nw s) (Int32.toNatClampNeg (((nI 77) + ((nI 6) * x1)) + x2))), .ref 0], memM s)) rfl ?_
    obtain ⟨v16, e17, h⟩ := bnd h
    refine mEv.callV (As := [.int ((gM_nw s) (Int32.toNatClampNeg (((nI 77) + ((nI 6) * x1)) + x2))), .int x2]) (st := []) (h := 0) (r := (some (.int v16))) (μ1 := memM s) lk_X3_88 rfl rfl rfl rfl rfl (A_X3_hasMore (d := d + 0) e17) ?_
    refine mEv.stp 0 (S' := (88, _, [some (.ref 0), some (.int x1), some (.int x2), some (.int x3), some (.int x4), some (.int ((gM_nw s) (Int32.toNatClampNeg (((nI 77) + ((nI 6) * x1)) + x2)))), some (.int v14), none], [.int v16], memM s)) rfl ?_
    refine mEv.br 3 (S1 := (112, [], [some (.ref 0), some (.int x1), some (.int x2), some (.int x3), some (.int x4), some (.int ((gM_nw s) (Int32.toNatClampNeg (((nI 77) + ((nI 6) * x1)) + x2)))), some (.int v14), some (.int v16)], [], memM s)) (S2 := (95, _, [some (.ref 0), some (.int x1), some (.int x2), some (.int x3), some (.int x4), some (.int ((gM_nw s) (Int32.toNatClampNeg (((nI 77) + ((nI 6) * x1)) + x2)))), some (.int v14), some (.int v16)], [], memM s)) rfl (fun c18 => ?_) (fun c18 => ?_)
    · have h := (if_pos c18).symm.trans h
      refine mEv.fg [5, 7] (z' := [some (.ref 0), some (.int x1), some (.int x2), some (.int x3), some (.int x4), none, some (.int v14), none]) rfl ?_
      exact K_X3_asks_112 (d := d) h hk
    · have h := (if_neg c18).symm.trans h
      refine mEv.br 2 (S1 := (112, [], [some (.ref 0), some (.int x1), some (.int x2), some (.int x3), some (.int x4), some (.int ((gM_nw s) (Int32.toNatClampNeg (((nI 77) + ((nI 6) * x1)) + x2)))), some (.int v14), some (.int v16)], [], memM s)) (S2 := (100, _, [some (.ref 0), some (.int x1), some (.int x2), some (.int x3), some (.int x4), some (.int ((gM_nw s) (Int32.toNatClampNeg (((nI 77) + ((nI 6) * x1)) + x2)))), some (.int v14), some (.int v16)], [], memM s)) rfl (fun c27 => ?_) (fun c27 => ?_)
      · have h := (if_pos c27).symm.trans h
        refine mEv.fg [5, 7] (z' := [some (.ref 0), some (.int x1), some (.int x2), some (.int x3), some (.int x4), none, some (.int v14), none]) rfl ?_
        exact K_X3_asks_112 (d := d) h hk
      · have h := (if_neg c27).symm.trans h
        refine mEv.stp 5 (S' := (106, _, [some (.ref 0), some (.int x1), some (.int x2), some (.int x3), some (.int x4), some (.int ((gM_nw s) (Int32.toNatClampNeg (((nI 77) + ((nI 6) * x1)) + x2)))), some (.int v14), some (.int v16)], [.int x3, .int ((gM_nw s) (Int32.toNatClampNeg (((nI 77) + ((nI 6) * x1)) + x2))), .int x2, .int x1, .ref 0], memM s)) rfl ?_
        obtain ⟨v28, e29, h⟩ := bnd h
        refine mEv.callV (As := [.int x1, .int x2, .int ((gM_nw s) (Int32.toNatClampNeg (((nI 77) + ((nI 6) * x1)) + x2))), .int x3]) (st := []) (h := 0) (r := none) (μ1 := memM v28) lk_X3_84 rfl rfl rfl rfl rfl (A_X3_goes (d := d + 2) e29) ?_
        refine mEv.stp 0 (S' := (109, _, [some (.ref 0), some (.int x1), some (.int x2), some (.int x3), some (.int x4), some (.int ((gM_nw s) (Int32.toNatClampNeg (((nI 77) + ((nI 6) * x1)) + x2)))), some (.int v14), some (.int v16)], [], memM v28)) rfl ?_
        obtain rfl := Option.some.inj h
        obtain ⟨rfl, rfl⟩ := hk
        exact mEv.stp 1 (S' := (111, _, [some (.ref 0), some (.int x1), some (.int x2), some (.int x3), some (.int x4), some (.int ((gM_nw s) (Int32.toNatClampNeg (((nI 77) + ((nI 6) * x1)) + x2)))), some (.int v14), some (.int v16)], [.int ((gM_nw s) (Int32.toNatClampNeg (((nI 77) + ((nI 6) * x1)) + x2)))], memM v28)) rfl (mEv.reti ⟨_, rfl, rfl⟩)
def F_X3_asks (p1 : Int32) (p2 : Int32) (p3 : Int32) (s : ModS) : Option (Int32 × ModS) := (F_X3_counts p1 p2 (nI 0) s).bind (fun v1 => gI (nI 4) 637 (if ¬ ((gM_nw v1) (Int32.toNatClampNeg (nI 4))) = (nI 80) then ((F_X3_free p1 p2 v1).bind (fun v5 => if v5 ≤ (nI 0) then ((mWh (fun x => B_X3_asks_50 p1 p2 p3 x.1 x.2) fuel0 ((nI 0), v1)).bind (fun z30 => some z30)) else ((F_X3_goes p1 p2 (-nI 1) p3 v1).bind (fun v32 => some (((-nI 1), v32)))))) else ((F_X3_counts p1 p2 (nI 4) v1).bind (fun v34 => some (((-nI 5), v34))))))
set_option maxRecDepth 100000 in
theorem E_X3_asks {d : Nat} {p1 : Int32} {p2 : Int32} {p3 : Int32} {s : ModS} {q : Int32 × ModS} (h : F_X3_asks p1 p2 p3 s = some q) : mEv (d + 4) m_X3_asks none (0, [], [some (.ref 0), some (.int p1), some (.int p2), some (.int p3), none, none, none, none], [], memM s) (some (Value.int q.1)) (memM q.2) := by
  unfold F_X3_asks at h
  refine mEv.stp 5 (S' := (4, _, [some (.ref 0), some (.int p1), some (.int p2), some (.int p3), none, none, none, none], [.int (nI 0), .int p2, .int p1, .ref 0], memM s)) rfl ?_
  obtain ⟨v1, e2, h⟩ := bnd h
  refine mEv.callV (As := [.int p1, .int p2, .int (nI 0)]) (st := []) (h := 0) (r := none) (μ1 := memM v1) lk_X3_80 rfl rfl rfl rfl rfl (A_X3_counts (d := d + 3) e2) ?_
  refine mEv.stp 0 (S' := (7, _, [some (.ref 0), some (.int p1), some (.int p2), some (.int p3), none, none, none, none], [], memM v1)) rfl ?_
  obtain ⟨g3, h⟩ := gI_some h
  refine mEv.gd 4 (S' := (13, _, [some (.ref 0), some (.int p1), some (.int p2), some (.int p3), none, none, none, none], [.int ((gM_nw v1) (Int32.toNatClampNeg (nI 4)))], memM v1)) rfl g3 ?_
  refine mEv.br 2 (S1 := (28, [], [some (.ref 0), some (.int p1), some (.int p2), some (.int p3), none, none, none, none], [], memM v1)) (S2 := (18, _, [some (.ref 0), some (.int p1), some (.int p2), some (.int p3), none, none, none, none], [], memM v1)) rfl (fun c4 => ?_) (fun c4 => ?_)
  · have h := (if_pos c4).symm.trans h
    refine mEv.stp 4 (S' := (31, _, [some (.ref 0), some (.int p1), some (.int p2), some (.int p3), none, none, none, none], [.int p2, .int p1, .ref 0], memM v1)) rfl ?_
    obtain ⟨v5, e6, h⟩ := bnd h
    refine mEv.callV (As := [.int p1, .int p2]) (st := []) (h := 0) (r := (some (.int v5))) (μ1 := memM v1) lk_X3_67 rfl rfl rfl rfl rfl (A_X3_free (d := d + 1) e6) ?_
    refine mEv.stp 0 (S' := (34, _, [some (.ref 0), some (.int p1), some (.int p2), some (.int p3), none, none, none, none], [.int v5], memM v1)) rfl ?_
    refine mEv.br 1 (S1 := (47, [], [some (.ref 0), some (.int p1), some (.int p2), some (.int p3), none, none, none, none], [], memM v1)) (S2 := (37, _, [some (.ref 0), some (.int p1), some (.int p2), some (.int p3), none, none, none, none], [], memM v1)) rfl (fun c7 => ?_) (fun c7 => ?_)
    · have h := (if_pos c7).symm.trans h
      refine mEv.stp 3 (S' := (50, [], [some (.ref 0), some (.int p1), some (.int p2), some (.int p3), some (.int (nI 0)), none, none, none], [], memM v1)) rfl ?_
      obtain ⟨z30, e31, h⟩ := bnd h
      obtain rfl := Option.some.inj h
      exact mWh_ind (b := (fun x => B_X3_asks_50 p1 p2 p3 x.1 x.2)) (P := fun x : Int32 × ModS => mEv (d + 4) m_X3_asks none (50, [], [some (.ref 0), some (.int p1), some (.int p2), some (.int p3), some (.int x.1), none, none, none], [], memM x.2) (some (Value.int z30.1)) (memM z30.2)) (K := fun z : Int32 × ModS => (some (Value.int z30.1)) = (some (Value.int z.1)) ∧ (memM z30.2) = (memM z.2)) (fun x u hq hk => H_X3_asks_50 (d := d) (x1 := p1) (x2 := p2) (x3 := p3) (x4 := x.1) (s := x.2) (q := u) (r0 := (some (Value.int z30.1))) (mu0 := (memM z30.2)) hq hk) fuel0 ((nI 0), v1) z30 e31 ⟨rfl, rfl⟩
    · have h := (if_neg c7).symm.trans h
      refine mEv.stp 5 (S' := (42, _, [some (.ref 0), some (.int p1), some (.int p2), some (.int p3), none, none, none, none], [.int p3, .int (-nI 1), .int p2, .int p1, .ref 0], memM v1)) rfl ?_
      obtain ⟨v32, e33, h⟩ := bnd h
      refine mEv.callV (As := [.int p1, .int p2, .int (-nI 1), .int p3]) (st := []) (h := 0) (r := none) (μ1 := memM v32) lk_X3_84 rfl rfl rfl rfl rfl (A_X3_goes (d := d + 2) e33) ?_
      refine mEv.stp 0 (S' := (45, _, [some (.ref 0), some (.int p1), some (.int p2), some (.int p3), none, none, none, none], [], memM v32)) rfl ?_
      obtain rfl := Option.some.inj h
      exact mEv.stp 1 (S' := (46, _, [some (.ref 0), some (.int p1), some (.int p2), some (.int p3), none, none, none, none], [.int (-nI 1)], memM v32)) rfl (mEv.reti ⟨_, rfl, rfl⟩)
  · have h := (if_neg c4).symm.trans h
    refine mEv.stp 4 (S' := (22, _, [some (.ref 0), some (.int p1), some (.int p2), some (.int p3), none, none, none, none], [.int (nI 4), .int p2, .int p1, .ref 0], memM v1)) rfl ?_
    obtain ⟨v34, e35, h⟩ := bnd h
    refine mEv.callV (As := [.int p1, .int p2, .int (nI 4)]) (st := []) (h := 0) (r := none) (μ1 := memM v34) lk_X3_80 rfl rfl rfl rfl rfl (A_X3_counts (d := d + 3) e35) ?_
    refine mEv.stp 0 (S' := (25, _, [some (.ref 0), some (.int p1), some (.int p2), some (.int p3), none, none, none, none], [], memM v34)) rfl ?_
    obtain rfl := Option.some.inj h
    exact mEv.stp 1 (S' := (27, _, [some (.ref 0), some (.int p1), some (.int p2), some (.int p3), none, none, none, none], [.int (-nI 5)], memM v34)) rfl (mEv.reti ⟨_, rfl, rfl⟩)
theorem A_X3_asks {d : Nat} {p1 : Int32} {p2 : Int32} {p3 : Int32} {s : ModS} {q : Int32 × ModS} (h : F_X3_asks p1 p2 p3 s = some q) : mCall (d + 4) m_X3_asks [.ref 0, .int p1, .int p2, .int p3] (memM s) (some (Value.int q.1)) (memM q.2) := mCall.intro ok_X3_asks pl_X3_asks rfl (E_X3_asks (d := d) h)
def J_X3_call_19  (s : ModS) : Option (Int32 × ModS) := (F_X3_bads s).bind (fun v4 => some ((v4.1, v4.2)))
set_option maxRecDepth 100000 in
theorem K_X3_call_19 {d : Nat}  {s : ModS} {q : Int32 × ModS} (h : J_X3_call_19 s = some q) : mEv (d + 5) m_X3_call none (19, [], [some (.ref 0), none, none, none], [], memM s) (some (Value.int q.1)) (memM q.2) := by
  unfold J_X3_call_19 at h
  refine mEv.stp 2 (S' := (20, _, [some (.ref 0), none, none, none], [.ref 0], memM s)) rfl ?_
  obtain ⟨v4, e5, h⟩ := bnd h
  refine mEv.callV (As := []) (st := []) (h := 0) (r := (some (.int v4.1))) (μ1 := memM v4.2) lk_X3_47 rfl rfl rfl rfl rfl (A_X3_bads (d := d + 4) e5) ?_
  refine mEv.stp 0 (S' := (23, _, [some (.ref 0), none, none, none], [.int v4.1], memM v4.2)) rfl ?_
  obtain rfl := Option.some.inj h
  exact mEv.reti ⟨_, rfl, rfl⟩
def F_X3_call (p1 : Int32) (p2 : Int32) (p3 : Int32) (s : ModS) : Option (Int32 × ModS) := (F_X3_areTowns p1 p2 s).bind (fun v1 => if v1 = (nI 0) then (J_X3_call_19 s) else ((F_X3_in p3 (nI 1) (nI 24)).bind (fun v6 => if ¬ v6 = (nI 0) then (gI (nI 4) 637 (if ¬ ((gM_nw s) (Int32.toNatClampNeg (nI 4))) = (nI 80) then ((F_X3_keeps s).bind (fun v11 => (F_X3_asks p1 p2 p3 v11).bind (fun v13 => some ((v13.1, v13.2))))) else (some (((-nI 4), (mkM (gM_ss s) (gM_ty s) (gM_at s) (gM_ft s) (gM_mn s) (gM_bd s) (gM_no s) ((gM_fu s) + (nI 1)) (gM_nw s) (gM_as s) (gM_pa s) (gM_tx s) (gM_od s))))))) else (J_X3_call_19 s))))
set_option maxRecDepth 100000 in
theorem E_X3_call {d : Nat} {p1 : Int32} {p2 : Int32} {p3 : Int32} {s : ModS} {q : Int32 × ModS} (h : F_X3_call p1 p2 p3 s = some q) : mEv (d + 5) m_X3_call none (0, [], [some (.ref 0), some (.int p1), some (.int p2), some (.int p3)], [], memM s) (some (Value.int q.1)) (memM q.2) := by
  unfold F_X3_call at h
  refine mEv.stp 4 (S' := (3, _, [some (.ref 0), some (.int p1), some (.int p2), some (.int p3)], [.int p2, .int p1, .ref 0], memM s)) rfl ?_
  obtain ⟨v1, e2, h⟩ := bnd h
  refine mEv.callV (As := [.int p1, .int p2]) (st := []) (h := 0) (r := (some (.int v1))) (μ1 := memM s) lk_X3_54 rfl rfl rfl rfl rfl (A_X3_areTowns (d := d + 2) e2) ?_
  refine mEv.stp 0 (S' := (6, _, [some (.ref 0), some (.int p1), some (.int p2), some (.int p3)], [.int v1], memM s)) rfl ?_
  refine mEv.br 1 (S1 := (19, [], [some (.ref 0), some (.int p1), some (.int p2), some (.int p3)], [], memM s)) (S2 := (9, _, [some (.ref 0), some (.int p1), some (.int p2), some (.int p3)], [], memM s)) rfl (fun c3 => ?_) (fun c3 => ?_)
  · have h := (if_pos c3).symm.trans h
    refine mEv.fg [1, 2, 3] (z' := [some (.ref 0), none, none, none]) rfl ?_
    exact K_X3_call_19 (d := d) h
  · have h := (if_neg c3).symm.trans h
    refine mEv.stp 3 (S' := (13, _, [some (.ref 0), some (.int p1), some (.int p2), some (.int p3)], [.int (nI 24), .int (nI 1), .int p3], memM s)) rfl ?_
    obtain ⟨v6, e7, h⟩ := bnd h
    refine mEv.callS (As := [.int p3, .int (nI 1), .int (nI 24)]) (st := []) (r := (some (.int v6))) (μ1 := memM s) lk_X3_36 rfl rfl rfl (A_X3_in (d := d + 4) e7) ?_
    refine mEv.stp 0 (S' := (16, _, [some (.ref 0), some (.int p1), some (.int p2), some (.int p3)], [.int v6], memM s)) rfl ?_
    refine mEv.br 1 (S1 := (24, [], [some (.ref 0), some (.int p1), some (.int p2), some (.int p3)], [], memM s)) (S2 := (19, [], [some (.ref 0), some (.int p1), some (.int p2), some (.int p3)], [], memM s)) rfl (fun c8 => ?_) (fun c8 => ?_)
    · have h := (if_pos c8).symm.trans h
      obtain ⟨g9, h⟩ := gI_some h
      refine mEv.gd 5 (S' := (30, _, [some (.ref 0), some (.int p1), some (.int p2), some (.int p3)], [.int ((gM_nw s) (Int32.toNatClampNeg (nI 4)))], memM s)) rfl g9 ?_
      refine mEv.br 2 (S1 := (48, [], [some (.ref 0), some (.int p1), some (.int p2), some (.int p3)], [], memM s)) (S2 := (35, _, [some (.ref 0), some (.int p1), some (.int p2), some (.int p3)], [], memM s)) rfl (fun c10 => ?_) (fun c10 => ?_)
      · have h := (if_pos c10).symm.trans h
        refine mEv.stp 2 (S' := (49, _, [some (.ref 0), some (.int p1), some (.int p2), some (.int p3)], [.ref 0], memM s)) rfl ?_
        obtain ⟨v11, e12, h⟩ := bnd h
        refine mEv.callV (As := []) (st := []) (h := 0) (r := none) (μ1 := memM v11) lk_X3_51 rfl rfl rfl rfl rfl (A_X3_keeps (d := d + 4) e12) ?_
        refine mEv.stp 0 (S' := (52, _, [some (.ref 0), some (.int p1), some (.int p2), some (.int p3)], [], memM v11)) rfl ?_
        refine mEv.stp 4 (S' := (56, _, [some (.ref 0), some (.int p1), some (.int p2), some (.int p3)], [.int p3, .int p2, .int p1, .ref 0], memM v11)) rfl ?_
        obtain ⟨v13, e14, h⟩ := bnd h
        refine mEv.callV (As := [.int p1, .int p2, .int p3]) (st := []) (h := 0) (r := (some (.int v13.1))) (μ1 := memM v13.2) lk_X3_98 rfl rfl rfl rfl rfl (A_X3_asks (d := d + 0) e14) ?_
        refine mEv.stp 0 (S' := (59, _, [some (.ref 0), some (.int p1), some (.int p2), some (.int p3)], [.int v13.1], memM v13.2)) rfl ?_
        obtain rfl := Option.some.inj h
        exact mEv.reti ⟨_, rfl, rfl⟩
      · have h := (if_neg c10).symm.trans h
        obtain rfl := Option.some.inj h
        exact mEv.tgt memM_mk (mEv.stp 7 (S' := (47, _, [some (.ref 0), some (.int p1), some (.int p2), some (.int p3)], [.int (-nI 4)], memMx (gM_ss s) (gM_ty s) (gM_at s) (gM_ft s) (gM_mn s) (gM_bd s) (gM_no s) ((gM_fu s) + (nI 1)) (gM_nw s) (gM_as s) (gM_pa s) (gM_tx s) (gM_od s))) rfl (mEv.reti ⟨_, rfl, rfl⟩))
    · have h := (if_neg c8).symm.trans h
      refine mEv.fg [1, 2, 3] (z' := [some (.ref 0), none, none, none]) rfl ?_
      exact K_X3_call_19 (d := d) h
theorem A_X3_call {d : Nat} {p1 : Int32} {p2 : Int32} {p3 : Int32} {s : ModS} {q : Int32 × ModS} (h : F_X3_call p1 p2 p3 s = some q) : mCall (d + 5) m_X3_call [.ref 0, .int p1, .int p2, .int p3] (memM s) (some (Value.int q.1)) (memM q.2) := mCall.intro ok_X3_call pl_X3_call rfl (E_X3_call (d := d) h)
def B_X3_letsGo_8 (x2 : Int32) (s : ModS) : Option ((Int32 × ModS) ⊕ (ModS)) := if (nI 637) ≤ (x2 + (nI 4)) then (some (.inr (s))) else (gI (x2 + (nI 4)) 637 (gI x2 637 (some (.inl ((x2 + (nI 1)), (mkM (gM_ss s) (gM_ty s) (gM_at s) (gM_ft s) (gM_mn s) (gM_bd s) (gM_no s) (gM_fu s) (upd (gM_nw s) (Int32.toNatClampNeg x2) ((gM_nw s) (Int32.toNatClampNeg (x2 + (nI 4))))) (gM_as s) (gM_pa s) (gM_tx s) (gM_od s)))))))
set_option maxRecDepth 100000 in
theorem H_X3_letsGo_8 {d : Nat} {x2 : Int32} {s : ModS} {q : (Int32 × ModS) ⊕ (ModS)} {r0 : Option Value} {mu0 : MMe} (h : B_X3_letsGo_8 x2 s = some q) (hk : Sum.elim (fun x : Int32 × ModS => mEv d m_X3_letsGo none (8, [], [some (.ref 0), none, some (.int x.1)], [], memM x.2) r0 mu0) (fun z : ModS => mEv d m_X3_letsGo none (37, [], [some (.ref 0), none, none], [], memM z) r0 mu0) q) : mEv d m_X3_letsGo none (8, [], [some (.ref 0), none, some (.int x2)], [], memM s) r0 mu0 := by
  unfold B_X3_letsGo_8 at h
  refine mEv.br 6 (S1 := (37, [], [some (.ref 0), none, some (.int x2)], [], memM s)) (S2 := (17, _, [some (.ref 0), none, some (.int x2)], [], memM s)) rfl (fun c1 => ?_) (fun c1 => ?_)
  · have h := (if_pos c1).symm.trans h
    refine mEv.fg [2] (z' := [some (.ref 0), none, none]) rfl ?_
    obtain rfl := Option.some.inj h
    exact hk
  · have h := (if_neg c1).symm.trans h
    obtain ⟨g2, h⟩ := gI_some h
    refine mEv.gd 9 (S' := (30, _, [some (.ref 0), none, some (.int x2)], [.int ((gM_nw s) (Int32.toNatClampNeg (x2 + (nI 4)))), .int x2, .ref 1], memM s)) rfl g2 ?_
    obtain ⟨g3, h⟩ := gI_some h
    refine mEv.gd 1 (S' := (31, _, [some (.ref 0), none, some (.int x2)], [], memMx (gM_ss s) (gM_ty s) (gM_at s) (gM_ft s) (gM_mn s) (gM_bd s) (gM_no s) (gM_fu s) (upd (gM_nw s) (Int32.toNatClampNeg x2) ((gM_nw s) (Int32.toNatClampNeg (x2 + (nI 4))))) (gM_as s) (gM_pa s) (gM_tx s) (gM_od s))) rfl g3 ?_
    refine mEv.stp 2 (S' := (8, [], [some (.ref 0), none, some (.int (x2 + (nI 1)))], [], memMx (gM_ss s) (gM_ty s) (gM_at s) (gM_ft s) (gM_mn s) (gM_bd s) (gM_no s) (gM_fu s) (upd (gM_nw s) (Int32.toNatClampNeg x2) ((gM_nw s) (Int32.toNatClampNeg (x2 + (nI 4))))) (gM_as s) (gM_pa s) (gM_tx s) (gM_od s))) rfl ?_
    refine mEv.mem memM_mk ?_
    obtain rfl := Option.some.inj h
    exact hk
def F_X3_letsGo (p1 : Int32) (s : ModS) : Option (ModS) := (mWh (fun x => B_X3_letsGo_8 x.1 x.2) fuel0 (((nI 317) + ((nI 4) * p1)), s)).bind (fun z4 => gI (nI 4) 637 (gI (nI 4) 637 (some ((mkM (gM_ss z4) (gM_ty z4) (gM_at z4) (gM_ft z4) (gM_mn z4) (gM_bd z4) (gM_no z4) (gM_fu z4) (upd (gM_nw z4) (Int32.toNatClampNeg (nI 4)) (((gM_nw z4) (Int32.toNatClampNeg (nI 4))) - (nI 1))) (gM_as z4) (gM_pa z4) (gM_tx z4) (gM_od z4))))))
set_option maxRecDepth 100000 in
theorem E_X3_letsGo {d : Nat} {p1 : Int32} {s : ModS} {q : ModS} (h : F_X3_letsGo p1 s = some q) : mEv d m_X3_letsGo none (0, [], [some (.ref 0), some (.int p1), none], [], memM s) none (memM q) := by
  unfold F_X3_letsGo at h
  refine mEv.stp 7 (S' := (8, [], [some (.ref 0), some (.int p1), some (.int ((nI 317) + ((nI 4) * p1)))], [], memM s)) rfl ?_
  refine mEv.fg [1] (z' := [some (.ref 0), none, some (.int ((nI 317) + ((nI 4) * p1)))]) rfl ?_
  obtain ⟨z4, e5, h⟩ := bnd h
  refine mWh_ind (b := (fun x => B_X3_letsGo_8 x.1 x.2)) (P := fun x : Int32 × ModS => mEv d m_X3_letsGo none (8, [], [some (.ref 0), none, some (.int x.1)], [], memM x.2) none (memM q)) (K := fun z : ModS => mEv d m_X3_letsGo none (37, [], [some (.ref 0), none, none], [], memM z) none (memM q)) (fun x u hq hk => H_X3_letsGo_8 (d := d) (x2 := x.1) (s := x.2) (q := u) (r0 := none) (mu0 := (memM q)) hq hk) fuel0 (((nI 317) + ((nI 4) * p1)), s) z4 e5 ?_
  refine mEv.stp 0 (S' := (37, [], [some (.ref 0), none, none], [], memM z4)) rfl ?_
  obtain ⟨g6, h⟩ := gI_some h
  refine mEv.gd 6 (S' := (44, _, [some (.ref 0), none, none], [.int ((gM_nw z4) (Int32.toNatClampNeg (nI 4))), .int (nI 4), .ref 1], memM z4)) rfl g6 ?_
  obtain ⟨g7, h⟩ := gI_some h
  refine mEv.gd 3 (S' := (47, _, [some (.ref 0), none, none], [], memMx (gM_ss z4) (gM_ty z4) (gM_at z4) (gM_ft z4) (gM_mn z4) (gM_bd z4) (gM_no z4) (gM_fu z4) (upd (gM_nw z4) (Int32.toNatClampNeg (nI 4)) (((gM_nw z4) (Int32.toNatClampNeg (nI 4))) - (nI 1))) (gM_as z4) (gM_pa z4) (gM_tx z4) (gM_od z4))) rfl g7 ?_
  obtain rfl := Option.some.inj h
  exact mEv.tgt memM_mk (mEv.retv rfl)
theorem A_X3_letsGo {d : Nat} {p1 : Int32} {s : ModS} {q : ModS} (h : F_X3_letsGo p1 s = some q) : mCall d m_X3_letsGo [.ref 0, .int p1] (memM s) none (memM q) := mCall.intro ok_X3_letsGo pl_X3_letsGo rfl (E_X3_letsGo (d := d) h)
def B_X3_passes_12 (x1 : Int32) (x3 : Int32) (x2 : Int32) (x4 : Int32) (s : ModS) : Option ((Int32 × Int32 × ModS) ⊕ (Int32 × ModS)) := gI (nI 4) 637 (if ((gM_nw s) (Int32.toNatClampNeg (nI 4))) ≤ x4 then (some (.inr (x2, s))) else (gI (((nI 317) + ((nI 4) * x4)) + (nI 3)) 637 (gI (((nI 317) + ((nI 4) * x4)) + (nI 3)) 637 (gI (((nI 317) + ((nI 4) * x4)) + (nI 3)) 637 (if ¬ ((upd (gM_nw s) (Int32.toNatClampNeg (((nI 317) + ((nI 4) * x4)) + (nI 3))) (((gM_nw s) (Int32.toNatClampNeg (((nI 317) + ((nI 4) * x4)) + (nI 3)))) - (nI 1))) (Int32.toNatClampNeg (((nI 317) + ((nI 4) * x4)) + (nI 3)))) = (nI 0) then (some (.inl (x2, (x4 + (nI 1)), (mkM (gM_ss s) (gM_ty s) (gM_at s) (gM_ft s) (gM_mn s) (gM_bd s) (gM_no s) (gM_fu s) (upd (gM_nw s) (Int32.toNatClampNeg (((nI 317) + ((nI 4) * x4)) + (nI 3))) (((gM_nw s) (Int32.toNatClampNeg (((nI 317) + ((nI 4) * x4)) + (nI 3)))) - (nI 1))) (gM_as s) (gM_pa s) (gM_tx s) (gM_od s))))) else ((F_X3_letsGo x4 (mkM (gM_ss s) (gM_ty s) (gM_at s) (gM_ft s) (gM_mn s) (gM_bd s) (gM_no s) (gM_fu s) (upd (gM_nw s) (Int32.toNatClampNeg (((nI 317) + ((nI 4) * x4)) + (nI 3))) (((gM_nw s) (Int32.toNatClampNeg (((nI 317) + ((nI 4) * x4)) + (nI 3)))) - (nI 1))) (gM_as s) (gM_pa s) (gM_tx s) (gM_od s))).bind (fun v8 => some (.inl ((x2 + (nI 1)), x4, v8)))))))))
set_option maxRecDepth 100000 in
theorem H_X3_passes_12 {d : Nat} {x1 : Int32} {x3 : Int32} {x2 : Int32} {x4 : Int32} {s : ModS} {q : (Int32 × Int32 × ModS) ⊕ (Int32 × ModS)} {r0 : Option Value} {mu0 : MMe} (h : B_X3_passes_12 x1 x3 x2 x4 s = some q) (hk : Sum.elim (fun x : Int32 × Int32 × ModS => mEv (d + 5) m_X3_passes none (12, [], [some (.ref 0), some (.int x1), some (.int x.1), some (.int x3), some (.int x.2.1), none, none, none, none], [], memM x.2.2) r0 mu0) (fun z : Int32 × ModS => mEv (d + 5) m_X3_passes none (78, [], [some (.ref 0), some (.int x1), some (.int z.1), some (.int x3), none, none, none, none, none], [], memM z.2) r0 mu0) q) : mEv (d + 5) m_X3_passes none (12, [], [some (.ref 0), some (.int x1), some (.int x2), some (.int x3), some (.int x4), none, none, none, none], [], memM s) r0 mu0 := by
  unfold B_X3_passes_12 at h
  obtain ⟨g2, h⟩ := gI_some h
  refine mEv.gd 6 (S' := (20, _, [some (.ref 0), some (.int x1), some (.int x2), some (.int x3), some (.int x4), none, none, none, none], [.int ((gM_nw s) (Int32.toNatClampNeg (nI 4))), .int x4], memM s)) rfl g2 ?_
  refine mEv.br 1 (S1 := (78, [], [some (.ref 0), some (.int x1), some (.int x2), some (.int x3), some (.int x4), none, none, none, none], [], memM s)) (S2 := (23, _, [some (.ref 0), some (.int x1), some (.int x2), some (.int x3), some (.int x4), none, none, none, none], [], memM s)) rfl (fun c3 => ?_) (fun c3 => ?_)
  · have h := (if_pos c3).symm.trans h
    refine mEv.fg [4] (z' := [some (.ref 0), some (.int x1), some (.int x2), some (.int x3), none, none, none, none, none]) rfl ?_
    obtain rfl := Option.some.inj h
    exact hk
  · have h := (if_neg c3).symm.trans h
    obtain ⟨g4, h⟩ := gI_some h
    refine mEv.gd 11 (S' := (39, _, [some (.ref 0), some (.int x1), some (.int x2), some (.int x3), some (.int x4), none, none, none, none], [.int ((gM_nw s) (Int32.toNatClampNeg (((nI 317) + ((nI 4) * x4)) + (nI 3)))), .int (((nI 317) + ((nI 4) * x4)) + (nI 3)), .ref 1], memM s)) rfl g4 ?_
    obtain ⟨g5, h⟩ := gI_some h
    refine mEv.gd 3 (S' := (42, _, [some (.ref 0), some (.int x1), some (.int x2), some (.int x3), some (.int x4), none, none, none, none], [], memMx (gM_ss s) (gM_ty s) (gM_at s) (gM_ft s) (gM_mn s) (gM_bd s) (gM_no s) (gM_fu s) (upd (gM_nw s) (Int32.toNatClampNeg (((nI 317) + ((nI 4) * x4)) + (nI 3))) (((gM_nw s) (Int32.toNatClampNeg (((nI 317) + ((nI 4) * x4)) + (nI 3)))) - (nI 1))) (gM_as s) (gM_pa s) (gM_tx s) (gM_od s))) rfl g5 ?_
    obtain ⟨g6, h⟩ := gI_some h
    refine mEv.gd 10 (S' := (57, _, [some (.ref 0), some (.int x1), some (.int x2), some (.int x3), some (.int x4), none, none, none, none], [.int ((upd (gM_nw s) (Int32.toNatClampNeg (((nI 317) + ((nI 4) * x4)) + (nI 3))) (((gM_nw s) (Int32.toNatClampNeg (((nI 317) + ((nI 4) * x4)) + (nI 3)))) - (nI 1))) (Int32.toNatClampNeg (((nI 317) + ((nI 4) * x4)) + (nI 3))))], memMx (gM_ss s) (gM_ty s) (gM_at s) (gM_ft s) (gM_mn s) (gM_bd s) (gM_no s) (gM_fu s) (upd (gM_nw s) (Int32.toNatClampNeg (((nI 317) + ((nI 4) * x4)) + (nI 3))) (((gM_nw s) (Int32.toNatClampNeg (((nI 317) + ((nI 4) * x4)) + (nI 3)))) - (nI 1))) (gM_as s) (gM_pa s) (gM_tx s) (gM_od s))) rfl g6 ?_
    refine mEv.br 1 (S1 := (72, [], [some (.ref 0), some (.int x1), some (.int x2), some (.int x3), some (.int x4), none, none, none, none], [], memMx (gM_ss s) (gM_ty s) (gM_at s) (gM_ft s) (gM_mn s) (gM_bd s) (gM_no s) (gM_fu s) (upd (gM_nw s) (Int32.toNatClampNeg (((nI 317) + ((nI 4) * x4)) + (nI 3))) (((gM_nw s) (Int32.toNatClampNeg (((nI 317) + ((nI 4) * x4)) + (nI 3)))) - (nI 1))) (gM_as s) (gM_pa s) (gM_tx s) (gM_od s))) (S2 := (60, _, [some (.ref 0), some (.int x1), some (.int x2), some (.int x3), some (.int x4), none, none, none, none], [], memMx (gM_ss s) (gM_ty s) (gM_at s) (gM_ft s) (gM_mn s) (gM_bd s) (gM_no s) (gM_fu s) (upd (gM_nw s) (Int32.toNatClampNeg (((nI 317) + ((nI 4) * x4)) + (nI 3))) (((gM_nw s) (Int32.toNatClampNeg (((nI 317) + ((nI 4) * x4)) + (nI 3)))) - (nI 1))) (gM_as s) (gM_pa s) (gM_tx s) (gM_od s))) rfl (fun c7 => ?_) (fun c7 => ?_)
    · have h := (if_pos c7).symm.trans h
      refine mEv.stp 3 (S' := (12, [], [some (.ref 0), some (.int x1), some (.int x2), some (.int x3), some (.int (x4 + (nI 1))), none, none, none, none], [], memMx (gM_ss s) (gM_ty s) (gM_at s) (gM_ft s) (gM_mn s) (gM_bd s) (gM_no s) (gM_fu s) (upd (gM_nw s) (Int32.toNatClampNeg (((nI 317) + ((nI 4) * x4)) + (nI 3))) (((gM_nw s) (Int32.toNatClampNeg (((nI 317) + ((nI 4) * x4)) + (nI 3)))) - (nI 1))) (gM_as s) (gM_pa s) (gM_tx s) (gM_od s))) rfl ?_
      refine mEv.mem memM_mk ?_
      obtain rfl := Option.some.inj h
      exact hk
    · have h := (if_neg c7).symm.trans h
      refine mEv.stp 2 (S' := (63, _, [some (.ref 0), some (.int x1), some (.int x2), some (.int x3), some (.int x4), none, none, none, none], [.int x4, .ref 0], memMx (gM_ss s) (gM_ty s) (gM_at s) (gM_ft s) (gM_mn s) (gM_bd s) (gM_no s) (gM_fu s) (upd (gM_nw s) (Int32.toNatClampNeg (((nI 317) + ((nI 4) * x4)) + (nI 3))) (((gM_nw s) (Int32.toNatClampNeg (((nI 317) + ((nI 4) * x4)) + (nI 3)))) - (nI 1))) (gM_as s) (gM_pa s) (gM_tx s) (gM_od s))) rfl ?_
      obtain ⟨v8, e9, h⟩ := bnd h
      refine mEv.callV (As := [.int x4]) (st := []) (h := 0) (r := none) (μ1 := memM v8) lk_X3_101 rfl rfl rfl rfl rfl (mCall.cast memM_mk (A_X3_letsGo (d := d + 4) e9)) ?_
      refine mEv.stp 0 (S' := (66, _, [some (.ref 0), some (.int x1), some (.int x2), some (.int x3), some (.int x4), none, none, none, none], [], memM v8)) rfl ?_
      refine mEv.stp 2 (S' := (12, [], [some (.ref 0), some (.int x1), some (.int (x2 + (nI 1))), some (.int x3), some (.int x4), none, none, none, none], [], memM v8)) rfl ?_
      obtain rfl := Option.some.inj h
      exact hk
def J_X3_passes_185 (x1 : Int32) (x2 : Int32) (x3 : Int32) (x5 : Int32) (x6 : Int32) (y0 : Int32) (y1 : Int32) (s : ModS) : Option ((Int32 × ModS) ⊕ (ModS)) := gI (nI 2) 637 (gZ (nI 4096) (gZ (nI 6) ((F_X3_asks y1 y0 ((nI 1) + ((((gM_nw s) (Int32.toNatClampNeg (nI 2))) / (nI 4096)) - (((gM_nw s) (Int32.toNatClampNeg (nI 2))) / (nI 4096)) / (nI 6) * (nI 6))) s).bind (fun v32 => some (.inl ((x6 + (nI 1)), v32.2))))))
set_option maxRecDepth 100000 in
theorem K_X3_passes_185 {d : Nat} {x1 : Int32} {x2 : Int32} {x3 : Int32} {x5 : Int32} {x6 : Int32} {y0 : Int32} {y1 : Int32} {s : ModS} {q : (Int32 × ModS) ⊕ (ModS)} {r0 : Option Value} {mu0 : MMe} (h : J_X3_passes_185 x1 x2 x3 x5 x6 y0 y1 s = some q) (hk : Sum.elim (fun x : Int32 × ModS => mEv (d + 5) m_X3_passes none (111, [], [some (.ref 0), some (.int x1), some (.int x2), some (.int x3), none, some (.int x5), some (.int x.1), none, none], [], memM x.2) r0 mu0) (fun z : ModS => mEv (d + 5) m_X3_passes none (210, [], [some (.ref 0), some (.int x1), some (.int x2), some (.int x3), none, none, none, none, none], [], memM z) r0 mu0) q) : mEv (d + 5) m_X3_passes none (185, [], [some (.ref 0), some (.int x1), some (.int x2), some (.int x3), none, some (.int x5), some (.int x6), none, none], [.int y0, .int y1, .ref 0], memM s) r0 mu0 := by
  unfold J_X3_passes_185 at h
  obtain ⟨g29, h⟩ := gI_some h
  refine mEv.gd 6 (S' := (192, _, [some (.ref 0), some (.int x1), some (.int x2), some (.int x3), none, some (.int x5), some (.int x6), none, none], [.int ((gM_nw s) (Int32.toNatClampNeg (nI 2))), .int (nI 1), .int y0, .int y1, .ref 0], memM s)) rfl g29 ?_
  obtain ⟨g30, h⟩ := gZ_some h
  refine mEv.gd 2 (S' := (196, _, [some (.ref 0), some (.int x1), some (.int x2), some (.int x3), none, some (.int x5), some (.int x6), none, none], [.int (((gM_nw s) (Int32.toNatClampNeg (nI 2))) / (nI 4096)), .int (nI 1), .int y0, .int y1, .ref 0], memM s)) rfl g30 ?_
  obtain ⟨g31, h⟩ := gZ_some h
  refine mEv.gd 2 (S' := (199, _, [some (.ref 0), some (.int x1), some (.int x2), some (.int x3), none, some (.int x5), some (.int x6), none, none], [.int ((((gM_nw s) (Int32.toNatClampNeg (nI 2))) / (nI 4096)) - (((gM_nw s) (Int32.toNatClampNeg (nI 2))) / (nI 4096)) / (nI 6) * (nI 6)), .int (nI 1), .int y0, .int y1, .ref 0], memM s)) rfl g31 ?_
  refine mEv.stp 1 (S' := (200, _, [some (.ref 0), some (.int x1), some (.int x2), some (.int x3), none, some (.int x5), some (.int x6), none, none], [.int ((nI 1) + ((((gM_nw s) (Int32.toNatClampNeg (nI 2))) / (nI 4096)) - (((gM_nw s) (Int32.toNatClampNeg (nI 2))) / (nI 4096)) / (nI 6) * (nI 6))), .int y0, .int y1, .ref 0], memM s)) rfl ?_
  obtain ⟨v32, e33, h⟩ := bnd h
  refine mEv.callV (As := [.int y1, .int y0, .int ((nI 1) + ((((gM_nw s) (Int32.toNatClampNeg (nI 2))) / (nI 4096)) - (((gM_nw s) (Int32.toNatClampNeg (nI 2))) / (nI 4096)) / (nI 6) * (nI 6)))]) (st := []) (h := 0) (r := (some (.int v32.1))) (μ1 := memM v32.2) lk_X3_98 rfl rfl rfl rfl rfl (A_X3_asks (d := d + 0) e33) ?_
  refine mEv.stp 0 (S' := (203, _, [some (.ref 0), some (.int x1), some (.int x2), some (.int x3), none, some (.int x5), some (.int x6), none, none], [.int v32.1], memM v32.2)) rfl ?_
  refine mEv.stp 3 (S' := (111, [], [some (.ref 0), some (.int x1), some (.int x2), some (.int x3), none, some (.int x5), some (.int (x6 + (nI 1))), none, none], [], memM v32.2)) rfl ?_
  obtain rfl := Option.some.inj h
  exact hk
def B_X3_passes_111 (x1 : Int32) (x2 : Int32) (x3 : Int32) (x5 : Int32) (x6 : Int32) (s : ModS) : Option ((Int32 × ModS) ⊕ (ModS)) := if x5 ≤ x6 then (some (.inr (s))) else ((F_X3_draws s).bind (fun v18 => gI (nI 2) 637 (gZ (nI 65536) (gI (nI 0) 637 (gZ ((gM_nw v18) (Int32.toNatClampNeg (nI 0))) (gI (nI 2) 637 (gZ (nI 1024) (gI (nI 0) 637 (gZ ((gM_nw v18) (Int32.toNatClampNeg (nI 0))) (if ¬ ((((gM_nw v18) (Int32.toNatClampNeg (nI 2))) / (nI 65536)) - (((gM_nw v18) (Int32.toNatClampNeg (nI 2))) / (nI 65536)) / ((gM_nw v18) (Int32.toNatClampNeg (nI 0))) * ((gM_nw v18) (Int32.toNatClampNeg (nI 0)))) = ((((gM_nw v18) (Int32.toNatClampNeg (nI 2))) / (nI 1024)) - (((gM_nw v18) (Int32.toNatClampNeg (nI 2))) / (nI 1024)) / ((gM_nw v18) (Int32.toNatClampNeg (nI 0))) * ((gM_nw v18) (Int32.toNatClampNeg (nI 0)))) then (J_X3_passes_185 x1 x2 x3 x5 x6 ((((gM_nw v18) (Int32.toNatClampNeg (nI 2))) / (nI 1024)) - (((gM_nw v18) (Int32.toNatClampNeg (nI 2))) / (nI 1024)) / ((gM_nw v18) (Int32.toNatClampNeg (nI 0))) * ((gM_nw v18) (Int32.toNatClampNeg (nI 0)))) ((((gM_nw v18) (Int32.toNatClampNeg (nI 2))) / (nI 65536)) - (((gM_nw v18) (Int32.toNatClampNeg (nI 2))) / (nI 65536)) / ((gM_nw v18) (Int32.toNatClampNeg (nI 0))) * ((gM_nw v18) (Int32.toNatClampNeg (nI 0)))) v18) else (gI (nI 0) 637 (gZ ((gM_nw v18) (Int32.toNatClampNeg (nI 0))) (J_X3_passes_185 x1 x2 x3 x5 x6 ((((((gM_nw v18) (Int32.toNatClampNeg (nI 2))) / (nI 1024)) - (((gM_nw v18) (Int32.toNatClampNeg (nI 2))) / (nI 1024)) / ((gM_nw v18) (Int32.toNatClampNeg (nI 0))) * ((gM_nw v18) (Int32.toNatClampNeg (nI 0)))) + (nI 1)) - (((((gM_nw v18) (Int32.toNatClampNeg (nI 2))) / (nI 1024)) - (((gM_nw v18) (Int32.toNatClampNeg (nI 2))) / (nI 1024)) / ((gM_nw v18) (Int32.toNatClampNeg (nI 0))) * ((gM_nw v18) (Int32.toNatClampNeg (nI 0)))) + (nI 1)) / ((gM_nw v18) (Int32.toNatClampNeg (nI 0))) * ((gM_nw v18) (Int32.toNatClampNeg (nI 0)))) ((((gM_nw v18) (Int32.toNatClampNeg (nI 2))) / (nI 65536)) - (((gM_nw v18) (Int32.toNatClampNeg (nI 2))) / (nI 65536)) / ((gM_nw v18) (Int32.toNatClampNeg (nI 0))) * ((gM_nw v18) (Int32.toNatClampNeg (nI 0)))) v18)))))))))))))
set_option maxRecDepth 100000 in
theorem H_X3_passes_111 {d : Nat} {x1 : Int32} {x2 : Int32} {x3 : Int32} {x5 : Int32} {x6 : Int32} {s : ModS} {q : (Int32 × ModS) ⊕ (ModS)} {r0 : Option Value} {mu0 : MMe} (h : B_X3_passes_111 x1 x2 x3 x5 x6 s = some q) (hk : Sum.elim (fun x : Int32 × ModS => mEv (d + 5) m_X3_passes none (111, [], [some (.ref 0), some (.int x1), some (.int x2), some (.int x3), none, some (.int x5), some (.int x.1), none, none], [], memM x.2) r0 mu0) (fun z : ModS => mEv (d + 5) m_X3_passes none (210, [], [some (.ref 0), some (.int x1), some (.int x2), some (.int x3), none, none, none, none, none], [], memM z) r0 mu0) q) : mEv (d + 5) m_X3_passes none (111, [], [some (.ref 0), some (.int x1), some (.int x2), some (.int x3), none, some (.int x5), some (.int x6), none, none], [], memM s) r0 mu0 := by
  unfold B_X3_passes_111 at h
  refine mEv.br 4 (S1 := (210, [], [some (.ref 0), some (.int x1), some (.int x2), some (.int x3), none, some (.int x5), some (.int x6), none, none], [], memM s)) (S2 := (118, _, [some (.ref 0), some (.int x1), some (.int x2), some (.int x3), none, some (.int x5), some (.int x6), none, none], [], memM s)) rfl (fun c17 => ?_) (fun c17 => ?_)
  · have h := (if_pos c17).symm.trans h
    refine mEv.fg [5, 6] (z' := [some (.ref 0), some (.int x1), some (.int x2), some (.int x3), none, none, none, none, none]) rfl ?_
    obtain rfl := Option.some.inj h
    exact hk
  · have h := (if_neg c17).symm.trans h
    refine mEv.stp 1 (S' := (119, _, [some (.ref 0), some (.int x1), some (.int x2), some (.int x3), none, some (.int x5), some (.int x6), none, none], [.ref 0], memM s)) rfl ?_
    obtain ⟨v18, e19, h⟩ := bnd h
    refine mEv.callV (As := []) (st := []) (h := 0) (r := none) (μ1 := memM v18) lk_X3_76 rfl rfl rfl rfl rfl (A_X3_draws (d := d + 4) e19) ?_
    refine mEv.stp 0 (S' := (122, _, [some (.ref 0), some (.int x1), some (.int x2), some (.int x3), none, some (.int x5), some (.int x6), none, none], [], memM v18)) rfl ?_
    obtain ⟨g20, h⟩ := gI_some h
    refine mEv.gd 4 (S' := (128, _, [some (.ref 0), some (.int x1), some (.int x2), some (.int x3), none, some (.int x5), some (.int x6), none, none], [.int ((gM_nw v18) (Int32.toNatClampNeg (nI 2)))], memM v18)) rfl g20 ?_
    obtain ⟨g21, h⟩ := gZ_some h
    refine mEv.gd 2 (S' := (131, _, [some (.ref 0), some (.int x1), some (.int x2), some (.int x3), none, some (.int x5), some (.int x6), none, none], [.int (((gM_nw v18) (Int32.toNatClampNeg (nI 2))) / (nI 65536))], memM v18)) rfl g21 ?_
    obtain ⟨g22, h⟩ := gI_some h
    refine mEv.gd 4 (S' := (137, _, [some (.ref 0), some (.int x1), some (.int x2), some (.int x3), none, some (.int x5), some (.int x6), none, none], [.int ((gM_nw v18) (Int32.toNatClampNeg (nI 0))), .int (((gM_nw v18) (Int32.toNatClampNeg (nI 2))) / (nI 65536))], memM v18)) rfl g22 ?_
    obtain ⟨g23, h⟩ := gZ_some h
    refine mEv.gd 1 (S' := (138, _, [some (.ref 0), some (.int x1), some (.int x2), some (.int x3), none, some (.int x5), some (.int x6), none, none], [.int ((((gM_nw v18) (Int32.toNatClampNeg (nI 2))) / (nI 65536)) - (((gM_nw v18) (Int32.toNatClampNeg (nI 2))) / (nI 65536)) / ((gM_nw v18) (Int32.toNatClampNeg (nI 0))) * ((gM_nw v18) (Int32.toNatClampNeg (nI 0))))], memM v18)) rfl g23 ?_
    obtain ⟨g24, h⟩ := gI_some h
    refine mEv.gd 5 (S' := (146, _, [some (.ref 0), some (.int x1), some (.int x2), some (.int x3), none, some (.int x5), some (.int x6), some (.int ((((gM_nw v18) (Int32.toNatClampNeg (nI 2))) / (nI 65536)) - (((gM_nw v18) (Int32.toNatClampNeg (nI 2))) / (nI 65536)) / ((gM_nw v18) (Int32.toNatClampNeg (nI 0))) * ((gM_nw v18) (Int32.toNatClampNeg (nI 0))))), none], [.int ((gM_nw v18) (Int32.toNatClampNeg (nI 2)))], memM v18)) rfl g24 ?_
    obtain ⟨g25, h⟩ := gZ_some h
    refine mEv.gd 2 (S' := (150, _, [some (.ref 0), some (.int x1), some (.int x2), some (.int x3), none, some (.int x5), some (.int x6), some (.int ((((gM_nw v18) (Int32.toNatClampNeg (nI 2))) / (nI 65536)) - (((gM_nw v18) (Int32.toNatClampNeg (nI 2))) / (nI 65536)) / ((gM_nw v18) (Int32.toNatClampNeg (nI 0))) * ((gM_nw v18) (Int32.toNatClampNeg (nI 0))))), none], [.int (((gM_nw v18) (Int32.toNatClampNeg (nI 2))) / (nI 1024))], memM v18)) rfl g25 ?_
    obtain ⟨g26, h⟩ := gI_some h
    refine mEv.gd 4 (S' := (156, _, [some (.ref 0), some (.int x1), some (.int x2), some (.int x3), none, some (.int x5), some (.int x6), some (.int ((((gM_nw v18) (Int32.toNatClampNeg (nI 2))) / (nI 65536)) - (((gM_nw v18) (Int32.toNatClampNeg (nI 2))) / (nI 65536)) / ((gM_nw v18) (Int32.toNatClampNeg (nI 0))) * ((gM_nw v18) (Int32.toNatClampNeg (nI 0))))), none], [.int ((gM_nw v18) (Int32.toNatClampNeg (nI 0))), .int (((gM_nw v18) (Int32.toNatClampNeg (nI 2))) / (nI 1024))], memM v18)) rfl g26 ?_
    obtain ⟨g27, h⟩ := gZ_some h
    refine mEv.gd 1 (S' := (157, _, [some (.ref 0), some (.int x1), some (.int x2), some (.int x3), none, some (.int x5), some (.int x6), some (.int ((((gM_nw v18) (Int32.toNatClampNeg (nI 2))) / (nI 65536)) - (((gM_nw v18) (Int32.toNatClampNeg (nI 2))) / (nI 65536)) / ((gM_nw v18) (Int32.toNatClampNeg (nI 0))) * ((gM_nw v18) (Int32.toNatClampNeg (nI 0))))), none], [.int ((((gM_nw v18) (Int32.toNatClampNeg (nI 2))) / (nI 1024)) - (((gM_nw v18) (Int32.toNatClampNeg (nI 2))) / (nI 1024)) / ((gM_nw v18) (Int32.toNatClampNeg (nI 0))) * ((gM_nw v18) (Int32.toNatClampNeg (nI 0))))], memM v18)) rfl g27 ?_
    refine mEv.br 6 (S1 := (183, [], [some (.ref 0), some (.int x1), some (.int x2), some (.int x3), none, some (.int x5), some (.int x6), some (.int ((((gM_nw v18) (Int32.toNatClampNeg (nI 2))) / (nI 65536)) - (((gM_nw v18) (Int32.toNatClampNeg (nI 2))) / (nI 65536)) / ((gM_nw v18) (Int32.toNatClampNeg (nI 0))) * ((gM_nw v18) (Int32.toNatClampNeg (nI 0))))), some (.int ((((gM_nw v18) (Int32.toNatClampNeg (nI 2))) / (nI 1024)) - (((gM_nw v18) (Int32.toNatClampNeg (nI 2))) / (nI 1024)) / ((gM_nw v18) (Int32.toNatClampNeg (nI 0))) * ((gM_nw v18) (Int32.toNatClampNeg (nI 0)))))], [.int ((((gM_nw v18) (Int32.toNatClampNeg (nI 2))) / (nI 65536)) - (((gM_nw v18) (Int32.toNatClampNeg (nI 2))) / (nI 65536)) / ((gM_nw v18) (Int32.toNatClampNeg (nI 0))) * ((gM_nw v18) (Int32.toNatClampNeg (nI 0)))), .ref 0], memM v18)) (S2 := (169, _, [some (.ref 0), some (.int x1), some (.int x2), some (.int x3), none, some (.int x5), some (.int x6), some (.int ((((gM_nw v18) (Int32.toNatClampNeg (nI 2))) / (nI 65536)) - (((gM_nw v18) (Int32.toNatClampNeg (nI 2))) / (nI 65536)) / ((gM_nw v18) (Int32.toNatClampNeg (nI 0))) * ((gM_nw v18) (Int32.toNatClampNeg (nI 0))))), some (.int ((((gM_nw v18) (Int32.toNatClampNeg (nI 2))) / (nI 1024)) - (((gM_nw v18) (Int32.toNatClampNeg (nI 2))) / (nI 1024)) / ((gM_nw v18) (Int32.toNatClampNeg (nI 0))) * ((gM_nw v18) (Int32.toNatClampNeg (nI 0)))))], [.int ((((gM_nw v18) (Int32.toNatClampNeg (nI 2))) / (nI 65536)) - (((gM_nw v18) (Int32.toNatClampNeg (nI 2))) / (nI 65536)) / ((gM_nw v18) (Int32.toNatClampNeg (nI 0))) * ((gM_nw v18) (Int32.toNatClampNeg (nI 0)))), .ref 0], memM v18)) rfl (fun c28 => ?_) (fun c28 => ?_)
    · have h := (if_pos c28).symm.trans h
      refine mEv.stp 2 (S' := (185, [], [some (.ref 0), some (.int x1), some (.int x2), some (.int x3), none, some (.int x5), some (.int x6), some (.int ((((gM_nw v18) (Int32.toNatClampNeg (nI 2))) / (nI 65536)) - (((gM_nw v18) (Int32.toNatClampNeg (nI 2))) / (nI 65536)) / ((gM_nw v18) (Int32.toNatClampNeg (nI 0))) * ((gM_nw v18) (Int32.toNatClampNeg (nI 0))))), some (.int ((((gM_nw v18) (Int32.toNatClampNeg (nI 2))) / (nI 1024)) - (((gM_nw v18) (Int32.toNatClampNeg (nI 2))) / (nI 1024)) / ((gM_nw v18) (Int32.toNatClampNeg (nI 0))) * ((gM_nw v18) (Int32.toNatClampNeg (nI 0)))))], [.int ((((gM_nw v18) (Int32.toNatClampNeg (nI 2))) / (nI 1024)) - (((gM_nw v18) (Int32.toNatClampNeg (nI 2))) / (nI 1024)) / ((gM_nw v18) (Int32.toNatClampNeg (nI 0))) * ((gM_nw v18) (Int32.toNatClampNeg (nI 0)))), .int ((((gM_nw v18) (Int32.toNatClampNeg (nI 2))) / (nI 65536)) - (((gM_nw v18) (Int32.toNatClampNeg (nI 2))) / (nI 65536)) / ((gM_nw v18) (Int32.toNatClampNeg (nI 0))) * ((gM_nw v18) (Int32.toNatClampNeg (nI 0)))), .ref 0], memM v18)) rfl ?_
      refine mEv.fg [7, 8] (z' := [some (.ref 0), some (.int x1), some (.int x2), some (.int x3), none, some (.int x5), some (.int x6), none, none]) rfl ?_
      exact K_X3_passes_185 (d := d) h hk
    · have h := (if_neg c28).symm.trans h
      obtain ⟨g34, h⟩ := gI_some h
      refine mEv.gd 7 (S' := (179, _, [some (.ref 0), some (.int x1), some (.int x2), some (.int x3), none, some (.int x5), some (.int x6), some (.int ((((gM_nw v18) (Int32.toNatClampNeg (nI 2))) / (nI 65536)) - (((gM_nw v18) (Int32.toNatClampNeg (nI 2))) / (nI 65536)) / ((gM_nw v18) (Int32.toNatClampNeg (nI 0))) * ((gM_nw v18) (Int32.toNatClampNeg (nI 0))))), some (.int ((((gM_nw v18) (Int32.toNatClampNeg (nI 2))) / (nI 1024)) - (((gM_nw v18) (Int32.toNatClampNeg (nI 2))) / (nI 1024)) / ((gM_nw v18) (Int32.toNatClampNeg (nI 0))) * ((gM_nw v18) (Int32.toNatClampNeg (nI 0)))))], [.int ((gM_nw v18) (Int32.toNatClampNeg (nI 0))), .int (((((gM_nw v18) (Int32.toNatClampNeg (nI 2))) / (nI 1024)) - (((gM_nw v18) (Int32.toNatClampNeg (nI 2))) / (nI 1024)) / ((gM_nw v18) (Int32.toNatClampNeg (nI 0))) * ((gM_nw v18) (Int32.toNatClampNeg (nI 0)))) + (nI 1)), .int ((((gM_nw v18) (Int32.toNatClampNeg (nI 2))) / (nI 65536)) - (((gM_nw v18) (Int32.toNatClampNeg (nI 2))) / (nI 65536)) / ((gM_nw v18) (Int32.toNatClampNeg (nI 0))) * ((gM_nw v18) (Int32.toNatClampNeg (nI 0)))), .ref 0], memM v18)) rfl g34 ?_
      obtain ⟨g35, h⟩ := gZ_some h
      refine mEv.gd 1 (S' := (180, _, [some (.ref 0), some (.int x1), some (.int x2), some (.int x3), none, some (.int x5), some (.int x6), some (.int ((((gM_nw v18) (Int32.toNatClampNeg (nI 2))) / (nI 65536)) - (((gM_nw v18) (Int32.toNatClampNeg (nI 2))) / (nI 65536)) / ((gM_nw v18) (Int32.toNatClampNeg (nI 0))) * ((gM_nw v18) (Int32.toNatClampNeg (nI 0))))), some (.int ((((gM_nw v18) (Int32.toNatClampNeg (nI 2))) / (nI 1024)) - (((gM_nw v18) (Int32.toNatClampNeg (nI 2))) / (nI 1024)) / ((gM_nw v18) (Int32.toNatClampNeg (nI 0))) * ((gM_nw v18) (Int32.toNatClampNeg (nI 0)))))], [.int ((((((gM_nw v18) (Int32.toNatClampNeg (nI 2))) / (nI 1024)) - (((gM_nw v18) (Int32.toNatClampNeg (nI 2))) / (nI 1024)) / ((gM_nw v18) (Int32.toNatClampNeg (nI 0))) * ((gM_nw v18) (Int32.toNatClampNeg (nI 0)))) + (nI 1)) - (((((gM_nw v18) (Int32.toNatClampNeg (nI 2))) / (nI 1024)) - (((gM_nw v18) (Int32.toNatClampNeg (nI 2))) / (nI 1024)) / ((gM_nw v18) (Int32.toNatClampNeg (nI 0))) * ((gM_nw v18) (Int32.toNatClampNeg (nI 0)))) + (nI 1)) / ((gM_nw v18) (Int32.toNatClampNeg (nI 0))) * ((gM_nw v18) (Int32.toNatClampNeg (nI 0)))), .int ((((gM_nw v18) (Int32.toNatClampNeg (nI 2))) / (nI 65536)) - (((gM_nw v18) (Int32.toNatClampNeg (nI 2))) / (nI 65536)) / ((gM_nw v18) (Int32.toNatClampNeg (nI 0))) * ((gM_nw v18) (Int32.toNatClampNeg (nI 0)))), .ref 0], memM v18)) rfl g35 ?_
      refine mEv.stp 1 (S' := (185, [], [some (.ref 0), some (.int x1), some (.int x2), some (.int x3), none, some (.int x5), some (.int x6), some (.int ((((gM_nw v18) (Int32.toNatClampNeg (nI 2))) / (nI 65536)) - (((gM_nw v18) (Int32.toNatClampNeg (nI 2))) / (nI 65536)) / ((gM_nw v18) (Int32.toNatClampNeg (nI 0))) * ((gM_nw v18) (Int32.toNatClampNeg (nI 0))))), some (.int ((((gM_nw v18) (Int32.toNatClampNeg (nI 2))) / (nI 1024)) - (((gM_nw v18) (Int32.toNatClampNeg (nI 2))) / (nI 1024)) / ((gM_nw v18) (Int32.toNatClampNeg (nI 0))) * ((gM_nw v18) (Int32.toNatClampNeg (nI 0)))))], [.int ((((((gM_nw v18) (Int32.toNatClampNeg (nI 2))) / (nI 1024)) - (((gM_nw v18) (Int32.toNatClampNeg (nI 2))) / (nI 1024)) / ((gM_nw v18) (Int32.toNatClampNeg (nI 0))) * ((gM_nw v18) (Int32.toNatClampNeg (nI 0)))) + (nI 1)) - (((((gM_nw v18) (Int32.toNatClampNeg (nI 2))) / (nI 1024)) - (((gM_nw v18) (Int32.toNatClampNeg (nI 2))) / (nI 1024)) / ((gM_nw v18) (Int32.toNatClampNeg (nI 0))) * ((gM_nw v18) (Int32.toNatClampNeg (nI 0)))) + (nI 1)) / ((gM_nw v18) (Int32.toNatClampNeg (nI 0))) * ((gM_nw v18) (Int32.toNatClampNeg (nI 0)))), .int ((((gM_nw v18) (Int32.toNatClampNeg (nI 2))) / (nI 65536)) - (((gM_nw v18) (Int32.toNatClampNeg (nI 2))) / (nI 65536)) / ((gM_nw v18) (Int32.toNatClampNeg (nI 0))) * ((gM_nw v18) (Int32.toNatClampNeg (nI 0)))), .ref 0], memM v18)) rfl ?_
      refine mEv.fg [7, 8] (z' := [some (.ref 0), some (.int x1), some (.int x2), some (.int x3), none, some (.int x5), some (.int x6), none, none]) rfl ?_
      exact K_X3_passes_185 (d := d) h hk
def B_X3_passes_4 (x1 : Int32) (x2 : Int32) (x3 : Int32) (s : ModS) : Option ((Int32 × Int32 × ModS) ⊕ (Int32 × ModS)) := if x1 ≤ x3 then (some (.inr (x2, s))) else ((mWh (fun x => B_X3_passes_12 x1 x3 x.1 x.2.1 x.2.2) fuel0 (x2, (nI 0), s)).bind (fun z10 => gI (nI 3) 637 (gI (nI 3) 637 (gI (nI 3) 637 (gZ (nI 24) (gI ((nI 293) + (((upd (gM_nw z10.2) (Int32.toNatClampNeg (nI 3)) (((gM_nw z10.2) (Int32.toNatClampNeg (nI 3))) + (nI 1))) (Int32.toNatClampNeg (nI 3))) - ((upd (gM_nw z10.2) (Int32.toNatClampNeg (nI 3)) (((gM_nw z10.2) (Int32.toNatClampNeg (nI 3))) + (nI 1))) (Int32.toNatClampNeg (nI 3))) / (nI 24) * (nI 24))) 637 ((mWh (fun x => B_X3_passes_111 x1 z10.1 x3 ((upd (gM_nw z10.2) (Int32.toNatClampNeg (nI 3)) (((gM_nw z10.2) (Int32.toNatClampNeg (nI 3))) + (nI 1))) (Int32.toNatClampNeg ((nI 293) + (((upd (gM_nw z10.2) (Int32.toNatClampNeg (nI 3)) (((gM_nw z10.2) (Int32.toNatClampNeg (nI 3))) + (nI 1))) (Int32.toNatClampNeg (nI 3))) - ((upd (gM_nw z10.2) (Int32.toNatClampNeg (nI 3)) (((gM_nw z10.2) (Int32.toNatClampNeg (nI 3))) + (nI 1))) (Int32.toNatClampNeg (nI 3))) / (nI 24) * (nI 24))))) x.1 x.2) fuel0 ((nI 0), (mkM (gM_ss z10.2) (gM_ty z10.2) (gM_at z10.2) (gM_ft z10.2) (gM_mn z10.2) (gM_bd z10.2) (gM_no z10.2) (gM_fu z10.2) (upd (gM_nw z10.2) (Int32.toNatClampNeg (nI 3)) (((gM_nw z10.2) (Int32.toNatClampNeg (nI 3))) + (nI 1))) (gM_as z10.2) (gM_pa z10.2) (gM_tx z10.2) (gM_od z10.2)))).bind (fun z36 => some (.inl (z10.1, (x3 + (nI 1)), z36))))))))))
set_option maxRecDepth 100000 in
theorem H_X3_passes_4 {d : Nat} {x1 : Int32} {x2 : Int32} {x3 : Int32} {s : ModS} {q : (Int32 × Int32 × ModS) ⊕ (Int32 × ModS)} {r0 : Option Value} {mu0 : MMe} (h : B_X3_passes_4 x1 x2 x3 s = some q) (hk : Sum.elim (fun x : Int32 × Int32 × ModS => mEv (d + 5) m_X3_passes none (4, [], [some (.ref 0), some (.int x1), some (.int x.1), some (.int x.2.1), none, none, none, none, none], [], memM x.2.2) r0 mu0) (fun z : Int32 × ModS => mEv (d + 5) m_X3_passes none (216, [], [none, none, some (.int z.1), none, none, none, none, none, none], [], memM z.2) r0 mu0) q) : mEv (d + 5) m_X3_passes none (4, [], [some (.ref 0), some (.int x1), some (.int x2), some (.int x3), none, none, none, none, none], [], memM s) r0 mu0 := by
  unfold B_X3_passes_4 at h
  refine mEv.br 4 (S1 := (216, [], [some (.ref 0), some (.int x1), some (.int x2), some (.int x3), none, none, none, none, none], [], memM s)) (S2 := (9, _, [some (.ref 0), some (.int x1), some (.int x2), some (.int x3), none, none, none, none, none], [], memM s)) rfl (fun c1 => ?_) (fun c1 => ?_)
  · have h := (if_pos c1).symm.trans h
    refine mEv.fg [0, 1, 3] (z' := [none, none, some (.int x2), none, none, none, none, none, none]) rfl ?_
    obtain rfl := Option.some.inj h
    exact hk
  · have h := (if_neg c1).symm.trans h
    refine mEv.stp 2 (S' := (12, [], [some (.ref 0), some (.int x1), some (.int x2), some (.int x3), some (.int (nI 0)), none, none, none, none], [], memM s)) rfl ?_
    obtain ⟨z10, e11, h⟩ := bnd h
    refine mWh_ind (b := (fun x => B_X3_passes_12 x1 x3 x.1 x.2.1 x.2.2)) (P := fun x : Int32 × Int32 × ModS => mEv (d + 5) m_X3_passes none (12, [], [some (.ref 0), some (.int x1), some (.int x.1), some (.int x3), some (.int x.2.1), none, none, none, none], [], memM x.2.2) r0 mu0) (K := fun z : Int32 × ModS => mEv (d + 5) m_X3_passes none (78, [], [some (.ref 0), some (.int x1), some (.int z.1), some (.int x3), none, none, none, none, none], [], memM z.2) r0 mu0) (fun x u hq hk => H_X3_passes_12 (d := d) (x1 := x1) (x3 := x3) (x2 := x.1) (x4 := x.2.1) (s := x.2.2) (q := u) (r0 := r0) (mu0 := mu0) hq hk) fuel0 (x2, (nI 0), s) z10 e11 ?_
    refine mEv.stp 0 (S' := (78, [], [some (.ref 0), some (.int x1), some (.int z10.1), some (.int x3), none, none, none, none, none], [], memM z10.2)) rfl ?_
    obtain ⟨g12, h⟩ := gI_some h
    refine mEv.gd 6 (S' := (85, _, [some (.ref 0), some (.int x1), some (.int z10.1), some (.int x3), none, none, none, none, none], [.int ((gM_nw z10.2) (Int32.toNatClampNeg (nI 3))), .int (nI 3), .ref 1], memM z10.2)) rfl g12 ?_
    obtain ⟨g13, h⟩ := gI_some h
    refine mEv.gd 3 (S' := (88, _, [some (.ref 0), some (.int x1), some (.int z10.1), some (.int x3), none, none, none, none, none], [], memMx (gM_ss z10.2) (gM_ty z10.2) (gM_at z10.2) (gM_ft z10.2) (gM_mn z10.2) (gM_bd z10.2) (gM_no z10.2) (gM_fu z10.2) (upd (gM_nw z10.2) (Int32.toNatClampNeg (nI 3)) (((gM_nw z10.2) (Int32.toNatClampNeg (nI 3))) + (nI 1))) (gM_as z10.2) (gM_pa z10.2) (gM_tx z10.2) (gM_od z10.2))) rfl g13 ?_
    obtain ⟨g14, h⟩ := gI_some h
    refine mEv.gd 7 (S' := (101, _, [some (.ref 0), some (.int x1), some (.int z10.1), some (.int x3), none, none, none, none, none], [.int ((upd (gM_nw z10.2) (Int32.toNatClampNeg (nI 3)) (((gM_nw z10.2) (Int32.toNatClampNeg (nI 3))) + (nI 1))) (Int32.toNatClampNeg (nI 3))), .int (nI 293), .ref 1], memMx (gM_ss z10.2) (gM_ty z10.2) (gM_at z10.2) (gM_ft z10.2) (gM_mn z10.2) (gM_bd z10.2) (gM_no z10.2) (gM_fu z10.2) (upd (gM_nw z10.2) (Int32.toNatClampNeg (nI 3)) (((gM_nw z10.2) (Int32.toNatClampNeg (nI 3))) + (nI 1))) (gM_as z10.2) (gM_pa z10.2) (gM_tx z10.2) (gM_od z10.2))) rfl g14 ?_
    obtain ⟨g15, h⟩ := gZ_some h
    refine mEv.gd 2 (S' := (104, _, [some (.ref 0), some (.int x1), some (.int z10.1), some (.int x3), none, none, none, none, none], [.int (((upd (gM_nw z10.2) (Int32.toNatClampNeg (nI 3)) (((gM_nw z10.2) (Int32.toNatClampNeg (nI 3))) + (nI 1))) (Int32.toNatClampNeg (nI 3))) - ((upd (gM_nw z10.2) (Int32.toNatClampNeg (nI 3)) (((gM_nw z10.2) (Int32.toNatClampNeg (nI 3))) + (nI 1))) (Int32.toNatClampNeg (nI 3))) / (nI 24) * (nI 24)), .int (nI 293), .ref 1], memMx (gM_ss z10.2) (gM_ty z10.2) (gM_at z10.2) (gM_ft z10.2) (gM_mn z10.2) (gM_bd z10.2) (gM_no z10.2) (gM_fu z10.2) (upd (gM_nw z10.2) (Int32.toNatClampNeg (nI 3)) (((gM_nw z10.2) (Int32.toNatClampNeg (nI 3))) + (nI 1))) (gM_as z10.2) (gM_pa z10.2) (gM_tx z10.2) (gM_od z10.2))) rfl g15 ?_
    obtain ⟨g16, h⟩ := gI_some h
    refine mEv.gd 2 (S' := (106, _, [some (.ref 0), some (.int x1), some (.int z10.1), some (.int x3), none, none, none, none, none], [.int ((upd (gM_nw z10.2) (Int32.toNatClampNeg (nI 3)) (((gM_nw z10.2) (Int32.toNatClampNeg (nI 3))) + (nI 1))) (Int32.toNatClampNeg ((nI 293) + (((upd (gM_nw z10.2) (Int32.toNatClampNeg (nI 3)) (((gM_nw z10.2) (Int32.toNatClampNeg (nI 3))) + (nI 1))) (Int32.toNatClampNeg (nI 3))) - ((upd (gM_nw z10.2) (Int32.toNatClampNeg (nI 3)) (((gM_nw z10.2) (Int32.toNatClampNeg (nI 3))) + (nI 1))) (Int32.toNatClampNeg (nI 3))) / (nI 24) * (nI 24)))))], memMx (gM_ss z10.2) (gM_ty z10.2) (gM_at z10.2) (gM_ft z10.2) (gM_mn z10.2) (gM_bd z10.2) (gM_no z10.2) (gM_fu z10.2) (upd (gM_nw z10.2) (Int32.toNatClampNeg (nI 3)) (((gM_nw z10.2) (Int32.toNatClampNeg (nI 3))) + (nI 1))) (gM_as z10.2) (gM_pa z10.2) (gM_tx z10.2) (gM_od z10.2))) rfl g16 ?_
    refine mEv.stp 3 (S' := (111, [], [some (.ref 0), some (.int x1), some (.int z10.1), some (.int x3), none, some (.int ((upd (gM_nw z10.2) (Int32.toNatClampNeg (nI 3)) (((gM_nw z10.2) (Int32.toNatClampNeg (nI 3))) + (nI 1))) (Int32.toNatClampNeg ((nI 293) + (((upd (gM_nw z10.2) (Int32.toNatClampNeg (nI 3)) (((gM_nw z10.2) (Int32.toNatClampNeg (nI 3))) + (nI 1))) (Int32.toNatClampNeg (nI 3))) - ((upd (gM_nw z10.2) (Int32.toNatClampNeg (nI 3)) (((gM_nw z10.2) (Int32.toNatClampNeg (nI 3))) + (nI 1))) (Int32.toNatClampNeg (nI 3))) / (nI 24) * (nI 24)))))), some (.int (nI 0)), none, none], [], memMx (gM_ss z10.2) (gM_ty z10.2) (gM_at z10.2) (gM_ft z10.2) (gM_mn z10.2) (gM_bd z10.2) (gM_no z10.2) (gM_fu z10.2) (upd (gM_nw z10.2) (Int32.toNatClampNeg (nI 3)) (((gM_nw z10.2) (Int32.toNatClampNeg (nI 3))) + (nI 1))) (gM_as z10.2) (gM_pa z10.2) (gM_tx z10.2) (gM_od z10.2))) rfl ?_
    refine mEv.mem memM_mk ?_
    obtain ⟨z36, e37, h⟩ := bnd h
    refine mWh_ind (b := (fun x => B_X3_passes_111 x1 z10.1 x3 ((upd (gM_nw z10.2) (Int32.toNatClampNeg (nI 3)) (((gM_nw z10.2) (Int32.toNatClampNeg (nI 3))) + (nI 1))) (Int32.toNatClampNeg ((nI 293) + (((upd (gM_nw z10.2) (Int32.toNatClampNeg (nI 3)) (((gM_nw z10.2) (Int32.toNatClampNeg (nI 3))) + (nI 1))) (Int32.toNatClampNeg (nI 3))) - ((upd (gM_nw z10.2) (Int32.toNatClampNeg (nI 3)) (((gM_nw z10.2) (Int32.toNatClampNeg (nI 3))) + (nI 1))) (Int32.toNatClampNeg (nI 3))) / (nI 24) * (nI 24))))) x.1 x.2)) (P := fun x : Int32 × ModS => mEv (d + 5) m_X3_passes none (111, [], [some (.ref 0), some (.int x1), some (.int z10.1), some (.int x3), none, some (.int ((upd (gM_nw z10.2) (Int32.toNatClampNeg (nI 3)) (((gM_nw z10.2) (Int32.toNatClampNeg (nI 3))) + (nI 1))) (Int32.toNatClampNeg ((nI 293) + (((upd (gM_nw z10.2) (Int32.toNatClampNeg (nI 3)) (((gM_nw z10.2) (Int32.toNatClampNeg (nI 3))) + (nI 1))) (Int32.toNatClampNeg (nI 3))) - ((upd (gM_nw z10.2) (Int32.toNatClampNeg (nI 3)) (((gM_nw z10.2) (Int32.toNatClampNeg (nI 3))) + (nI 1))) (Int32.toNatClampNeg (nI 3))) / (nI 24) * (nI 24)))))), some (.int x.1), none, none], [], memM x.2) r0 mu0) (K := fun z : ModS => mEv (d + 5) m_X3_passes none (210, [], [some (.ref 0), some (.int x1), some (.int z10.1), some (.int x3), none, none, none, none, none], [], memM z) r0 mu0) (fun x u hq hk => H_X3_passes_111 (d := d) (x1 := x1) (x2 := z10.1) (x3 := x3) (x5 := ((upd (gM_nw z10.2) (Int32.toNatClampNeg (nI 3)) (((gM_nw z10.2) (Int32.toNatClampNeg (nI 3))) + (nI 1))) (Int32.toNatClampNeg ((nI 293) + (((upd (gM_nw z10.2) (Int32.toNatClampNeg (nI 3)) (((gM_nw z10.2) (Int32.toNatClampNeg (nI 3))) + (nI 1))) (Int32.toNatClampNeg (nI 3))) - ((upd (gM_nw z10.2) (Int32.toNatClampNeg (nI 3)) (((gM_nw z10.2) (Int32.toNatClampNeg (nI 3))) + (nI 1))) (Int32.toNatClampNeg (nI 3))) / (nI 24) * (nI 24)))))) (x6 := x.1) (s := x.2) (q := u) (r0 := r0) (mu0 := mu0) hq hk) fuel0 ((nI 0), (mkM (gM_ss z10.2) (gM_ty z10.2) (gM_at z10.2) (gM_ft z10.2) (gM_mn z10.2) (gM_bd z10.2) (gM_no z10.2) (gM_fu z10.2) (upd (gM_nw z10.2) (Int32.toNatClampNeg (nI 3)) (((gM_nw z10.2) (Int32.toNatClampNeg (nI 3))) + (nI 1))) (gM_as z10.2) (gM_pa z10.2) (gM_tx z10.2) (gM_od z10.2))) z36 e37 ?_
    refine mEv.stp 0 (S' := (210, [], [some (.ref 0), some (.int x1), some (.int z10.1), some (.int x3), none, none, none, none, none], [], memM z36)) rfl ?_
    refine mEv.stp 3 (S' := (4, [], [some (.ref 0), some (.int x1), some (.int z10.1), some (.int (x3 + (nI 1))), none, none, none, none, none], [], memM z36)) rfl ?_
    obtain rfl := Option.some.inj h
    exact hk
def F_X3_passes (p1 : Int32) (s : ModS) : Option (Int32 × ModS) := (mWh (fun x => B_X3_passes_4 p1 x.1 x.2.1 x.2.2) fuel0 ((nI 0), (nI 0), s)).bind (fun z38 => some ((z38.1, z38.2)))
set_option maxRecDepth 100000 in
theorem E_X3_passes {d : Nat} {p1 : Int32} {s : ModS} {q : Int32 × ModS} (h : F_X3_passes p1 s = some q) : mEv (d + 5) m_X3_passes none (0, [], [some (.ref 0), some (.int p1), none, none, none, none, none, none, none], [], memM s) (some (Value.int q.1)) (memM q.2) := by
  unfold F_X3_passes at h
  refine mEv.stp 5 (S' := (4, [], [some (.ref 0), some (.int p1), some (.int (nI 0)), some (.int (nI 0)), none, none, none, none, none], [], memM s)) rfl ?_
  obtain ⟨z38, e39, h⟩ := bnd h
  refine mWh_ind (b := (fun x => B_X3_passes_4 p1 x.1 x.2.1 x.2.2)) (P := fun x : Int32 × Int32 × ModS => mEv (d + 5) m_X3_passes none (4, [], [some (.ref 0), some (.int p1), some (.int x.1), some (.int x.2.1), none, none, none, none, none], [], memM x.2.2) (some (Value.int q.1)) (memM q.2)) (K := fun z : Int32 × ModS => mEv (d + 5) m_X3_passes none (216, [], [none, none, some (.int z.1), none, none, none, none, none, none], [], memM z.2) (some (Value.int q.1)) (memM q.2)) (fun x u hq hk => H_X3_passes_4 (d := d) (x1 := p1) (x2 := x.1) (x3 := x.2.1) (s := x.2.2) (q := u) (r0 := (some (Value.int q.1))) (mu0 := (memM q.2)) hq hk) fuel0 ((nI 0), (nI 0), s) z38 e39 ?_
  refine mEv.stp 0 (S' := (216, [], [none, none, some (.int z38.1), none, none, none, none, none, none], [], memM z38.2)) rfl ?_
  obtain rfl := Option.some.inj h
  exact mEv.stp 2 (S' := (217, _, [none, none, some (.int z38.1), none, none, none, none, none, none], [.int z38.1], memM z38.2)) rfl (mEv.reti ⟨_, rfl, rfl⟩)
theorem A_X3_passes {d : Nat} {p1 : Int32} {s : ModS} {q : Int32 × ModS} (h : F_X3_passes p1 s = some q) : mCall (d + 5) m_X3_passes [.ref 0, .int p1] (memM s) (some (Value.int q.1)) (memM q.2) := mCall.intro ok_X3_passes pl_X3_passes rfl (E_X3_passes (d := d) h)
def F_X3_hours (p1 : Int32) (s : ModS) : Option (Int32 × ModS) := (F_X3_in p1 (nI 1) (nI 48)).bind (fun v1 => if ¬ v1 = (nI 0) then ((F_X3_keeps s).bind (fun v4 => (F_X3_passes p1 v4).bind (fun v6 => some ((v6.1, v6.2))))) else ((F_X3_bads s).bind (fun v8 => some ((v8.1, v8.2)))))
set_option maxRecDepth 100000 in
theorem E_X3_hours {d : Nat} {p1 : Int32} {s : ModS} {q : Int32 × ModS} (h : F_X3_hours p1 s = some q) : mEv (d + 6) m_X3_hours none (0, [], [some (.ref 0), some (.int p1)], [], memM s) (some (Value.int q.1)) (memM q.2) := by
  unfold F_X3_hours at h
  refine mEv.stp 4 (S' := (4, _, [some (.ref 0), some (.int p1)], [.int (nI 48), .int (nI 1), .int p1], memM s)) rfl ?_
  obtain ⟨v1, e2, h⟩ := bnd h
  refine mEv.callS (As := [.int p1, .int (nI 1), .int (nI 48)]) (st := []) (r := (some (.int v1))) (μ1 := memM s) lk_X3_36 rfl rfl rfl (A_X3_in (d := d + 5) e2) ?_
  refine mEv.stp 0 (S' := (7, _, [some (.ref 0), some (.int p1)], [.int v1], memM s)) rfl ?_
  refine mEv.br 1 (S1 := (15, [], [some (.ref 0), some (.int p1)], [], memM s)) (S2 := (10, _, [some (.ref 0), some (.int p1)], [], memM s)) rfl (fun c3 => ?_) (fun c3 => ?_)
  · have h := (if_pos c3).symm.trans h
    refine mEv.stp 2 (S' := (16, _, [some (.ref 0), some (.int p1)], [.ref 0], memM s)) rfl ?_
    obtain ⟨v4, e5, h⟩ := bnd h
    refine mEv.callV (As := []) (st := []) (h := 0) (r := none) (μ1 := memM v4) lk_X3_51 rfl rfl rfl rfl rfl (A_X3_keeps (d := d + 5) e5) ?_
    refine mEv.stp 0 (S' := (19, _, [some (.ref 0), some (.int p1)], [], memM v4)) rfl ?_
    refine mEv.stp 2 (S' := (21, _, [some (.ref 0), some (.int p1)], [.int p1, .ref 0], memM v4)) rfl ?_
    obtain ⟨v6, e7, h⟩ := bnd h
    refine mEv.callV (As := [.int p1]) (st := []) (h := 0) (r := (some (.int v6.1))) (μ1 := memM v6.2) lk_X3_104 rfl rfl rfl rfl rfl (A_X3_passes (d := d + 0) e7) ?_
    refine mEv.stp 0 (S' := (24, _, [some (.ref 0), some (.int p1)], [.int v6.1], memM v6.2)) rfl ?_
    obtain rfl := Option.some.inj h
    exact mEv.reti ⟨_, rfl, rfl⟩
  · have h := (if_neg c3).symm.trans h
    refine mEv.stp 1 (S' := (11, _, [some (.ref 0), some (.int p1)], [.ref 0], memM s)) rfl ?_
    obtain ⟨v8, e9, h⟩ := bnd h
    refine mEv.callV (As := []) (st := []) (h := 0) (r := (some (.int v8.1))) (μ1 := memM v8.2) lk_X3_47 rfl rfl rfl rfl rfl (A_X3_bads (d := d + 5) e9) ?_
    refine mEv.stp 0 (S' := (14, _, [some (.ref 0), some (.int p1)], [.int v8.1], memM v8.2)) rfl ?_
    obtain rfl := Option.some.inj h
    exact mEv.reti ⟨_, rfl, rfl⟩
theorem A_X3_hours {d : Nat} {p1 : Int32} {s : ModS} {q : Int32 × ModS} (h : F_X3_hours p1 s = some q) : mCall (d + 6) m_X3_hours [.ref 0, .int p1] (memM s) (some (Value.int q.1)) (memM q.2) := mCall.intro ok_X3_hours pl_X3_hours rfl (E_X3_hours (d := d) h)
def J_X3_going_13  (s : ModS) : Option (Int32 × ModS) := (F_X3_bads s).bind (fun v2 => some ((v2.1, v2.2)))
set_option maxRecDepth 100000 in
theorem K_X3_going_13 {d : Nat}  {s : ModS} {q : Int32 × ModS} (h : J_X3_going_13 s = some q) : mEv (d + 1) m_X3_going none (13, [], [some (.ref 0), none, none], [], memM s) (some (Value.int q.1)) (memM q.2) := by
  unfold J_X3_going_13 at h
  refine mEv.stp 2 (S' := (14, _, [some (.ref 0), none, none], [.ref 0], memM s)) rfl ?_
  obtain ⟨v2, e3, h⟩ := bnd h
  refine mEv.callV (As := []) (st := []) (h := 0) (r := (some (.int v2.1))) (μ1 := memM v2.2) lk_X3_47 rfl rfl rfl rfl rfl (A_X3_bads (d := d + 0) e3) ?_
  refine mEv.stp 0 (S' := (17, _, [some (.ref 0), none, none], [.int v2.1], memM v2.2)) rfl ?_
  obtain rfl := Option.some.inj h
  exact mEv.reti ⟨_, rfl, rfl⟩
def F_X3_going (p1 : Int32) (p2 : Int32) (s : ModS) : Option (Int32 × ModS) := if p1 < (nI 0) then (J_X3_going_13 s) else ((F_X3_in p2 (nI 0) (nI 3)).bind (fun v4 => if ¬ v4 = (nI 0) then (gI (nI 4) 637 (if ((gM_nw s) (Int32.toNatClampNeg (nI 4))) ≤ p1 then (some (((-nI 1), s))) else (gI (((nI 317) + ((nI 4) * p1)) + p2) 637 (some ((((gM_nw s) (Int32.toNatClampNeg (((nI 317) + ((nI 4) * p1)) + p2))), s)))))) else (J_X3_going_13 s)))
set_option maxRecDepth 100000 in
theorem E_X3_going {d : Nat} {p1 : Int32} {p2 : Int32} {s : ModS} {q : Int32 × ModS} (h : F_X3_going p1 p2 s = some q) : mEv (d + 1) m_X3_going none (0, [], [some (.ref 0), some (.int p1), some (.int p2)], [], memM s) (some (Value.int q.1)) (memM q.2) := by
  unfold F_X3_going at h
  refine mEv.br 3 (S1 := (13, [], [some (.ref 0), some (.int p1), some (.int p2)], [], memM s)) (S2 := (4, _, [some (.ref 0), some (.int p1), some (.int p2)], [], memM s)) rfl (fun c1 => ?_) (fun c1 => ?_)
  · have h := (if_pos c1).symm.trans h
    refine mEv.fg [1, 2] (z' := [some (.ref 0), none, none]) rfl ?_
    exact K_X3_going_13 (d := d) h
  · have h := (if_neg c1).symm.trans h
    refine mEv.stp 3 (S' := (7, _, [some (.ref 0), some (.int p1), some (.int p2)], [.int (nI 3), .int (nI 0), .int p2], memM s)) rfl ?_
    obtain ⟨v4, e5, h⟩ := bnd h
    refine mEv.callS (As := [.int p2, .int (nI 0), .int (nI 3)]) (st := []) (r := (some (.int v4))) (μ1 := memM s) lk_X3_36 rfl rfl rfl (A_X3_in (d := d + 0) e5) ?_
    refine mEv.stp 0 (S' := (10, _, [some (.ref 0), some (.int p1), some (.int p2)], [.int v4], memM s)) rfl ?_
    refine mEv.br 1 (S1 := (18, [], [some (.ref 0), some (.int p1), some (.int p2)], [], memM s)) (S2 := (13, [], [some (.ref 0), some (.int p1), some (.int p2)], [], memM s)) rfl (fun c6 => ?_) (fun c6 => ?_)
    · have h := (if_pos c6).symm.trans h
      obtain ⟨g7, h⟩ := gI_some h
      refine mEv.gd 6 (S' := (25, _, [some (.ref 0), some (.int p1), some (.int p2)], [.int ((gM_nw s) (Int32.toNatClampNeg (nI 4))), .int p1], memM s)) rfl g7 ?_
      refine mEv.br 1 (S1 := (45, [], [some (.ref 0), some (.int p1), some (.int p2)], [], memM s)) (S2 := (28, _, [some (.ref 0), some (.int p1), some (.int p2)], [], memM s)) rfl (fun c8 => ?_) (fun c8 => ?_)
      · have h := (if_pos c8).symm.trans h
        obtain rfl := Option.some.inj h
        exact mEv.stp 3 (S' := (46, _, [some (.ref 0), some (.int p1), some (.int p2)], [.int (-nI 1)], memM s)) rfl (mEv.reti ⟨_, rfl, rfl⟩)
      · have h := (if_neg c8).symm.trans h
        obtain ⟨g9, h⟩ := gI_some h
        refine mEv.gd 10 (S' := (42, _, [some (.ref 0), some (.int p1), some (.int p2)], [.int ((gM_nw s) (Int32.toNatClampNeg (((nI 317) + ((nI 4) * p1)) + p2)))], memM s)) rfl g9 ?_
        obtain rfl := Option.some.inj h
        exact mEv.stp 2 (S' := (46, _, [some (.ref 0), some (.int p1), some (.int p2)], [.int ((gM_nw s) (Int32.toNatClampNeg (((nI 317) + ((nI 4) * p1)) + p2)))], memM s)) rfl (mEv.reti ⟨_, rfl, rfl⟩)
    · have h := (if_neg c6).symm.trans h
      refine mEv.fg [1, 2] (z' := [some (.ref 0), none, none]) rfl ?_
      exact K_X3_going_13 (d := d) h
theorem A_X3_going {d : Nat} {p1 : Int32} {p2 : Int32} {s : ModS} {q : Int32 × ModS} (h : F_X3_going p1 p2 s = some q) : mCall (d + 1) m_X3_going [.ref 0, .int p1, .int p2] (memM s) (some (Value.int q.1)) (memM q.2) := mCall.intro ok_X3_going pl_X3_going rfl (E_X3_going (d := d) h)
def F_X3_ends (p1 : Int32) (s : ModS) : Option (Int32 × ModS) := if (nI 0) ≤ p1 then (gI (nI 4) 637 (if p1 < ((gM_nw s) (Int32.toNatClampNeg (nI 4))) then ((F_X3_keeps s).bind (fun v4 => (F_X3_letsGo p1 v4).bind (fun v6 => gI (nI 4) 637 (some ((((gM_nw v6) (Int32.toNatClampNeg (nI 4))), v6)))))) else ((F_X3_nos s).bind (fun v9 => some ((v9.1, v9.2)))))) else ((F_X3_bads s).bind (fun v11 => some ((v11.1, v11.2))))
set_option maxRecDepth 100000 in
theorem E_X3_ends {d : Nat} {p1 : Int32} {s : ModS} {q : Int32 × ModS} (h : F_X3_ends p1 s = some q) : mEv (d + 1) m_X3_ends none (0, [], [some (.ref 0), some (.int p1)], [], memM s) (some (Value.int q.1)) (memM q.2) := by
  unfold F_X3_ends at h
  refine mEv.br 3 (S1 := (9, [], [some (.ref 0), some (.int p1)], [], memM s)) (S2 := (4, _, [some (.ref 0), some (.int p1)], [], memM s)) rfl (fun c1 => ?_) (fun c1 => ?_)
  · have h := (if_pos c1).symm.trans h
    obtain ⟨g2, h⟩ := gI_some h
    refine mEv.gd 6 (S' := (16, _, [some (.ref 0), some (.int p1)], [.int ((gM_nw s) (Int32.toNatClampNeg (nI 4))), .int p1], memM s)) rfl g2 ?_
    refine mEv.br 1 (S1 := (24, [], [some (.ref 0), some (.int p1)], [], memM s)) (S2 := (19, _, [some (.ref 0), some (.int p1)], [], memM s)) rfl (fun c3 => ?_) (fun c3 => ?_)
    · have h := (if_pos c3).symm.trans h
      refine mEv.stp 2 (S' := (25, _, [some (.ref 0), some (.int p1)], [.ref 0], memM s)) rfl ?_
      obtain ⟨v4, e5, h⟩ := bnd h
      refine mEv.callV (As := []) (st := []) (h := 0) (r := none) (μ1 := memM v4) lk_X3_51 rfl rfl rfl rfl rfl (A_X3_keeps (d := d + 0) e5) ?_
      refine mEv.stp 0 (S' := (28, _, [some (.ref 0), some (.int p1)], [], memM v4)) rfl ?_
      refine mEv.stp 2 (S' := (30, _, [some (.ref 0), some (.int p1)], [.int p1, .ref 0], memM v4)) rfl ?_
      obtain ⟨v6, e7, h⟩ := bnd h
      refine mEv.callV (As := [.int p1]) (st := []) (h := 0) (r := none) (μ1 := memM v6) lk_X3_101 rfl rfl rfl rfl rfl (A_X3_letsGo (d := d + 0) e7) ?_
      refine mEv.stp 0 (S' := (33, _, [some (.ref 0), some (.int p1)], [], memM v6)) rfl ?_
      obtain ⟨g8, h⟩ := gI_some h
      refine mEv.gd 4 (S' := (39, _, [some (.ref 0), some (.int p1)], [.int ((gM_nw v6) (Int32.toNatClampNeg (nI 4)))], memM v6)) rfl g8 ?_
      obtain rfl := Option.some.inj h
      exact mEv.reti ⟨_, rfl, rfl⟩
    · have h := (if_neg c3).symm.trans h
      refine mEv.stp 1 (S' := (20, _, [some (.ref 0), some (.int p1)], [.ref 0], memM s)) rfl ?_
      obtain ⟨v9, e10, h⟩ := bnd h
      refine mEv.callV (As := []) (st := []) (h := 0) (r := (some (.int v9.1))) (μ1 := memM v9.2) lk_X3_108 rfl rfl rfl rfl rfl (A_X3_nos (d := d + 0) e10) ?_
      refine mEv.stp 0 (S' := (23, _, [some (.ref 0), some (.int p1)], [.int v9.1], memM v9.2)) rfl ?_
      obtain rfl := Option.some.inj h
      exact mEv.reti ⟨_, rfl, rfl⟩
  · have h := (if_neg c1).symm.trans h
    refine mEv.stp 1 (S' := (5, _, [some (.ref 0), some (.int p1)], [.ref 0], memM s)) rfl ?_
    obtain ⟨v11, e12, h⟩ := bnd h
    refine mEv.callV (As := []) (st := []) (h := 0) (r := (some (.int v11.1))) (μ1 := memM v11.2) lk_X3_47 rfl rfl rfl rfl rfl (A_X3_bads (d := d + 0) e12) ?_
    refine mEv.stp 0 (S' := (8, _, [some (.ref 0), some (.int p1)], [.int v11.1], memM v11.2)) rfl ?_
    obtain rfl := Option.some.inj h
    exact mEv.reti ⟨_, rfl, rfl⟩
theorem A_X3_ends {d : Nat} {p1 : Int32} {s : ModS} {q : Int32 × ModS} (h : F_X3_ends p1 s = some q) : mCall (d + 1) m_X3_ends [.ref 0, .int p1] (memM s) (some (Value.int q.1)) (memM q.2) := mCall.intro ok_X3_ends pl_X3_ends rfl (E_X3_ends (d := d) h)
def B_X3_sumOf_4 (x1 : Int32) (x2 : Int32) (x3 : Int32) (s : ModS) : Option ((Int32 × Int32) ⊕ (Int32)) := if (nI 36) ≤ x3 then (some (.inr (x2))) else (gI (((nI 113) + ((nI 5) * x3)) + x1) 637 (some (.inl ((x2 + ((gM_nw s) (Int32.toNatClampNeg (((nI 113) + ((nI 5) * x3)) + x1)))), (x3 + (nI 1))))))
set_option maxRecDepth 100000 in
theorem H_X3_sumOf_4 {d : Nat} {x1 : Int32} {x2 : Int32} {x3 : Int32} {s : ModS} {q : (Int32 × Int32) ⊕ (Int32)} {r0 : Option Value} {mu0 : MMe} (h : B_X3_sumOf_4 x1 x2 x3 s = some q) (hk : Sum.elim (fun x : Int32 × Int32 => mEv d m_X3_sumOf none (4, [], [some (.ref 0), some (.int x1), some (.int x.1), some (.int x.2)], [], memM s) r0 mu0) (fun z : Int32 => mEv d m_X3_sumOf none (32, [], [none, none, some (.int z), none], [], memM s) r0 mu0) q) : mEv d m_X3_sumOf none (4, [], [some (.ref 0), some (.int x1), some (.int x2), some (.int x3)], [], memM s) r0 mu0 := by
  unfold B_X3_sumOf_4 at h
  refine mEv.br 4 (S1 := (32, [], [some (.ref 0), some (.int x1), some (.int x2), some (.int x3)], [], memM s)) (S2 := (10, _, [some (.ref 0), some (.int x1), some (.int x2), some (.int x3)], [], memM s)) rfl (fun c1 => ?_) (fun c1 => ?_)
  · have h := (if_pos c1).symm.trans h
    refine mEv.fg [0, 1, 3] (z' := [none, none, some (.int x2), none]) rfl ?_
    obtain rfl := Option.some.inj h
    exact hk
  · have h := (if_neg c1).symm.trans h
    obtain ⟨g2, h⟩ := gI_some h
    refine mEv.gd 11 (S' := (24, _, [some (.ref 0), some (.int x1), some (.int x2), some (.int x3)], [.int ((gM_nw s) (Int32.toNatClampNeg (((nI 113) + ((nI 5) * x3)) + x1))), .int x2], memM s)) rfl g2 ?_
    refine mEv.stp 4 (S' := (4, [], [some (.ref 0), some (.int x1), some (.int (x2 + ((gM_nw s) (Int32.toNatClampNeg (((nI 113) + ((nI 5) * x3)) + x1))))), some (.int (x3 + (nI 1)))], [], memM s)) rfl ?_
    obtain rfl := Option.some.inj h
    exact hk
def F_X3_sumOf (p1 : Int32) (s : ModS) : Option (Int32) := (mWh (fun x => B_X3_sumOf_4 p1 x.1 x.2 s) fuel0 ((nI 0), (nI 0))).bind (fun z3 => some (z3))
set_option maxRecDepth 100000 in
theorem E_X3_sumOf {d : Nat} {p1 : Int32} {s : ModS} {q : Int32} (h : F_X3_sumOf p1 s = some q) : mEv d m_X3_sumOf none (0, [], [some (.ref 0), some (.int p1), none, none], [], memM s) (some (Value.int q)) (memM s) := by
  unfold F_X3_sumOf at h
  refine mEv.stp 5 (S' := (4, [], [some (.ref 0), some (.int p1), some (.int (nI 0)), some (.int (nI 0))], [], memM s)) rfl ?_
  obtain ⟨z3, e4, h⟩ := bnd h
  refine mWh_ind (b := (fun x => B_X3_sumOf_4 p1 x.1 x.2 s)) (P := fun x : Int32 × Int32 => mEv d m_X3_sumOf none (4, [], [some (.ref 0), some (.int p1), some (.int x.1), some (.int x.2)], [], memM s) (some (Value.int q)) (memM s)) (K := fun z : Int32 => mEv d m_X3_sumOf none (32, [], [none, none, some (.int z), none], [], memM s) (some (Value.int q)) (memM s)) (fun x u hq hk => H_X3_sumOf_4 (d := d) (x1 := p1) (x2 := x.1) (x3 := x.2) (s := s) (q := u) (r0 := (some (Value.int q))) (mu0 := (memM s)) hq hk) fuel0 ((nI 0), (nI 0)) z3 e4 ?_
  refine mEv.stp 0 (S' := (32, [], [none, none, some (.int z3), none], [], memM s)) rfl ?_
  obtain rfl := Option.some.inj h
  exact mEv.stp 2 (S' := (33, _, [none, none, some (.int z3), none], [.int z3], memM s)) rfl (mEv.reti ⟨_, rfl, rfl⟩)
theorem A_X3_sumOf {d : Nat} {p1 : Int32} {s : ModS} {q : Int32} (h : F_X3_sumOf p1 s = some q) : mCall d m_X3_sumOf [.ref 0, .int p1] (memM s) (some (Value.int q)) (memM s) := mCall.intro ok_X3_sumOf pl_X3_sumOf rfl (E_X3_sumOf (d := d) h)
def F_X3_all (p1 : Int32) (s : ModS) : Option (Int32 × ModS) := (F_X3_in p1 (nI 0) (nI 4)).bind (fun v1 => if v1 = (nI 0) then ((F_X3_bads s).bind (fun v4 => some ((v4.1, v4.2)))) else ((F_X3_sumOf p1 s).bind (fun v6 => some ((v6, s)))))
set_option maxRecDepth 100000 in
theorem E_X3_all {d : Nat} {p1 : Int32} {s : ModS} {q : Int32 × ModS} (h : F_X3_all p1 s = some q) : mEv (d + 1) m_X3_all none (0, [], [some (.ref 0), some (.int p1)], [], memM s) (some (Value.int q.1)) (memM q.2) := by
  unfold F_X3_all at h
  refine mEv.stp 4 (S' := (3, _, [some (.ref 0), some (.int p1)], [.int (nI 4), .int (nI 0), .int p1], memM s)) rfl ?_
  obtain ⟨v1, e2, h⟩ := bnd h
  refine mEv.callS (As := [.int p1, .int (nI 0), .int (nI 4)]) (st := []) (r := (some (.int v1))) (μ1 := memM s) lk_X3_36 rfl rfl rfl (A_X3_in (d := d + 0) e2) ?_
  refine mEv.stp 0 (S' := (6, _, [some (.ref 0), some (.int p1)], [.int v1], memM s)) rfl ?_
  refine mEv.br 1 (S1 := (17, [], [some (.ref 0), some (.int p1)], [], memM s)) (S2 := (9, _, [some (.ref 0), some (.int p1)], [], memM s)) rfl (fun c3 => ?_) (fun c3 => ?_)
  · have h := (if_pos c3).symm.trans h
    refine mEv.stp 2 (S' := (18, _, [some (.ref 0), some (.int p1)], [.ref 0], memM s)) rfl ?_
    obtain ⟨v4, e5, h⟩ := bnd h
    refine mEv.callV (As := []) (st := []) (h := 0) (r := (some (.int v4.1))) (μ1 := memM v4.2) lk_X3_47 rfl rfl rfl rfl rfl (A_X3_bads (d := d + 0) e5) ?_
    refine mEv.stp 0 (S' := (21, [], [some (.ref 0), some (.int p1)], [.int v4.1], memM v4.2)) rfl ?_
    obtain rfl := Option.some.inj h
    exact mEv.stp 1 (S' := (21, _, [some (.ref 0), some (.int p1)], [.int v4.1], memM v4.2)) rfl (mEv.reti ⟨_, rfl, rfl⟩)
  · have h := (if_neg c3).symm.trans h
    refine mEv.stp 2 (S' := (11, _, [some (.ref 0), some (.int p1)], [.int p1, .ref 0], memM s)) rfl ?_
    obtain ⟨v6, e7, h⟩ := bnd h
    refine mEv.callV (As := [.int p1]) (st := []) (h := 0) (r := (some (.int v6))) (μ1 := memM s) lk_X3_111 rfl rfl rfl rfl rfl (A_X3_sumOf (d := d + 0) e7) ?_
    refine mEv.stp 0 (S' := (14, _, [some (.ref 0), some (.int p1)], [.int v6], memM s)) rfl ?_
    obtain rfl := Option.some.inj h
    exact mEv.stp 2 (S' := (21, _, [some (.ref 0), some (.int p1)], [.int v6], memM s)) rfl (mEv.reti ⟨_, rfl, rfl⟩)
theorem A_X3_all {d : Nat} {p1 : Int32} {s : ModS} {q : Int32 × ModS} (h : F_X3_all p1 s = some q) : mCall (d + 1) m_X3_all [.ref 0, .int p1] (memM s) (some (Value.int q.1)) (memM q.2) := mCall.intro ok_X3_all pl_X3_all rfl (E_X3_all (d := d) h)
def J_X3_pair_39  (s : ModS) : Option (Int32 × ModS) := (F_X3_bads s).bind (fun v4 => some ((v4.1, v4.2)))
set_option maxRecDepth 100000 in
theorem K_X3_pair_39 {d : Nat}  {s : ModS} {q : Int32 × ModS} (h : J_X3_pair_39 s = some q) : mEv (d + 3) m_X3_pair none (39, [], [some (.ref 0), none, none, none], [], memM s) (some (Value.int q.1)) (memM q.2) := by
  unfold J_X3_pair_39 at h
  refine mEv.stp 2 (S' := (40, _, [some (.ref 0), none, none, none], [.ref 0], memM s)) rfl ?_
  obtain ⟨v4, e5, h⟩ := bnd h
  refine mEv.callV (As := []) (st := []) (h := 0) (r := (some (.int v4.1))) (μ1 := memM v4.2) lk_X3_47 rfl rfl rfl rfl rfl (A_X3_bads (d := d + 2) e5) ?_
  refine mEv.stp 0 (S' := (43, [], [some (.ref 0), none, none, none], [.int v4.1], memM v4.2)) rfl ?_
  obtain rfl := Option.some.inj h
  exact mEv.stp 1 (S' := (43, _, [some (.ref 0), none, none, none], [.int v4.1], memM v4.2)) rfl (mEv.reti ⟨_, rfl, rfl⟩)
def F_X3_pair (p1 : Int32) (p2 : Int32) (p3 : Int32) (s : ModS) : Option (Int32 × ModS) := (F_X3_areTowns p1 p2 s).bind (fun v1 => if v1 = (nI 0) then (J_X3_pair_39 s) else ((F_X3_in p3 (nI 0) (nI 4)).bind (fun v6 => if v6 = (nI 0) then (J_X3_pair_39 s) else (gI (((nI 113) + ((nI 5) * (((nI 6) * p1) + p2))) + p3) 637 (some ((((gM_nw s) (Int32.toNatClampNeg (((nI 113) + ((nI 5) * (((nI 6) * p1) + p2))) + p3))), s)))))))
set_option maxRecDepth 100000 in
theorem E_X3_pair {d : Nat} {p1 : Int32} {p2 : Int32} {p3 : Int32} {s : ModS} {q : Int32 × ModS} (h : F_X3_pair p1 p2 p3 s = some q) : mEv (d + 3) m_X3_pair none (0, [], [some (.ref 0), some (.int p1), some (.int p2), some (.int p3)], [], memM s) (some (Value.int q.1)) (memM q.2) := by
  unfold F_X3_pair at h
  refine mEv.stp 4 (S' := (3, _, [some (.ref 0), some (.int p1), some (.int p2), some (.int p3)], [.int p2, .int p1, .ref 0], memM s)) rfl ?_
  obtain ⟨v1, e2, h⟩ := bnd h
  refine mEv.callV (As := [.int p1, .int p2]) (st := []) (h := 0) (r := (some (.int v1))) (μ1 := memM s) lk_X3_54 rfl rfl rfl rfl rfl (A_X3_areTowns (d := d + 0) e2) ?_
  refine mEv.stp 0 (S' := (6, _, [some (.ref 0), some (.int p1), some (.int p2), some (.int p3)], [.int v1], memM s)) rfl ?_
  refine mEv.br 1 (S1 := (39, [], [some (.ref 0), some (.int p1), some (.int p2), some (.int p3)], [], memM s)) (S2 := (9, _, [some (.ref 0), some (.int p1), some (.int p2), some (.int p3)], [], memM s)) rfl (fun c3 => ?_) (fun c3 => ?_)
  · have h := (if_pos c3).symm.trans h
    refine mEv.fg [1, 2, 3] (z' := [some (.ref 0), none, none, none]) rfl ?_
    exact K_X3_pair_39 (d := d) h
  · have h := (if_neg c3).symm.trans h
    refine mEv.stp 3 (S' := (12, _, [some (.ref 0), some (.int p1), some (.int p2), some (.int p3)], [.int (nI 4), .int (nI 0), .int p3], memM s)) rfl ?_
    obtain ⟨v6, e7, h⟩ := bnd h
    refine mEv.callS (As := [.int p3, .int (nI 0), .int (nI 4)]) (st := []) (r := (some (.int v6))) (μ1 := memM s) lk_X3_36 rfl rfl rfl (A_X3_in (d := d + 2) e7) ?_
    refine mEv.stp 0 (S' := (15, _, [some (.ref 0), some (.int p1), some (.int p2), some (.int p3)], [.int v6], memM s)) rfl ?_
    refine mEv.br 1 (S1 := (39, [], [some (.ref 0), some (.int p1), some (.int p2), some (.int p3)], [], memM s)) (S2 := (18, _, [some (.ref 0), some (.int p1), some (.int p2), some (.int p3)], [], memM s)) rfl (fun c8 => ?_) (fun c8 => ?_)
    · have h := (if_pos c8).symm.trans h
      refine mEv.fg [1, 2, 3] (z' := [some (.ref 0), none, none, none]) rfl ?_
      exact K_X3_pair_39 (d := d) h
    · have h := (if_neg c8).symm.trans h
      obtain ⟨g9, h⟩ := gI_some h
      refine mEv.gd 14 (S' := (36, _, [some (.ref 0), some (.int p1), some (.int p2), some (.int p3)], [.int ((gM_nw s) (Int32.toNatClampNeg (((nI 113) + ((nI 5) * (((nI 6) * p1) + p2))) + p3)))], memM s)) rfl g9 ?_
      obtain rfl := Option.some.inj h
      exact mEv.stp 2 (S' := (43, _, [some (.ref 0), some (.int p1), some (.int p2), some (.int p3)], [.int ((gM_nw s) (Int32.toNatClampNeg (((nI 113) + ((nI 5) * (((nI 6) * p1) + p2))) + p3)))], memM s)) rfl (mEv.reti ⟨_, rfl, rfl⟩)
theorem A_X3_pair {d : Nat} {p1 : Int32} {p2 : Int32} {p3 : Int32} {s : ModS} {q : Int32 × ModS} (h : F_X3_pair p1 p2 p3 s = some q) : mCall (d + 3) m_X3_pair [.ref 0, .int p1, .int p2, .int p3] (memM s) (some (Value.int q.1)) (memM q.2) := mCall.intro ok_X3_pair pl_X3_pair rfl (E_X3_pair (d := d) h)
def J_X3_worst_126 (x1 : Int32) (x4 : Int32) (x5 : Int32) (x6 : Int32) (s : ModS) : Option ((Int32 × Int32 × Int32) ⊕ (Int32 × Int32)) := some (.inl ((((nI 10) * x4) + x5), x6, (x5 + (nI 1))))
set_option maxRecDepth 100000 in
theorem K_X3_worst_126 {d : Nat} {x1 : Int32} {x4 : Int32} {x5 : Int32} {x6 : Int32} {s : ModS} {q : (Int32 × Int32 × Int32) ⊕ (Int32 × Int32)} {r0 : Option Value} {mu0 : MMe} (h : J_X3_worst_126 x1 x4 x5 x6 s = some q) (hk : Sum.elim (fun x : Int32 × Int32 × Int32 => mEv (d + 3) m_X3_worst none (47, [], [some (.ref 0), some (.int x1), some (.int x.1), some (.int x.2.1), some (.int x4), some (.int x.2.2), none], [], memM s) r0 mu0) (fun z : Int32 × Int32 => mEv (d + 3) m_X3_worst none (144, [], [some (.ref 0), some (.int x1), some (.int z.1), some (.int z.2), some (.int x4), none, none], [], memM s) r0 mu0) q) : mEv (d + 3) m_X3_worst none (126, [], [some (.ref 0), some (.int x1), none, none, some (.int x4), some (.int x5), some (.int x6)], [], memM s) r0 mu0 := by
  unfold J_X3_worst_126 at h
  refine mEv.stp 12 (S' := (47, [], [some (.ref 0), some (.int x1), some (.int (((nI 10) * x4) + x5)), some (.int x6), some (.int x4), some (.int (x5 + (nI 1))), some (.int x6)], [], memM s)) rfl ?_
  refine mEv.fg [6] (z' := [some (.ref 0), some (.int x1), some (.int (((nI 10) * x4) + x5)), some (.int x6), some (.int x4), some (.int (x5 + (nI 1))), none]) rfl ?_
  obtain rfl := Option.some.inj h
  exact hk
def J_X3_worst_106 (x1 : Int32) (x2 : Int32) (x3 : Int32) (x4 : Int32) (x5 : Int32) (y0 : Int32) (s : ModS) : Option ((Int32 × Int32 × Int32) ⊕ (Int32 × Int32)) := if x4 = x5 then (some (.inl (x2, x3, (x5 + (nI 1))))) else (if x2 = (-nI 1) then (J_X3_worst_126 x1 x4 x5 y0 s) else (if y0 ≤ x3 then (some (.inl (x2, x3, (x5 + (nI 1))))) else (J_X3_worst_126 x1 x4 x5 y0 s)))
set_option maxRecDepth 100000 in
theorem K_X3_worst_106 {d : Nat} {x1 : Int32} {x2 : Int32} {x3 : Int32} {x4 : Int32} {x5 : Int32} {y0 : Int32} {s : ModS} {q : (Int32 × Int32 × Int32) ⊕ (Int32 × Int32)} {r0 : Option Value} {mu0 : MMe} (h : J_X3_worst_106 x1 x2 x3 x4 x5 y0 s = some q) (hk : Sum.elim (fun x : Int32 × Int32 × Int32 => mEv (d + 3) m_X3_worst none (47, [], [some (.ref 0), some (.int x1), some (.int x.1), some (.int x.2.1), some (.int x4), some (.int x.2.2), none], [], memM s) r0 mu0) (fun z : Int32 × Int32 => mEv (d + 3) m_X3_worst none (144, [], [some (.ref 0), some (.int x1), some (.int z.1), some (.int z.2), some (.int x4), none, none], [], memM s) r0 mu0) q) : mEv (d + 3) m_X3_worst none (106, [], [some (.ref 0), some (.int x1), some (.int x2), some (.int x3), some (.int x4), some (.int x5), none], [.int y0], memM s) r0 mu0 := by
  unfold J_X3_worst_106 at h
  refine mEv.br 5 (S1 := (138, [], [some (.ref 0), some (.int x1), some (.int x2), some (.int x3), some (.int x4), some (.int x5), some (.int y0)], [], memM s)) (S2 := (115, _, [some (.ref 0), some (.int x1), some (.int x2), some (.int x3), some (.int x4), some (.int x5), some (.int y0)], [], memM s)) rfl (fun c13 => ?_) (fun c13 => ?_)
  · have h := (if_pos c13).symm.trans h
    refine mEv.stp 3 (S' := (47, [], [some (.ref 0), some (.int x1), some (.int x2), some (.int x3), some (.int x4), some (.int (x5 + (nI 1))), some (.int y0)], [], memM s)) rfl ?_
    refine mEv.fg [6] (z' := [some (.ref 0), some (.int x1), some (.int x2), some (.int x3), some (.int x4), some (.int (x5 + (nI 1))), none]) rfl ?_
    obtain rfl := Option.some.inj h
    exact hk
  · have h := (if_neg c13).symm.trans h
    refine mEv.br 3 (S1 := (126, [], [some (.ref 0), some (.int x1), some (.int x2), some (.int x3), some (.int x4), some (.int x5), some (.int y0)], [], memM s)) (S2 := (120, _, [some (.ref 0), some (.int x1), some (.int x2), some (.int x3), some (.int x4), some (.int x5), some (.int y0)], [], memM s)) rfl (fun c14 => ?_) (fun c14 => ?_)
    · have h := (if_pos c14).symm.trans h
      refine mEv.fg [2, 3] (z' := [some (.ref 0), some (.int x1), none, none, some (.int x4), some (.int x5), some (.int y0)]) rfl ?_
      exact K_X3_worst_126 (d := d) h hk
    · have h := (if_neg c14).symm.trans h
      refine mEv.br 3 (S1 := (138, [], [some (.ref 0), some (.int x1), some (.int x2), some (.int x3), some (.int x4), some (.int x5), some (.int y0)], [], memM s)) (S2 := (126, [], [some (.ref 0), some (.int x1), some (.int x2), some (.int x3), some (.int x4), some (.int x5), some (.int y0)], [], memM s)) rfl (fun c15 => ?_) (fun c15 => ?_)
      · have h := (if_pos c15).symm.trans h
        refine mEv.stp 3 (S' := (47, [], [some (.ref 0), some (.int x1), some (.int x2), some (.int x3), some (.int x4), some (.int (x5 + (nI 1))), some (.int y0)], [], memM s)) rfl ?_
        refine mEv.fg [6] (z' := [some (.ref 0), some (.int x1), some (.int x2), some (.int x3), some (.int x4), some (.int (x5 + (nI 1))), none]) rfl ?_
        obtain rfl := Option.some.inj h
        exact hk
      · have h := (if_neg c15).symm.trans h
        refine mEv.fg [2, 3] (z' := [some (.ref 0), some (.int x1), none, none, some (.int x4), some (.int x5), some (.int y0)]) rfl ?_
        exact K_X3_worst_126 (d := d) h hk
def B_X3_worst_47 (x1 : Int32) (x4 : Int32) (x2 : Int32) (x3 : Int32) (x5 : Int32) (s : ModS) : Option ((Int32 × Int32 × Int32) ⊕ (Int32 × Int32)) := gI (nI 0) 637 (if ((gM_nw s) (Int32.toNatClampNeg (nI 0))) ≤ x5 then (some (.inr (x2, x3))) else (if ¬ x4 = x5 then (if (nI 2) ≤ x1 then ((F_X3_free x4 x5 s).bind (fun v11 => J_X3_worst_106 x1 x2 x3 x4 x5 (-v11) s)) else (gI (((nI 113) + ((nI 5) * (((nI 6) * x4) + x5))) + (nI 4)) 637 (J_X3_worst_106 x1 x2 x3 x4 x5 ((gM_nw s) (Int32.toNatClampNeg (((nI 113) + ((nI 5) * (((nI 6) * x4) + x5))) + (nI 4)))) s))) else (J_X3_worst_106 x1 x2 x3 x4 x5 (nI 0) s)))
set_option maxRecDepth 100000 in
theorem H_X3_worst_47 {d : Nat} {x1 : Int32} {x4 : Int32} {x2 : Int32} {x3 : Int32} {x5 : Int32} {s : ModS} {q : (Int32 × Int32 × Int32) ⊕ (Int32 × Int32)} {r0 : Option Value} {mu0 : MMe} (h : B_X3_worst_47 x1 x4 x2 x3 x5 s = some q) (hk : Sum.elim (fun x : Int32 × Int32 × Int32 => mEv (d + 3) m_X3_worst none (47, [], [some (.ref 0), some (.int x1), some (.int x.1), some (.int x.2.1), some (.int x4), some (.int x.2.2), none], [], memM s) r0 mu0) (fun z : Int32 × Int32 => mEv (d + 3) m_X3_worst none (144, [], [some (.ref 0), some (.int x1), some (.int z.1), some (.int z.2), some (.int x4), none, none], [], memM s) r0 mu0) q) : mEv (d + 3) m_X3_worst none (47, [], [some (.ref 0), some (.int x1), some (.int x2), some (.int x3), some (.int x4), some (.int x5), none], [], memM s) r0 mu0 := by
  unfold B_X3_worst_47 at h
  obtain ⟨g7, h⟩ := gI_some h
  refine mEv.gd 6 (S' := (55, _, [some (.ref 0), some (.int x1), some (.int x2), some (.int x3), some (.int x4), some (.int x5), none], [.int ((gM_nw s) (Int32.toNatClampNeg (nI 0))), .int x5], memM s)) rfl g7 ?_
  refine mEv.br 1 (S1 := (144, [], [some (.ref 0), some (.int x1), some (.int x2), some (.int x3), some (.int x4), some (.int x5), none], [], memM s)) (S2 := (58, _, [some (.ref 0), some (.int x1), some (.int x2), some (.int x3), some (.int x4), some (.int x5), none], [], memM s)) rfl (fun c8 => ?_) (fun c8 => ?_)
  · have h := (if_pos c8).symm.trans h
    refine mEv.fg [5] (z' := [some (.ref 0), some (.int x1), some (.int x2), some (.int x3), some (.int x4), none, none]) rfl ?_
    obtain rfl := Option.some.inj h
    exact hk
  · have h := (if_neg c8).symm.trans h
    refine mEv.br 3 (S1 := (69, [], [some (.ref 0), some (.int x1), some (.int x2), some (.int x3), some (.int x4), some (.int x5), none], [], memM s)) (S2 := (65, _, [some (.ref 0), some (.int x1), some (.int x2), some (.int x3), some (.int x4), some (.int x5), none], [], memM s)) rfl (fun c9 => ?_) (fun c9 => ?_)
    · have h := (if_pos c9).symm.trans h
      refine mEv.br 4 (S1 := (97, [], [some (.ref 0), some (.int x1), some (.int x2), some (.int x3), some (.int x4), some (.int x5), none], [], memM s)) (S2 := (74, _, [some (.ref 0), some (.int x1), some (.int x2), some (.int x3), some (.int x4), some (.int x5), none], [], memM s)) rfl (fun c10 => ?_) (fun c10 => ?_)
      · have h := (if_pos c10).symm.trans h
        refine mEv.stp 4 (S' := (102, _, [some (.ref 0), some (.int x1), some (.int x2), some (.int x3), some (.int x4), some (.int x5), none], [.int x5, .int x4, .ref 0], memM s)) rfl ?_
        obtain ⟨v11, e12, h⟩ := bnd h
        refine mEv.callV (As := [.int x4, .int x5]) (st := []) (h := 0) (r := (some (.int v11))) (μ1 := memM s) lk_X3_67 rfl rfl rfl rfl rfl (A_X3_free (d := d + 0) e12) ?_
        refine mEv.stp 0 (S' := (105, _, [some (.ref 0), some (.int x1), some (.int x2), some (.int x3), some (.int x4), some (.int x5), none], [.int v11], memM s)) rfl ?_
        refine mEv.stp 1 (S' := (106, [], [some (.ref 0), some (.int x1), some (.int x2), some (.int x3), some (.int x4), some (.int x5), none], [.int (-v11)], memM s)) rfl ?_
        exact K_X3_worst_106 (d := d) h hk
      · have h := (if_neg c10).symm.trans h
        obtain ⟨g16, h⟩ := gI_some h
        refine mEv.gd 14 (S' := (94, _, [some (.ref 0), some (.int x1), some (.int x2), some (.int x3), some (.int x4), some (.int x5), none], [.int ((gM_nw s) (Int32.toNatClampNeg (((nI 113) + ((nI 5) * (((nI 6) * x4) + x5))) + (nI 4))))], memM s)) rfl g16 ?_
        refine mEv.stp 1 (S' := (106, [], [some (.ref 0), some (.int x1), some (.int x2), some (.int x3), some (.int x4), some (.int x5), none], [.int ((gM_nw s) (Int32.toNatClampNeg (((nI 113) + ((nI 5) * (((nI 6) * x4) + x5))) + (nI 4))))], memM s)) rfl ?_
        exact K_X3_worst_106 (d := d) h hk
    · have h := (if_neg c9).symm.trans h
      refine mEv.stp 2 (S' := (106, [], [some (.ref 0), some (.int x1), some (.int x2), some (.int x3), some (.int x4), some (.int x5), none], [.int (nI 0)], memM s)) rfl ?_
      exact K_X3_worst_106 (d := d) h hk
def J_X3_worst_45 (x1 : Int32) (x2 : Int32) (x3 : Int32) (x4 : Int32) (y0 : Int32) (s : ModS) : Option ((Int32 × Int32 × Int32) ⊕ (Int32 × Int32)) := (mWh (fun x => B_X3_worst_47 x1 x4 x.1 x.2.1 x.2.2 s) fuel0 (x2, x3, y0)).bind (fun z17 => some (.inl (z17.1, z17.2, (x4 + (nI 1)))))
set_option maxRecDepth 100000 in
theorem K_X3_worst_45 {d : Nat} {x1 : Int32} {x2 : Int32} {x3 : Int32} {x4 : Int32} {y0 : Int32} {s : ModS} {q : (Int32 × Int32 × Int32) ⊕ (Int32 × Int32)} {r0 : Option Value} {mu0 : MMe} (h : J_X3_worst_45 x1 x2 x3 x4 y0 s = some q) (hk : Sum.elim (fun x : Int32 × Int32 × Int32 => mEv (d + 3) m_X3_worst none (21, [], [some (.ref 0), some (.int x1), some (.int x.1), some (.int x.2.1), some (.int x.2.2), none, none], [], memM s) r0 mu0) (fun z : Int32 × Int32 => mEv (d + 3) m_X3_worst none (150, [], [none, some (.int x1), some (.int z.1), some (.int z.2), none, none, none], [], memM s) r0 mu0) q) : mEv (d + 3) m_X3_worst none (45, [], [some (.ref 0), some (.int x1), some (.int x2), some (.int x3), some (.int x4), none, none], [.int y0], memM s) r0 mu0 := by
  unfold J_X3_worst_45 at h
  refine mEv.stp 2 (S' := (47, [], [some (.ref 0), some (.int x1), some (.int x2), some (.int x3), some (.int x4), some (.int y0), none], [], memM s)) rfl ?_
  obtain ⟨z17, e18, h⟩ := bnd h
  refine mWh_ind (b := (fun x => B_X3_worst_47 x1 x4 x.1 x.2.1 x.2.2 s)) (P := fun x : Int32 × Int32 × Int32 => mEv (d + 3) m_X3_worst none (47, [], [some (.ref 0), some (.int x1), some (.int x.1), some (.int x.2.1), some (.int x4), some (.int x.2.2), none], [], memM s) r0 mu0) (K := fun z : Int32 × Int32 => mEv (d + 3) m_X3_worst none (144, [], [some (.ref 0), some (.int x1), some (.int z.1), some (.int z.2), some (.int x4), none, none], [], memM s) r0 mu0) (fun x u hq hk => H_X3_worst_47 (d := d) (x1 := x1) (x4 := x4) (x2 := x.1) (x3 := x.2.1) (x5 := x.2.2) (s := s) (q := u) (r0 := r0) (mu0 := mu0) hq hk) fuel0 (x2, x3, y0) z17 e18 ?_
  refine mEv.stp 0 (S' := (144, [], [some (.ref 0), some (.int x1), some (.int z17.1), some (.int z17.2), some (.int x4), none, none], [], memM s)) rfl ?_
  refine mEv.stp 3 (S' := (21, [], [some (.ref 0), some (.int x1), some (.int z17.1), some (.int z17.2), some (.int (x4 + (nI 1))), none, none], [], memM s)) rfl ?_
  obtain rfl := Option.some.inj h
  exact hk
def B_X3_worst_21 (x1 : Int32) (x2 : Int32) (x3 : Int32) (x4 : Int32) (s : ModS) : Option ((Int32 × Int32 × Int32) ⊕ (Int32 × Int32)) := gI (nI 0) 637 (if ((gM_nw s) (Int32.toNatClampNeg (nI 0))) ≤ x4 then (some (.inr (x2, x3))) else (if (nI 2) ≤ x1 then (J_X3_worst_45 x1 x2 x3 x4 (x4 + (nI 1)) s) else (J_X3_worst_45 x1 x2 x3 x4 (nI 0) s)))
set_option maxRecDepth 100000 in
theorem H_X3_worst_21 {d : Nat} {x1 : Int32} {x2 : Int32} {x3 : Int32} {x4 : Int32} {s : ModS} {q : (Int32 × Int32 × Int32) ⊕ (Int32 × Int32)} {r0 : Option Value} {mu0 : MMe} (h : B_X3_worst_21 x1 x2 x3 x4 s = some q) (hk : Sum.elim (fun x : Int32 × Int32 × Int32 => mEv (d + 3) m_X3_worst none (21, [], [some (.ref 0), some (.int x1), some (.int x.1), some (.int x.2.1), some (.int x.2.2), none, none], [], memM s) r0 mu0) (fun z : Int32 × Int32 => mEv (d + 3) m_X3_worst none (150, [], [none, some (.int x1), some (.int z.1), some (.int z.2), none, none, none], [], memM s) r0 mu0) q) : mEv (d + 3) m_X3_worst none (21, [], [some (.ref 0), some (.int x1), some (.int x2), some (.int x3), some (.int x4), none, none], [], memM s) r0 mu0 := by
  unfold B_X3_worst_21 at h
  obtain ⟨g4, h⟩ := gI_some h
  refine mEv.gd 6 (S' := (29, _, [some (.ref 0), some (.int x1), some (.int x2), some (.int x3), some (.int x4), none, none], [.int ((gM_nw s) (Int32.toNatClampNeg (nI 0))), .int x4], memM s)) rfl g4 ?_
  refine mEv.br 1 (S1 := (150, [], [some (.ref 0), some (.int x1), some (.int x2), some (.int x3), some (.int x4), none, none], [], memM s)) (S2 := (32, _, [some (.ref 0), some (.int x1), some (.int x2), some (.int x3), some (.int x4), none, none], [], memM s)) rfl (fun c5 => ?_) (fun c5 => ?_)
  · have h := (if_pos c5).symm.trans h
    refine mEv.fg [0, 4] (z' := [none, some (.int x1), some (.int x2), some (.int x3), none, none, none]) rfl ?_
    obtain rfl := Option.some.inj h
    exact hk
  · have h := (if_neg c5).symm.trans h
    refine mEv.br 3 (S1 := (41, [], [some (.ref 0), some (.int x1), some (.int x2), some (.int x3), some (.int x4), none, none], [], memM s)) (S2 := (37, _, [some (.ref 0), some (.int x1), some (.int x2), some (.int x3), some (.int x4), none, none], [], memM s)) rfl (fun c6 => ?_) (fun c6 => ?_)
    · have h := (if_pos c6).symm.trans h
      refine mEv.stp 4 (S' := (45, [], [some (.ref 0), some (.int x1), some (.int x2), some (.int x3), some (.int x4), none, none], [.int (x4 + (nI 1))], memM s)) rfl ?_
      exact K_X3_worst_45 (d := d) h hk
    · have h := (if_neg c6).symm.trans h
      refine mEv.stp 2 (S' := (45, [], [some (.ref 0), some (.int x1), some (.int x2), some (.int x3), some (.int x4), none, none], [.int (nI 0)], memM s)) rfl ?_
      exact K_X3_worst_45 (d := d) h hk
def F_X3_worst (p1 : Int32) (s : ModS) : Option (Int32 × ModS) := (F_X3_in p1 (nI 0) (nI 3)).bind (fun v1 => if ¬ v1 = (nI 0) then ((mWh (fun x => B_X3_worst_21 p1 x.1 x.2.1 x.2.2 s) fuel0 ((-nI 1), (nI 0), (nI 0))).bind (fun z19 => gZ (nI 2) (if ¬ (p1 - p1 / (nI 2) * (nI 2)) = (nI 0) then (if ¬ p1 = (nI 1) then (some (((-z19.2), s))) else (some ((z19.2, s)))) else (some ((z19.1, s)))))) else ((F_X3_bads s).bind (fun v24 => some ((v24.1, v24.2)))))
set_option maxRecDepth 100000 in
theorem E_X3_worst {d : Nat} {p1 : Int32} {s : ModS} {q : Int32 × ModS} (h : F_X3_worst p1 s = some q) : mEv (d + 3) m_X3_worst none (0, [], [some (.ref 0), some (.int p1), none, none, none, none, none], [], memM s) (some (Value.int q.1)) (memM q.2) := by
  unfold F_X3_worst at h
  refine mEv.stp 4 (S' := (3, _, [some (.ref 0), some (.int p1), none, none, none, none, none], [.int (nI 3), .int (nI 0), .int p1], memM s)) rfl ?_
  obtain ⟨v1, e2, h⟩ := bnd h
  refine mEv.callS (As := [.int p1, .int (nI 0), .int (nI 3)]) (st := []) (r := (some (.int v1))) (μ1 := memM s) lk_X3_36 rfl rfl rfl (A_X3_in (d := d + 2) e2) ?_
  refine mEv.stp 0 (S' := (6, _, [some (.ref 0), some (.int p1), none, none, none, none, none], [.int v1], memM s)) rfl ?_
  refine mEv.br 1 (S1 := (14, [], [some (.ref 0), some (.int p1), none, none, none, none, none], [], memM s)) (S2 := (9, _, [some (.ref 0), some (.int p1), none, none, none, none, none], [], memM s)) rfl (fun c3 => ?_) (fun c3 => ?_)
  · have h := (if_pos c3).symm.trans h
    refine mEv.stp 7 (S' := (21, [], [some (.ref 0), some (.int p1), some (.int (-nI 1)), some (.int (nI 0)), some (.int (nI 0)), none, none], [], memM s)) rfl ?_
    obtain ⟨z19, e20, h⟩ := bnd h
    refine mWh_ind (b := (fun x => B_X3_worst_21 p1 x.1 x.2.1 x.2.2 s)) (P := fun x : Int32 × Int32 × Int32 => mEv (d + 3) m_X3_worst none (21, [], [some (.ref 0), some (.int p1), some (.int x.1), some (.int x.2.1), some (.int x.2.2), none, none], [], memM s) (some (Value.int q.1)) (memM q.2)) (K := fun z : Int32 × Int32 => mEv (d + 3) m_X3_worst none (150, [], [none, some (.int p1), some (.int z.1), some (.int z.2), none, none, none], [], memM s) (some (Value.int q.1)) (memM q.2)) (fun x u hq hk => H_X3_worst_21 (d := d) (x1 := p1) (x2 := x.1) (x3 := x.2.1) (x4 := x.2.2) (s := s) (q := u) (r0 := (some (Value.int q.1))) (mu0 := (memM q.2)) hq hk) fuel0 ((-nI 1), (nI 0), (nI 0)) z19 e20 ?_
    refine mEv.stp 0 (S' := (150, [], [none, some (.int p1), some (.int z19.1), some (.int z19.2), none, none, none], [], memM s)) rfl ?_
    obtain ⟨g21, h⟩ := gZ_some h
    refine mEv.gd 4 (S' := (153, _, [none, some (.int p1), some (.int z19.1), some (.int z19.2), none, none, none], [.int (p1 - p1 / (nI 2) * (nI 2))], memM s)) rfl g21 ?_
    refine mEv.br 1 (S1 := (160, [], [none, some (.int p1), some (.int z19.1), some (.int z19.2), none, none, none], [], memM s)) (S2 := (156, _, [none, some (.int p1), some (.int z19.1), some (.int z19.2), none, none, none], [], memM s)) rfl (fun c22 => ?_) (fun c22 => ?_)
    · have h := (if_pos c22).symm.trans h
      refine mEv.br 4 (S1 := (169, [], [none, some (.int p1), some (.int z19.1), some (.int z19.2), none, none, none], [], memM s)) (S2 := (165, _, [none, some (.int p1), some (.int z19.1), some (.int z19.2), none, none, none], [], memM s)) rfl (fun c23 => ?_) (fun c23 => ?_)
      · have h := (if_pos c23).symm.trans h
        obtain rfl := Option.some.inj h
        exact mEv.stp 4 (S' := (171, _, [none, some (.int p1), some (.int z19.1), some (.int z19.2), none, none, none], [.int (-z19.2)], memM s)) rfl (mEv.reti ⟨_, rfl, rfl⟩)
      · have h := (if_neg c23).symm.trans h
        obtain rfl := Option.some.inj h
        exact mEv.stp 3 (S' := (171, _, [none, some (.int p1), some (.int z19.1), some (.int z19.2), none, none, none], [.int z19.2], memM s)) rfl (mEv.reti ⟨_, rfl, rfl⟩)
    · have h := (if_neg c22).symm.trans h
      obtain rfl := Option.some.inj h
      exact mEv.stp 3 (S' := (171, _, [none, some (.int p1), some (.int z19.1), some (.int z19.2), none, none, none], [.int z19.1], memM s)) rfl (mEv.reti ⟨_, rfl, rfl⟩)
  · have h := (if_neg c3).symm.trans h
    refine mEv.stp 1 (S' := (10, _, [some (.ref 0), some (.int p1), none, none, none, none, none], [.ref 0], memM s)) rfl ?_
    obtain ⟨v24, e25, h⟩ := bnd h
    refine mEv.callV (As := []) (st := []) (h := 0) (r := (some (.int v24.1))) (μ1 := memM v24.2) lk_X3_47 rfl rfl rfl rfl rfl (A_X3_bads (d := d + 2) e25) ?_
    refine mEv.stp 0 (S' := (13, _, [some (.ref 0), some (.int p1), none, none, none, none, none], [.int v24.1], memM v24.2)) rfl ?_
    obtain rfl := Option.some.inj h
    exact mEv.reti ⟨_, rfl, rfl⟩
theorem A_X3_worst {d : Nat} {p1 : Int32} {s : ModS} {q : Int32 × ModS} (h : F_X3_worst p1 s = some q) : mCall (d + 3) m_X3_worst [.ref 0, .int p1] (memM s) (some (Value.int q.1)) (memM q.2) := mCall.intro ok_X3_worst pl_X3_worst rfl (E_X3_worst (d := d) h)
def B_X3_burden_4 (x1 : Int32) (x2 : Int32) (s : ModS) : Option ((Int32 × Int32) ⊕ (Int32)) := gI (nI 4) 637 (if ((gM_nw s) (Int32.toNatClampNeg (nI 4))) ≤ x2 then (some (.inr (x1))) else (gI (((nI 317) + ((nI 4) * x2)) + (nI 2)) 637 (if ¬ ((gM_nw s) (Int32.toNatClampNeg (((nI 317) + ((nI 4) * x2)) + (nI 2)))) = (-nI 1) then (some (.inl ((x1 + (nI 2)), (x2 + (nI 1))))) else (some (.inl ((x1 + (nI 1)), (x2 + (nI 1))))))))
set_option maxRecDepth 100000 in
theorem H_X3_burden_4 {d : Nat} {x1 : Int32} {x2 : Int32} {s : ModS} {q : (Int32 × Int32) ⊕ (Int32)} {r0 : Option Value} {mu0 : MMe} (h : B_X3_burden_4 x1 x2 s = some q) (hk : Sum.elim (fun x : Int32 × Int32 => mEv d m_X3_burden none (4, [], [some (.ref 0), some (.int x.1), some (.int x.2)], [], memM s) r0 mu0) (fun z : Int32 => mEv d m_X3_burden none (46, [], [some (.ref 0), some (.int z), none], [], memM s) r0 mu0) q) : mEv d m_X3_burden none (4, [], [some (.ref 0), some (.int x1), some (.int x2)], [], memM s) r0 mu0 := by
  unfold B_X3_burden_4 at h
  obtain ⟨g1, h⟩ := gI_some h
  refine mEv.gd 6 (S' := (11, _, [some (.ref 0), some (.int x1), some (.int x2)], [.int ((gM_nw s) (Int32.toNatClampNeg (nI 4))), .int x2], memM s)) rfl g1 ?_
  refine mEv.br 1 (S1 := (46, [], [some (.ref 0), some (.int x1), some (.int x2)], [], memM s)) (S2 := (14, _, [some (.ref 0), some (.int x1), some (.int x2)], [], memM s)) rfl (fun c2 => ?_) (fun c2 => ?_)
  · have h := (if_pos c2).symm.trans h
    refine mEv.fg [2] (z' := [some (.ref 0), some (.int x1), none]) rfl ?_
    obtain rfl := Option.some.inj h
    exact hk
  · have h := (if_neg c2).symm.trans h
    obtain ⟨g3, h⟩ := gI_some h
    refine mEv.gd 11 (S' := (29, _, [some (.ref 0), some (.int x1), some (.int x2)], [.int ((gM_nw s) (Int32.toNatClampNeg (((nI 317) + ((nI 4) * x2)) + (nI 2)))), .int x1], memM s)) rfl g3 ?_
    refine mEv.br 2 (S1 := (37, [], [some (.ref 0), some (.int x1), some (.int x2)], [.int x1], memM s)) (S2 := (33, _, [some (.ref 0), some (.int x1), some (.int x2)], [.int x1], memM s)) rfl (fun c4 => ?_) (fun c4 => ?_)
    · have h := (if_pos c4).symm.trans h
      refine mEv.stp 7 (S' := (4, [], [some (.ref 0), some (.int (x1 + (nI 2))), some (.int (x2 + (nI 1)))], [], memM s)) rfl ?_
      obtain rfl := Option.some.inj h
      exact hk
    · have h := (if_neg c4).symm.trans h
      refine mEv.stp 7 (S' := (4, [], [some (.ref 0), some (.int (x1 + (nI 1))), some (.int (x2 + (nI 1)))], [], memM s)) rfl ?_
      obtain rfl := Option.some.inj h
      exact hk
def F_X3_burden  (s : ModS) : Option (Int32) := (mWh (fun x => B_X3_burden_4 x.1 x.2 s) fuel0 ((nI 0), (nI 0))).bind (fun z5 => gI (nI 4) 637 (if ¬ ((gM_nw s) (Int32.toNatClampNeg (nI 4))) = (nI 0) then (gI (nI 4) 637 (gZ ((gM_nw s) (Int32.toNatClampNeg (nI 4))) (some ((((nI 1000) * z5) / ((gM_nw s) (Int32.toNatClampNeg (nI 4)))))))) else (some ((nI 0)))))
set_option maxRecDepth 100000 in
theorem E_X3_burden {d : Nat}  {s : ModS} {q : Int32} (h : F_X3_burden s = some q) : mEv d m_X3_burden none (0, [], [some (.ref 0), none, none], [], memM s) (some (Value.int q)) (memM s) := by
  unfold F_X3_burden at h
  refine mEv.stp 5 (S' := (4, [], [some (.ref 0), some (.int (nI 0)), some (.int (nI 0))], [], memM s)) rfl ?_
  obtain ⟨z5, e6, h⟩ := bnd h
  refine mWh_ind (b := (fun x => B_X3_burden_4 x.1 x.2 s)) (P := fun x : Int32 × Int32 => mEv d m_X3_burden none (4, [], [some (.ref 0), some (.int x.1), some (.int x.2)], [], memM s) (some (Value.int q)) (memM s)) (K := fun z : Int32 => mEv d m_X3_burden none (46, [], [some (.ref 0), some (.int z), none], [], memM s) (some (Value.int q)) (memM s)) (fun x u hq hk => H_X3_burden_4 (d := d) (x1 := x.1) (x2 := x.2) (s := s) (q := u) (r0 := (some (Value.int q))) (mu0 := (memM s)) hq hk) fuel0 ((nI 0), (nI 0)) z5 e6 ?_
  refine mEv.stp 0 (S' := (46, [], [some (.ref 0), some (.int z5), none], [], memM s)) rfl ?_
  obtain ⟨g7, h⟩ := gI_some h
  refine mEv.gd 5 (S' := (52, _, [some (.ref 0), some (.int z5), none], [.int ((gM_nw s) (Int32.toNatClampNeg (nI 4)))], memM s)) rfl g7 ?_
  refine mEv.br 1 (S1 := (59, [], [some (.ref 0), some (.int z5), none], [], memM s)) (S2 := (55, _, [some (.ref 0), some (.int z5), none], [], memM s)) rfl (fun c8 => ?_) (fun c8 => ?_)
  · have h := (if_pos c8).symm.trans h
    obtain ⟨g9, h⟩ := gI_some h
    refine mEv.gd 8 (S' := (70, _, [some (.ref 0), some (.int z5), none], [.int ((gM_nw s) (Int32.toNatClampNeg (nI 4))), .int ((nI 1000) * z5)], memM s)) rfl g9 ?_
    obtain ⟨g10, h⟩ := gZ_some h
    refine mEv.gd 1 (S' := (71, [], [some (.ref 0), some (.int z5), none], [.int (((nI 1000) * z5) / ((gM_nw s) (Int32.toNatClampNeg (nI 4))))], memM s)) rfl g10 ?_
    obtain rfl := Option.some.inj h
    exact mEv.stp 1 (S' := (71, _, [some (.ref 0), some (.int z5), none], [.int (((nI 1000) * z5) / ((gM_nw s) (Int32.toNatClampNeg (nI 4))))], memM s)) rfl (mEv.reti ⟨_, rfl, rfl⟩)
  · have h := (if_neg c8).symm.trans h
    obtain rfl := Option.some.inj h
    exact mEv.stp 3 (S' := (71, _, [some (.ref 0), some (.int z5), none], [.int (nI 0)], memM s)) rfl (mEv.reti ⟨_, rfl, rfl⟩)
theorem A_X3_burden {d : Nat}  {s : ModS} {q : Int32} (h : F_X3_burden s = some q) : mCall d m_X3_burden [.ref 0] (memM s) (some (Value.int q)) (memM s) := mCall.intro ok_X3_burden pl_X3_burden rfl (E_X3_burden (d := d) h)
def B_X3_lostIn_2 (x1 : Int32) (x2 : Int32) (x3 : Int32) (s : ModS) : Option ((Int32 × ModS) ⊕ (ModS)) := if (nI 637) ≤ x3 then (some (.inr (s))) else (gI x3 637 (gI x3 637 (some (.inl ((x3 + (nI 1)), (mkM (gM_ss s) (gM_ty s) (gM_at s) (gM_ft s) (gM_mn s) (gM_bd s) (gM_no s) (gM_fu s) (gM_nw s) (upd (gM_as s) (Int32.toNatClampNeg x3) ((gM_nw s) (Int32.toNatClampNeg x3))) (gM_pa s) (gM_tx s) (gM_od s)))))))
set_option maxRecDepth 100000 in
theorem H_X3_lostIn_2 {d : Nat} {x1 : Int32} {x2 : Int32} {x3 : Int32} {s : ModS} {q : (Int32 × ModS) ⊕ (ModS)} {r0 : Option Value} {mu0 : MMe} (h : B_X3_lostIn_2 x1 x2 x3 s = some q) (hk : Sum.elim (fun x : Int32 × ModS => mEv (d + 6) m_X3_lostIn none (2, [], [some (.ref 0), some (.int x1), some (.int x2), some (.int x.1), none, none], [], memM x.2) r0 mu0) (fun z : ModS => mEv (d + 6) m_X3_lostIn none (27, [], [some (.ref 0), some (.int x1), some (.int x2), none, none, none], [], memM z) r0 mu0) q) : mEv (d + 6) m_X3_lostIn none (2, [], [some (.ref 0), some (.int x1), some (.int x2), some (.int x3), none, none], [], memM s) r0 mu0 := by
  unfold B_X3_lostIn_2 at h
  refine mEv.br 4 (S1 := (27, [], [some (.ref 0), some (.int x1), some (.int x2), some (.int x3), none, none], [], memM s)) (S2 := (9, _, [some (.ref 0), some (.int x1), some (.int x2), some (.int x3), none, none], [], memM s)) rfl (fun c1 => ?_) (fun c1 => ?_)
  · have h := (if_pos c1).symm.trans h
    refine mEv.fg [3] (z' := [some (.ref 0), some (.int x1), some (.int x2), none, none, none]) rfl ?_
    obtain rfl := Option.some.inj h
    exact hk
  · have h := (if_neg c1).symm.trans h
    obtain ⟨g2, h⟩ := gI_some h
    refine mEv.gd 7 (S' := (20, _, [some (.ref 0), some (.int x1), some (.int x2), some (.int x3), none, none], [.int ((gM_nw s) (Int32.toNatClampNeg x3)), .int x3, .ref 2], memM s)) rfl g2 ?_
    obtain ⟨g3, h⟩ := gI_some h
    refine mEv.gd 1 (S' := (21, _, [some (.ref 0), some (.int x1), some (.int x2), some (.int x3), none, none], [], memMx (gM_ss s) (gM_ty s) (gM_at s) (gM_ft s) (gM_mn s) (gM_bd s) (gM_no s) (gM_fu s) (gM_nw s) (upd (gM_as s) (Int32.toNatClampNeg x3) ((gM_nw s) (Int32.toNatClampNeg x3))) (gM_pa s) (gM_tx s) (gM_od s))) rfl g3 ?_
    refine mEv.stp 2 (S' := (2, [], [some (.ref 0), some (.int x1), some (.int x2), some (.int (x3 + (nI 1))), none, none], [], memMx (gM_ss s) (gM_ty s) (gM_at s) (gM_ft s) (gM_mn s) (gM_bd s) (gM_no s) (gM_fu s) (gM_nw s) (upd (gM_as s) (Int32.toNatClampNeg x3) ((gM_nw s) (Int32.toNatClampNeg x3))) (gM_pa s) (gM_tx s) (gM_od s))) rfl ?_
    refine mEv.mem memM_mk ?_
    obtain rfl := Option.some.inj h
    exact hk
def B_X3_lostIn_29 (x1 : Int32) (x2 : Int32) (x3 : Int32) (s : ModS) : Option ((Int32 × ModS) ⊕ (ModS)) := if (nI 36) ≤ x3 then (some (.inr (s))) else (gI ((nI 41) + x3) 637 (some (.inl ((x3 + (nI 1)), (mkM (gM_ss s) (gM_ty s) (gM_at s) (gM_ft s) (gM_mn s) (gM_bd s) (gM_no s) (gM_fu s) (upd (gM_nw s) (Int32.toNatClampNeg ((nI 41) + x3)) x2) (gM_as s) (gM_pa s) (gM_tx s) (gM_od s))))))
set_option maxRecDepth 100000 in
theorem H_X3_lostIn_29 {d : Nat} {x1 : Int32} {x2 : Int32} {x3 : Int32} {s : ModS} {q : (Int32 × ModS) ⊕ (ModS)} {r0 : Option Value} {mu0 : MMe} (h : B_X3_lostIn_29 x1 x2 x3 s = some q) (hk : Sum.elim (fun x : Int32 × ModS => mEv (d + 6) m_X3_lostIn none (29, [], [some (.ref 0), some (.int x1), some (.int x2), some (.int x.1), none, none], [], memM x.2) r0 mu0) (fun z : ModS => mEv (d + 6) m_X3_lostIn none (51, [], [some (.ref 0), some (.int x1), none, none, none, none], [], memM z) r0 mu0) q) : mEv (d + 6) m_X3_lostIn none (29, [], [some (.ref 0), some (.int x1), some (.int x2), some (.int x3), none, none], [], memM s) r0 mu0 := by
  unfold B_X3_lostIn_29 at h
  refine mEv.br 4 (S1 := (51, [], [some (.ref 0), some (.int x1), some (.int x2), some (.int x3), none, none], [], memM s)) (S2 := (35, _, [some (.ref 0), some (.int x1), some (.int x2), some (.int x3), none, none], [], memM s)) rfl (fun c6 => ?_) (fun c6 => ?_)
  · have h := (if_pos c6).symm.trans h
    refine mEv.fg [2, 3] (z' := [some (.ref 0), some (.int x1), none, none, none, none]) rfl ?_
    obtain rfl := Option.some.inj h
    exact hk
  · have h := (if_neg c6).symm.trans h
    obtain ⟨g7, h⟩ := gI_some h
    refine mEv.gd 7 (S' := (45, _, [some (.ref 0), some (.int x1), some (.int x2), some (.int x3), none, none], [], memMx (gM_ss s) (gM_ty s) (gM_at s) (gM_ft s) (gM_mn s) (gM_bd s) (gM_no s) (gM_fu s) (upd (gM_nw s) (Int32.toNatClampNeg ((nI 41) + x3)) x2) (gM_as s) (gM_pa s) (gM_tx s) (gM_od s))) rfl g7 ?_
    refine mEv.stp 2 (S' := (29, [], [some (.ref 0), some (.int x1), some (.int x2), some (.int (x3 + (nI 1))), none, none], [], memMx (gM_ss s) (gM_ty s) (gM_at s) (gM_ft s) (gM_mn s) (gM_bd s) (gM_no s) (gM_fu s) (upd (gM_nw s) (Int32.toNatClampNeg ((nI 41) + x3)) x2) (gM_as s) (gM_pa s) (gM_tx s) (gM_od s))) rfl ?_
    refine mEv.mem memM_mk ?_
    obtain rfl := Option.some.inj h
    exact hk
def B_X3_lostIn_75 (x4 : Int32) (x5 : Int32) (s : ModS) : Option ((Int32 × ModS) ⊕ (ModS)) := if (nI 637) ≤ x5 then (some (.inr (s))) else (gI x5 637 (gI x5 637 (some (.inl ((x5 + (nI 1)), (mkM (gM_ss s) (gM_ty s) (gM_at s) (gM_ft s) (gM_mn s) (gM_bd s) (gM_no s) (gM_fu s) (upd (gM_nw s) (Int32.toNatClampNeg x5) ((gM_as s) (Int32.toNatClampNeg x5))) (gM_as s) (gM_pa s) (gM_tx s) (gM_od s)))))))
set_option maxRecDepth 100000 in
theorem H_X3_lostIn_75 {d : Nat} {x4 : Int32} {x5 : Int32} {s : ModS} {q : (Int32 × ModS) ⊕ (ModS)} {r0 : Option Value} {mu0 : MMe} (h : B_X3_lostIn_75 x4 x5 s = some q) (hk : Sum.elim (fun x : Int32 × ModS => mEv (d + 6) m_X3_lostIn none (75, [], [some (.ref 0), none, none, none, some (.int x4), some (.int x.1)], [], memM x.2) r0 mu0) (fun z : ModS => mEv (d + 6) m_X3_lostIn none (103, [], [none, none, none, none, some (.int x4), none], [], memM z) r0 mu0) q) : mEv (d + 6) m_X3_lostIn none (75, [], [some (.ref 0), none, none, none, some (.int x4), some (.int x5)], [], memM s) r0 mu0 := by
  unfold B_X3_lostIn_75 at h
  refine mEv.br 4 (S1 := (103, [], [some (.ref 0), none, none, none, some (.int x4), some (.int x5)], [], memM s)) (S2 := (83, _, [some (.ref 0), none, none, none, some (.int x4), some (.int x5)], [], memM s)) rfl (fun c16 => ?_) (fun c16 => ?_)
  · have h := (if_pos c16).symm.trans h
    refine mEv.fg [0, 5] (z' := [none, none, none, none, some (.int x4), none]) rfl ?_
    obtain rfl := Option.some.inj h
    exact hk
  · have h := (if_neg c16).symm.trans h
    obtain ⟨g17, h⟩ := gI_some h
    refine mEv.gd 7 (S' := (96, _, [some (.ref 0), none, none, none, some (.int x4), some (.int x5)], [.int ((gM_as s) (Int32.toNatClampNeg x5)), .int x5, .ref 1], memM s)) rfl g17 ?_
    obtain ⟨g18, h⟩ := gI_some h
    refine mEv.gd 1 (S' := (97, _, [some (.ref 0), none, none, none, some (.int x4), some (.int x5)], [], memMx (gM_ss s) (gM_ty s) (gM_at s) (gM_ft s) (gM_mn s) (gM_bd s) (gM_no s) (gM_fu s) (upd (gM_nw s) (Int32.toNatClampNeg x5) ((gM_as s) (Int32.toNatClampNeg x5))) (gM_as s) (gM_pa s) (gM_tx s) (gM_od s))) rfl g18 ?_
    refine mEv.stp 2 (S' := (75, [], [some (.ref 0), none, none, none, some (.int x4), some (.int (x5 + (nI 1)))], [], memMx (gM_ss s) (gM_ty s) (gM_at s) (gM_ft s) (gM_mn s) (gM_bd s) (gM_no s) (gM_fu s) (upd (gM_nw s) (Int32.toNatClampNeg x5) ((gM_as s) (Int32.toNatClampNeg x5))) (gM_as s) (gM_pa s) (gM_tx s) (gM_od s))) rfl ?_
    refine mEv.mem memM_mk ?_
    obtain rfl := Option.some.inj h
    exact hk
def F_X3_lostIn (p1 : Int32) (p2 : Int32) (s : ModS) : Option (Int32 × ModS) := (mWh (fun x => B_X3_lostIn_2 p1 p2 x.1 x.2) fuel0 ((nI 0), s)).bind (fun z4 => (mWh (fun x => B_X3_lostIn_29 p1 p2 x.1 x.2) fuel0 ((nI 0), z4)).bind (fun z8 => (F_X3_sumOf (nI 4) z8).bind (fun v10 => (F_X3_passes p1 z8).bind (fun v12 => (F_X3_sumOf (nI 4) v12.2).bind (fun v14 => (mWh (fun x => B_X3_lostIn_75 (v14 - v10) x.1 x.2) fuel0 ((nI 0), v12.2)).bind (fun z19 => some (((v14 - v10), z19))))))))
set_option maxRecDepth 100000 in
theorem E_X3_lostIn {d : Nat} {p1 : Int32} {p2 : Int32} {s : ModS} {q : Int32 × ModS} (h : F_X3_lostIn p1 p2 s = some q) : mEv (d + 6) m_X3_lostIn none (0, [], [some (.ref 0), some (.int p1), some (.int p2), none, none, none], [], memM s) (some (Value.int q.1)) (memM q.2) := by
  unfold F_X3_lostIn at h
  refine mEv.stp 3 (S' := (2, [], [some (.ref 0), some (.int p1), some (.int p2), some (.int (nI 0)), none, none], [], memM s)) rfl ?_
  obtain ⟨z4, e5, h⟩ := bnd h
  refine mWh_ind (b := (fun x => B_X3_lostIn_2 p1 p2 x.1 x.2)) (P := fun x : Int32 × ModS => mEv (d + 6) m_X3_lostIn none (2, [], [some (.ref 0), some (.int p1), some (.int p2), some (.int x.1), none, none], [], memM x.2) (some (Value.int q.1)) (memM q.2)) (K := fun z : ModS => mEv (d + 6) m_X3_lostIn none (27, [], [some (.ref 0), some (.int p1), some (.int p2), none, none, none], [], memM z) (some (Value.int q.1)) (memM q.2)) (fun x u hq hk => H_X3_lostIn_2 (d := d) (x1 := p1) (x2 := p2) (x3 := x.1) (s := x.2) (q := u) (r0 := (some (Value.int q.1))) (mu0 := (memM q.2)) hq hk) fuel0 ((nI 0), s) z4 e5 ?_
  refine mEv.stp 0 (S' := (27, [], [some (.ref 0), some (.int p1), some (.int p2), none, none, none], [], memM z4)) rfl ?_
  refine mEv.stp 3 (S' := (29, [], [some (.ref 0), some (.int p1), some (.int p2), some (.int (nI 0)), none, none], [], memM z4)) rfl ?_
  obtain ⟨z8, e9, h⟩ := bnd h
  refine mWh_ind (b := (fun x => B_X3_lostIn_29 p1 p2 x.1 x.2)) (P := fun x : Int32 × ModS => mEv (d + 6) m_X3_lostIn none (29, [], [some (.ref 0), some (.int p1), some (.int p2), some (.int x.1), none, none], [], memM x.2) (some (Value.int q.1)) (memM q.2)) (K := fun z : ModS => mEv (d + 6) m_X3_lostIn none (51, [], [some (.ref 0), some (.int p1), none, none, none, none], [], memM z) (some (Value.int q.1)) (memM q.2)) (fun x u hq hk => H_X3_lostIn_29 (d := d) (x1 := p1) (x2 := p2) (x3 := x.1) (s := x.2) (q := u) (r0 := (some (Value.int q.1))) (mu0 := (memM q.2)) hq hk) fuel0 ((nI 0), z4) z8 e9 ?_
  refine mEv.stp 0 (S' := (51, [], [some (.ref 0), some (.int p1), none, none, none, none], [], memM z8)) rfl ?_
  refine mEv.stp 3 (S' := (53, _, [some (.ref 0), some (.int p1), none, none, none, none], [.int (nI 4), .ref 0], memM z8)) rfl ?_
  obtain ⟨v10, e11, h⟩ := bnd h
  refine mEv.callV (As := [.int (nI 4)]) (st := []) (h := 0) (r := (some (.int v10))) (μ1 := memM z8) lk_X3_111 rfl rfl rfl rfl rfl (A_X3_sumOf (d := d + 5) e11) ?_
  refine mEv.stp 0 (S' := (56, _, [some (.ref 0), some (.int p1), none, none, none, none], [.int v10], memM z8)) rfl ?_
  refine mEv.stp 3 (S' := (59, _, [some (.ref 0), some (.int p1), none, some (.int v10), none, none], [.int p1, .ref 0], memM z8)) rfl ?_
  obtain ⟨v12, e13, h⟩ := bnd h
  refine mEv.callV (As := [.int p1]) (st := []) (h := 0) (r := (some (.int v12.1))) (μ1 := memM v12.2) lk_X3_104 rfl rfl rfl rfl rfl (A_X3_passes (d := d + 0) e13) ?_
  refine mEv.stp 0 (S' := (62, _, [some (.ref 0), some (.int p1), none, some (.int v10), none, none], [.int v12.1], memM v12.2)) rfl ?_
  refine mEv.stp 3 (S' := (65, _, [some (.ref 0), some (.int p1), none, some (.int v10), none, none], [.int (nI 4), .ref 0], memM v12.2)) rfl ?_
  obtain ⟨v14, e15, h⟩ := bnd h
  refine mEv.callV (As := [.int (nI 4)]) (st := []) (h := 0) (r := (some (.int v14))) (μ1 := memM v12.2) lk_X3_111 rfl rfl rfl rfl rfl (A_X3_sumOf (d := d + 5) e15) ?_
  refine mEv.stp 0 (S' := (68, _, [some (.ref 0), some (.int p1), none, some (.int v10), none, none], [.int v14], memM v12.2)) rfl ?_
  refine mEv.stp 5 (S' := (75, [], [some (.ref 0), some (.int p1), none, some (.int v10), some (.int (v14 - v10)), some (.int (nI 0))], [], memM v12.2)) rfl ?_
  refine mEv.fg [1, 3] (z' := [some (.ref 0), none, none, none, some (.int (v14 - v10)), some (.int (nI 0))]) rfl ?_
  obtain ⟨z19, e20, h⟩ := bnd h
  refine mWh_ind (b := (fun x => B_X3_lostIn_75 (v14 - v10) x.1 x.2)) (P := fun x : Int32 × ModS => mEv (d + 6) m_X3_lostIn none (75, [], [some (.ref 0), none, none, none, some (.int (v14 - v10)), some (.int x.1)], [], memM x.2) (some (Value.int q.1)) (memM q.2)) (K := fun z : ModS => mEv (d + 6) m_X3_lostIn none (103, [], [none, none, none, none, some (.int (v14 - v10)), none], [], memM z) (some (Value.int q.1)) (memM q.2)) (fun x u hq hk => H_X3_lostIn_75 (d := d) (x4 := (v14 - v10)) (x5 := x.1) (s := x.2) (q := u) (r0 := (some (Value.int q.1))) (mu0 := (memM q.2)) hq hk) fuel0 ((nI 0), v12.2) z19 e20 ?_
  refine mEv.stp 0 (S' := (103, [], [none, none, none, none, some (.int (v14 - v10)), none], [], memM z19)) rfl ?_
  obtain rfl := Option.some.inj h
  exact mEv.stp 2 (S' := (105, _, [none, none, none, none, some (.int (v14 - v10)), none], [.int (v14 - v10)], memM z19)) rfl (mEv.reti ⟨_, rfl, rfl⟩)
theorem A_X3_lostIn {d : Nat} {p1 : Int32} {p2 : Int32} {s : ModS} {q : Int32 × ModS} (h : F_X3_lostIn p1 p2 s = some q) : mCall (d + 6) m_X3_lostIn [.ref 0, .int p1, .int p2] (memM s) (some (Value.int q.1)) (memM q.2) := mCall.intro ok_X3_lostIn pl_X3_lostIn rfl (E_X3_lostIn (d := d) h)
def J_X3_would_29  (s : ModS) : Option (Int32 × ModS) := (F_X3_bads s).bind (fun v4 => some ((v4.1, v4.2)))
set_option maxRecDepth 100000 in
theorem K_X3_would_29 {d : Nat}  {s : ModS} {q : Int32 × ModS} (h : J_X3_would_29 s = some q) : mEv (d + 7) m_X3_would none (29, [], [some (.ref 0), none, none], [], memM s) (some (Value.int q.1)) (memM q.2) := by
  unfold J_X3_would_29 at h
  refine mEv.stp 2 (S' := (30, _, [some (.ref 0), none, none], [.ref 0], memM s)) rfl ?_
  obtain ⟨v4, e5, h⟩ := bnd h
  refine mEv.callV (As := []) (st := []) (h := 0) (r := (some (.int v4.1))) (μ1 := memM v4.2) lk_X3_47 rfl rfl rfl rfl rfl (A_X3_bads (d := d + 6) e5) ?_
  refine mEv.stp 0 (S' := (33, [], [some (.ref 0), none, none], [.int v4.1], memM v4.2)) rfl ?_
  obtain rfl := Option.some.inj h
  exact mEv.stp 1 (S' := (33, _, [some (.ref 0), none, none], [.int v4.1], memM v4.2)) rfl (mEv.reti ⟨_, rfl, rfl⟩)
def F_X3_would (p1 : Int32) (p2 : Int32) (s : ModS) : Option (Int32 × ModS) := (F_X3_in p1 (nI 1) (nI 48)).bind (fun v1 => if v1 = (nI 0) then (J_X3_would_29 s) else ((F_X3_in p2 (nI 0) (nI 30)).bind (fun v6 => if v6 = (nI 0) then (J_X3_would_29 s) else ((F_X3_lostIn p1 p2 s).bind (fun v9 => some ((v9.1, v9.2)))))))
set_option maxRecDepth 100000 in
theorem E_X3_would {d : Nat} {p1 : Int32} {p2 : Int32} {s : ModS} {q : Int32 × ModS} (h : F_X3_would p1 p2 s = some q) : mEv (d + 7) m_X3_would none (0, [], [some (.ref 0), some (.int p1), some (.int p2)], [], memM s) (some (Value.int q.1)) (memM q.2) := by
  unfold F_X3_would at h
  refine mEv.stp 4 (S' := (4, _, [some (.ref 0), some (.int p1), some (.int p2)], [.int (nI 48), .int (nI 1), .int p1], memM s)) rfl ?_
  obtain ⟨v1, e2, h⟩ := bnd h
  refine mEv.callS (As := [.int p1, .int (nI 1), .int (nI 48)]) (st := []) (r := (some (.int v1))) (μ1 := memM s) lk_X3_36 rfl rfl rfl (A_X3_in (d := d + 6) e2) ?_
  refine mEv.stp 0 (S' := (7, _, [some (.ref 0), some (.int p1), some (.int p2)], [.int v1], memM s)) rfl ?_
  refine mEv.br 1 (S1 := (29, [], [some (.ref 0), some (.int p1), some (.int p2)], [], memM s)) (S2 := (10, _, [some (.ref 0), some (.int p1), some (.int p2)], [], memM s)) rfl (fun c3 => ?_) (fun c3 => ?_)
  · have h := (if_pos c3).symm.trans h
    refine mEv.fg [1, 2] (z' := [some (.ref 0), none, none]) rfl ?_
    exact K_X3_would_29 (d := d) h
  · have h := (if_neg c3).symm.trans h
    refine mEv.stp 3 (S' := (14, _, [some (.ref 0), some (.int p1), some (.int p2)], [.int (nI 30), .int (nI 0), .int p2], memM s)) rfl ?_
    obtain ⟨v6, e7, h⟩ := bnd h
    refine mEv.callS (As := [.int p2, .int (nI 0), .int (nI 30)]) (st := []) (r := (some (.int v6))) (μ1 := memM s) lk_X3_36 rfl rfl rfl (A_X3_in (d := d + 6) e7) ?_
    refine mEv.stp 0 (S' := (17, _, [some (.ref 0), some (.int p1), some (.int p2)], [.int v6], memM s)) rfl ?_
    refine mEv.br 1 (S1 := (29, [], [some (.ref 0), some (.int p1), some (.int p2)], [], memM s)) (S2 := (20, _, [some (.ref 0), some (.int p1), some (.int p2)], [], memM s)) rfl (fun c8 => ?_) (fun c8 => ?_)
    · have h := (if_pos c8).symm.trans h
      refine mEv.fg [1, 2] (z' := [some (.ref 0), none, none]) rfl ?_
      exact K_X3_would_29 (d := d) h
    · have h := (if_neg c8).symm.trans h
      refine mEv.stp 3 (S' := (23, _, [some (.ref 0), some (.int p1), some (.int p2)], [.int p2, .int p1, .ref 0], memM s)) rfl ?_
      obtain ⟨v9, e10, h⟩ := bnd h
      refine mEv.callV (As := [.int p1, .int p2]) (st := []) (h := 0) (r := (some (.int v9.1))) (μ1 := memM v9.2) lk_X3_114 rfl rfl rfl rfl rfl (A_X3_lostIn (d := d + 0) e10) ?_
      refine mEv.stp 0 (S' := (26, _, [some (.ref 0), some (.int p1), some (.int p2)], [.int v9.1], memM v9.2)) rfl ?_
      obtain rfl := Option.some.inj h
      exact mEv.stp 2 (S' := (33, _, [some (.ref 0), some (.int p1), some (.int p2)], [.int v9.1], memM v9.2)) rfl (mEv.reti ⟨_, rfl, rfl⟩)
theorem A_X3_would {d : Nat} {p1 : Int32} {p2 : Int32} {s : ModS} {q : Int32 × ModS} (h : F_X3_would p1 p2 s = some q) : mCall (d + 7) m_X3_would [.ref 0, .int p1, .int p2] (memM s) (some (Value.int q.1)) (memM q.2) := mCall.intro ok_X3_would pl_X3_would rfl (E_X3_would (d := d) h)
def J_X3_best_19  (s : ModS) : Option (Int32 × ModS) := (F_X3_bads s).bind (fun v4 => some ((v4.1, v4.2)))
set_option maxRecDepth 100000 in
theorem K_X3_best_19 {d : Nat}  {s : ModS} {q : Int32 × ModS} (h : J_X3_best_19 s = some q) : mEv (d + 7) m_X3_best none (19, [], [some (.ref 0), none, none, none, none, none, none], [], memM s) (some (Value.int q.1)) (memM q.2) := by
  unfold J_X3_best_19 at h
  refine mEv.stp 2 (S' := (20, _, [some (.ref 0), none, none, none, none, none, none], [.ref 0], memM s)) rfl ?_
  obtain ⟨v4, e5, h⟩ := bnd h
  refine mEv.callV (As := []) (st := []) (h := 0) (r := (some (.int v4.1))) (μ1 := memM v4.2) lk_X3_47 rfl rfl rfl rfl rfl (A_X3_bads (d := d + 6) e5) ?_
  refine mEv.stp 0 (S' := (23, _, [some (.ref 0), none, none, none, none, none, none], [.int v4.1], memM v4.2)) rfl ?_
  obtain rfl := Option.some.inj h
  exact mEv.reti ⟨_, rfl, rfl⟩
def J_X3_best_66 (x1 : Int32) (x2 : Int32) (x4 : Int32) (x5 : Int32) (x6 : Int32) (y0 : Int32) (s : ModS) : Option ((Int32 × Int32 × Int32 × ModS) ⊕ (Int32 × Int32 × ModS)) := if x4 ≤ x6 then (some (.inl (y0, x4, (x5 + (nI 1)), s))) else (some (.inl (y0, x6, (x5 + (nI 1)), s)))
set_option maxRecDepth 100000 in
theorem K_X3_best_66 {d : Nat} {x1 : Int32} {x2 : Int32} {x4 : Int32} {x5 : Int32} {x6 : Int32} {y0 : Int32} {s : ModS} {q : (Int32 × Int32 × Int32 × ModS) ⊕ (Int32 × Int32 × ModS)} {r0 : Option Value} {mu0 : MMe} (h : J_X3_best_66 x1 x2 x4 x5 x6 y0 s = some q) (hk : Sum.elim (fun x : Int32 × Int32 × Int32 × ModS => mEv (d + 7) m_X3_best none (37, [], [some (.ref 0), some (.int x1), some (.int x2), some (.int x.1), some (.int x.2.1), some (.int x.2.2.1), none], [], memM x.2.2.2) r0 mu0) (fun z : Int32 × Int32 × ModS => mEv (d + 7) m_X3_best none (89, [], [none, none, some (.int x2), some (.int z.1), some (.int z.2.1), none, none], [], memM z.2.2) r0 mu0) q) : mEv (d + 7) m_X3_best none (66, [], [some (.ref 0), some (.int x1), some (.int x2), none, some (.int x4), some (.int x5), some (.int x6)], [.int y0], memM s) r0 mu0 := by
  unfold J_X3_best_66 at h
  refine mEv.br 5 (S1 := (79, [], [some (.ref 0), some (.int x1), some (.int x2), some (.int y0), some (.int x4), some (.int x5), some (.int x6)], [], memM s)) (S2 := (74, _, [some (.ref 0), some (.int x1), some (.int x2), some (.int y0), some (.int x4), some (.int x5), some (.int x6)], [], memM s)) rfl (fun c15 => ?_) (fun c15 => ?_)
  · have h := (if_pos c15).symm.trans h
    refine mEv.stp 6 (S' := (37, [], [some (.ref 0), some (.int x1), some (.int x2), some (.int y0), some (.int x4), some (.int (x5 + (nI 1))), some (.int x6)], [], memM s)) rfl ?_
    refine mEv.fg [6] (z' := [some (.ref 0), some (.int x1), some (.int x2), some (.int y0), some (.int x4), some (.int (x5 + (nI 1))), none]) rfl ?_
    obtain rfl := Option.some.inj h
    exact hk
  · have h := (if_neg c15).symm.trans h
    refine mEv.stp 6 (S' := (37, [], [some (.ref 0), some (.int x1), some (.int x2), some (.int y0), some (.int x6), some (.int (x5 + (nI 1))), some (.int x6)], [], memM s)) rfl ?_
    refine mEv.fg [6] (z' := [some (.ref 0), some (.int x1), some (.int x2), some (.int y0), some (.int x6), some (.int (x5 + (nI 1))), none]) rfl ?_
    obtain rfl := Option.some.inj h
    exact hk
def B_X3_best_37 (x1 : Int32) (x2 : Int32) (x3 : Int32) (x4 : Int32) (x5 : Int32) (s : ModS) : Option ((Int32 × Int32 × Int32 × ModS) ⊕ (Int32 × Int32 × ModS)) := if (nI 31) ≤ x5 then (some (.inr (x3, x4, s))) else ((F_X3_lostIn x1 x5 s).bind (fun v12 => if x4 ≤ v12.1 then (J_X3_best_66 x1 x2 x4 x5 v12.1 x3 v12.2) else (J_X3_best_66 x1 x2 x4 x5 v12.1 x5 v12.2)))
set_option maxRecDepth 100000 in
theorem H_X3_best_37 {d : Nat} {x1 : Int32} {x2 : Int32} {x3 : Int32} {x4 : Int32} {x5 : Int32} {s : ModS} {q : (Int32 × Int32 × Int32 × ModS) ⊕ (Int32 × Int32 × ModS)} {r0 : Option Value} {mu0 : MMe} (h : B_X3_best_37 x1 x2 x3 x4 x5 s = some q) (hk : Sum.elim (fun x : Int32 × Int32 × Int32 × ModS => mEv (d + 7) m_X3_best none (37, [], [some (.ref 0), some (.int x1), some (.int x2), some (.int x.1), some (.int x.2.1), some (.int x.2.2.1), none], [], memM x.2.2.2) r0 mu0) (fun z : Int32 × Int32 × ModS => mEv (d + 7) m_X3_best none (89, [], [none, none, some (.int x2), some (.int z.1), some (.int z.2.1), none, none], [], memM z.2.2) r0 mu0) q) : mEv (d + 7) m_X3_best none (37, [], [some (.ref 0), some (.int x1), some (.int x2), some (.int x3), some (.int x4), some (.int x5), none], [], memM s) r0 mu0 := by
  unfold B_X3_best_37 at h
  refine mEv.br 4 (S1 := (89, [], [some (.ref 0), some (.int x1), some (.int x2), some (.int x3), some (.int x4), some (.int x5), none], [], memM s)) (S2 := (44, _, [some (.ref 0), some (.int x1), some (.int x2), some (.int x3), some (.int x4), some (.int x5), none], [], memM s)) rfl (fun c11 => ?_) (fun c11 => ?_)
  · have h := (if_pos c11).symm.trans h
    refine mEv.fg [0, 1, 5] (z' := [none, none, some (.int x2), some (.int x3), some (.int x4), none, none]) rfl ?_
    obtain rfl := Option.some.inj h
    exact hk
  · have h := (if_neg c11).symm.trans h
    refine mEv.stp 3 (S' := (48, _, [some (.ref 0), some (.int x1), some (.int x2), some (.int x3), some (.int x4), some (.int x5), none], [.int x5, .int x1, .ref 0], memM s)) rfl ?_
    obtain ⟨v12, e13, h⟩ := bnd h
    refine mEv.callV (As := [.int x1, .int x5]) (st := []) (h := 0) (r := (some (.int v12.1))) (μ1 := memM v12.2) lk_X3_114 rfl rfl rfl rfl rfl (A_X3_lostIn (d := d + 0) e13) ?_
    refine mEv.stp 0 (S' := (51, _, [some (.ref 0), some (.int x1), some (.int x2), some (.int x3), some (.int x4), some (.int x5), none], [.int v12.1], memM v12.2)) rfl ?_
    refine mEv.br 4 (S1 := (65, [], [some (.ref 0), some (.int x1), some (.int x2), some (.int x3), some (.int x4), some (.int x5), some (.int v12.1)], [], memM v12.2)) (S2 := (60, _, [some (.ref 0), some (.int x1), some (.int x2), some (.int x3), some (.int x4), some (.int x5), some (.int v12.1)], [], memM v12.2)) rfl (fun c14 => ?_) (fun c14 => ?_)
    · have h := (if_pos c14).symm.trans h
      refine mEv.stp 2 (S' := (66, [], [some (.ref 0), some (.int x1), some (.int x2), some (.int x3), some (.int x4), some (.int x5), some (.int v12.1)], [.int x3], memM v12.2)) rfl ?_
      refine mEv.fg [3] (z' := [some (.ref 0), some (.int x1), some (.int x2), none, some (.int x4), some (.int x5), some (.int v12.1)]) rfl ?_
      exact K_X3_best_66 (d := d) h hk
    · have h := (if_neg c14).symm.trans h
      refine mEv.stp 2 (S' := (66, [], [some (.ref 0), some (.int x1), some (.int x2), some (.int x3), some (.int x4), some (.int x5), some (.int v12.1)], [.int x5], memM v12.2)) rfl ?_
      refine mEv.fg [3] (z' := [some (.ref 0), some (.int x1), some (.int x2), none, some (.int x4), some (.int x5), some (.int v12.1)]) rfl ?_
      exact K_X3_best_66 (d := d) h hk
def F_X3_best (p1 : Int32) (p2 : Int32) (s : ModS) : Option (Int32 × ModS) := (F_X3_in p1 (nI 1) (nI 48)).bind (fun v1 => if v1 = (nI 0) then (J_X3_best_19 s) else ((F_X3_in p2 (nI 0) (nI 1)).bind (fun v6 => if ¬ v6 = (nI 0) then ((F_X3_lostIn p1 (nI 0) s).bind (fun v9 => (mWh (fun x => B_X3_best_37 p1 p2 x.1 x.2.1 x.2.2.1 x.2.2.2) fuel0 ((nI 0), v9.1, (nI 1), v9.2)).bind (fun z16 => if ¬ p2 = (nI 0) then (some ((z16.2.1, z16.2.2))) else (some ((z16.1, z16.2.2)))))) else (J_X3_best_19 s))))
set_option maxRecDepth 100000 in
theorem E_X3_best {d : Nat} {p1 : Int32} {p2 : Int32} {s : ModS} {q : Int32 × ModS} (h : F_X3_best p1 p2 s = some q) : mEv (d + 7) m_X3_best none (0, [], [some (.ref 0), some (.int p1), some (.int p2), none, none, none, none], [], memM s) (some (Value.int q.1)) (memM q.2) := by
  unfold F_X3_best at h
  refine mEv.stp 4 (S' := (4, _, [some (.ref 0), some (.int p1), some (.int p2), none, none, none, none], [.int (nI 48), .int (nI 1), .int p1], memM s)) rfl ?_
  obtain ⟨v1, e2, h⟩ := bnd h
  refine mEv.callS (As := [.int p1, .int (nI 1), .int (nI 48)]) (st := []) (r := (some (.int v1))) (μ1 := memM s) lk_X3_36 rfl rfl rfl (A_X3_in (d := d + 6) e2) ?_
  refine mEv.stp 0 (S' := (7, _, [some (.ref 0), some (.int p1), some (.int p2), none, none, none, none], [.int v1], memM s)) rfl ?_
  refine mEv.br 1 (S1 := (19, [], [some (.ref 0), some (.int p1), some (.int p2), none, none, none, none], [], memM s)) (S2 := (10, _, [some (.ref 0), some (.int p1), some (.int p2), none, none, none, none], [], memM s)) rfl (fun c3 => ?_) (fun c3 => ?_)
  · have h := (if_pos c3).symm.trans h
    refine mEv.fg [1, 2] (z' := [some (.ref 0), none, none, none, none, none, none]) rfl ?_
    exact K_X3_best_19 (d := d) h
  · have h := (if_neg c3).symm.trans h
    refine mEv.stp 3 (S' := (13, _, [some (.ref 0), some (.int p1), some (.int p2), none, none, none, none], [.int (nI 1), .int (nI 0), .int p2], memM s)) rfl ?_
    obtain ⟨v6, e7, h⟩ := bnd h
    refine mEv.callS (As := [.int p2, .int (nI 0), .int (nI 1)]) (st := []) (r := (some (.int v6))) (μ1 := memM s) lk_X3_36 rfl rfl rfl (A_X3_in (d := d + 6) e7) ?_
    refine mEv.stp 0 (S' := (16, _, [some (.ref 0), some (.int p1), some (.int p2), none, none, none, none], [.int v6], memM s)) rfl ?_
    refine mEv.br 1 (S1 := (24, [], [some (.ref 0), some (.int p1), some (.int p2), none, none, none, none], [], memM s)) (S2 := (19, [], [some (.ref 0), some (.int p1), some (.int p2), none, none, none, none], [], memM s)) rfl (fun c8 => ?_) (fun c8 => ?_)
    · have h := (if_pos c8).symm.trans h
      refine mEv.stp 6 (S' := (29, _, [some (.ref 0), some (.int p1), some (.int p2), some (.int (nI 0)), none, none, none], [.int (nI 0), .int p1, .ref 0], memM s)) rfl ?_
      obtain ⟨v9, e10, h⟩ := bnd h
      refine mEv.callV (As := [.int p1, .int (nI 0)]) (st := []) (h := 0) (r := (some (.int v9.1))) (μ1 := memM v9.2) lk_X3_114 rfl rfl rfl rfl rfl (A_X3_lostIn (d := d + 0) e10) ?_
      refine mEv.stp 0 (S' := (32, _, [some (.ref 0), some (.int p1), some (.int p2), some (.int (nI 0)), none, none, none], [.int v9.1], memM v9.2)) rfl ?_
      refine mEv.stp 3 (S' := (37, [], [some (.ref 0), some (.int p1), some (.int p2), some (.int (nI 0)), some (.int v9.1), some (.int (nI 1)), none], [], memM v9.2)) rfl ?_
      obtain ⟨z16, e17, h⟩ := bnd h
      refine mWh_ind (b := (fun x => B_X3_best_37 p1 p2 x.1 x.2.1 x.2.2.1 x.2.2.2)) (P := fun x : Int32 × Int32 × Int32 × ModS => mEv (d + 7) m_X3_best none (37, [], [some (.ref 0), some (.int p1), some (.int p2), some (.int x.1), some (.int x.2.1), some (.int x.2.2.1), none], [], memM x.2.2.2) (some (Value.int q.1)) (memM q.2)) (K := fun z : Int32 × Int32 × ModS => mEv (d + 7) m_X3_best none (89, [], [none, none, some (.int p2), some (.int z.1), some (.int z.2.1), none, none], [], memM z.2.2) (some (Value.int q.1)) (memM q.2)) (fun x u hq hk => H_X3_best_37 (d := d) (x1 := p1) (x2 := p2) (x3 := x.1) (x4 := x.2.1) (x5 := x.2.2.1) (s := x.2.2.2) (q := u) (r0 := (some (Value.int q.1))) (mu0 := (memM q.2)) hq hk) fuel0 ((nI 0), v9.1, (nI 1), v9.2) z16 e17 ?_
      refine mEv.stp 0 (S' := (89, [], [none, none, some (.int p2), some (.int z16.1), some (.int z16.2.1), none, none], [], memM z16.2.2)) rfl ?_
      refine mEv.br 3 (S1 := (97, [], [none, none, some (.int p2), some (.int z16.1), some (.int z16.2.1), none, none], [], memM z16.2.2)) (S2 := (93, _, [none, none, some (.int p2), some (.int z16.1), some (.int z16.2.1), none, none], [], memM z16.2.2)) rfl (fun c18 => ?_) (fun c18 => ?_)
      · have h := (if_pos c18).symm.trans h
        obtain rfl := Option.some.inj h
        exact mEv.stp 3 (S' := (99, _, [none, none, some (.int p2), some (.int z16.1), some (.int z16.2.1), none, none], [.int z16.2.1], memM z16.2.2)) rfl (mEv.reti ⟨_, rfl, rfl⟩)
      · have h := (if_neg c18).symm.trans h
        obtain rfl := Option.some.inj h
        exact mEv.stp 3 (S' := (99, _, [none, none, some (.int p2), some (.int z16.1), some (.int z16.2.1), none, none], [.int z16.1], memM z16.2.2)) rfl (mEv.reti ⟨_, rfl, rfl⟩)
    · have h := (if_neg c8).symm.trans h
      refine mEv.fg [1, 2] (z' := [some (.ref 0), none, none, none, none, none, none]) rfl ?_
      exact K_X3_best_19 (d := d) h
theorem A_X3_best {d : Nat} {p1 : Int32} {p2 : Int32} {s : ModS} {q : Int32 × ModS} (h : F_X3_best p1 p2 s = some q) : mCall (d + 7) m_X3_best [.ref 0, .int p1, .int p2] (memM s) (some (Value.int q.1)) (memM q.2) := mCall.intro ok_X3_best pl_X3_best rfl (E_X3_best (d := d) h)
def F_X3_mayGo (p1 : Int32) (p2 : Int32) (p3 : Int32) (s : ModS) : Option (Int32) := (F_X3_free p1 p2 s).bind (fun v1 => if (nI 0) < v1 then (some ((nI 1))) else ((F_X3_hasMore p1 p3 s).bind (fun v4 => if v4 = (nI 0) then (some ((nI 0))) else ((F_X3_hasMore p3 p2 s).bind (fun v7 => if v7 = (nI 0) then (some ((nI 0))) else (some ((nI 1))))))))
set_option maxRecDepth 100000 in
theorem E_X3_mayGo {d : Nat} {p1 : Int32} {p2 : Int32} {p3 : Int32} {s : ModS} {q : Int32} (h : F_X3_mayGo p1 p2 p3 s = some q) : mEv (d + 4) m_X3_mayGo none (0, [], [some (.ref 0), some (.int p1), some (.int p2), some (.int p3)], [], memM s) (some (Value.int q)) (memM s) := by
  unfold F_X3_mayGo at h
  refine mEv.stp 4 (S' := (3, _, [some (.ref 0), some (.int p1), some (.int p2), some (.int p3)], [.int p2, .int p1, .ref 0], memM s)) rfl ?_
  obtain ⟨v1, e2, h⟩ := bnd h
  refine mEv.callV (As := [.int p1, .int p2]) (st := []) (h := 0) (r := (some (.int v1))) (μ1 := memM s) lk_X3_67 rfl rfl rfl rfl rfl (A_X3_free (d := d + 1) e2) ?_
  refine mEv.stp 0 (S' := (6, _, [some (.ref 0), some (.int p1), some (.int p2), some (.int p3)], [.int v1], memM s)) rfl ?_
  refine mEv.br 1 (S1 := (27, [], [some (.ref 0), some (.int p1), some (.int p2), some (.int p3)], [], memM s)) (S2 := (9, _, [some (.ref 0), some (.int p1), some (.int p2), some (.int p3)], [], memM s)) rfl (fun c3 => ?_) (fun c3 => ?_)
  · have h := (if_pos c3).symm.trans h
    obtain rfl := Option.some.inj h
    exact mEv.stp 4 (S' := (32, _, [some (.ref 0), some (.int p1), some (.int p2), some (.int p3)], [.int (nI 1)], memM s)) rfl (mEv.reti ⟨_, rfl, rfl⟩)
  · have h := (if_neg c3).symm.trans h
    refine mEv.stp 3 (S' := (12, _, [some (.ref 0), some (.int p1), some (.int p2), some (.int p3)], [.int p3, .int p1, .ref 0], memM s)) rfl ?_
    obtain ⟨v4, e5, h⟩ := bnd h
    refine mEv.callV (As := [.int p1, .int p3]) (st := []) (h := 0) (r := (some (.int v4))) (μ1 := memM s) lk_X3_88 rfl rfl rfl rfl rfl (A_X3_hasMore (d := d + 0) e5) ?_
    refine mEv.stp 0 (S' := (15, _, [some (.ref 0), some (.int p1), some (.int p2), some (.int p3)], [.int v4], memM s)) rfl ?_
    refine mEv.br 1 (S1 := (31, [], [some (.ref 0), some (.int p1), some (.int p2), some (.int p3)], [], memM s)) (S2 := (18, _, [some (.ref 0), some (.int p1), some (.int p2), some (.int p3)], [], memM s)) rfl (fun c6 => ?_) (fun c6 => ?_)
    · have h := (if_pos c6).symm.trans h
      obtain rfl := Option.some.inj h
      exact mEv.stp 3 (S' := (32, _, [some (.ref 0), some (.int p1), some (.int p2), some (.int p3)], [.int (nI 0)], memM s)) rfl (mEv.reti ⟨_, rfl, rfl⟩)
    · have h := (if_neg c6).symm.trans h
      refine mEv.stp 3 (S' := (21, _, [some (.ref 0), some (.int p1), some (.int p2), some (.int p3)], [.int p2, .int p3, .ref 0], memM s)) rfl ?_
      obtain ⟨v7, e8, h⟩ := bnd h
      refine mEv.callV (As := [.int p3, .int p2]) (st := []) (h := 0) (r := (some (.int v7))) (μ1 := memM s) lk_X3_88 rfl rfl rfl rfl rfl (A_X3_hasMore (d := d + 0) e8) ?_
      refine mEv.stp 0 (S' := (24, _, [some (.ref 0), some (.int p1), some (.int p2), some (.int p3)], [.int v7], memM s)) rfl ?_
      refine mEv.br 1 (S1 := (31, [], [some (.ref 0), some (.int p1), some (.int p2), some (.int p3)], [], memM s)) (S2 := (27, [], [some (.ref 0), some (.int p1), some (.int p2), some (.int p3)], [], memM s)) rfl (fun c9 => ?_) (fun c9 => ?_)
      · have h := (if_pos c9).symm.trans h
        obtain rfl := Option.some.inj h
        exact mEv.stp 3 (S' := (32, _, [some (.ref 0), some (.int p1), some (.int p2), some (.int p3)], [.int (nI 0)], memM s)) rfl (mEv.reti ⟨_, rfl, rfl⟩)
      · have h := (if_neg c9).symm.trans h
        obtain rfl := Option.some.inj h
        exact mEv.stp 4 (S' := (32, _, [some (.ref 0), some (.int p1), some (.int p2), some (.int p3)], [.int (nI 1)], memM s)) rfl (mEv.reti ⟨_, rfl, rfl⟩)
theorem A_X3_mayGo {d : Nat} {p1 : Int32} {p2 : Int32} {p3 : Int32} {s : ModS} {q : Int32} (h : F_X3_mayGo p1 p2 p3 s = some q) : mCall (d + 4) m_X3_mayGo [.ref 0, .int p1, .int p2, .int p3] (memM s) (some (Value.int q)) (memM s) := mCall.intro ok_X3_mayGo pl_X3_mayGo rfl (E_X3_mayGo (d := d) h)
def J_X3_choked_117 (x1 : Int32) (x2 : Int32) (x3 : Int32) (x4 : Int32) (x6 : Int32) (y0 : Int32) (s : ModS) : Option ((Int32 × Int32) ⊕ (Int32)) := if y0 = (nI 0) then (some (.inl ((nI 0), (x6 + (nI 1))))) else ((F_X3_mayGo x3 x4 x6 s).bind (fun v14 => if v14 = (nI 0) then (some (.inl ((nI 0), (x6 + (nI 1))))) else (some (.inl ((nI 1), (x6 + (nI 1)))))))
set_option maxRecDepth 100000 in
theorem K_X3_choked_117 {d : Nat} {x1 : Int32} {x2 : Int32} {x3 : Int32} {x4 : Int32} {x6 : Int32} {y0 : Int32} {s : ModS} {q : (Int32 × Int32) ⊕ (Int32)} {r0 : Option Value} {mu0 : MMe} (h : J_X3_choked_117 x1 x2 x3 x4 x6 y0 s = some q) (hk : Sum.elim (fun x : Int32 × Int32 => mEv (d + 5) m_X3_choked none (58, [], [some (.ref 0), some (.int x1), some (.int x2), some (.int x3), some (.int x4), some (.int x.1), some (.int x.2), none], [], memM s) r0 mu0) (fun z : Int32 => mEv (d + 5) m_X3_choked none (149, [], [some (.ref 0), some (.int x1), some (.int x2), some (.int x3), some (.int x4), some (.int z), none, none], [], memM s) r0 mu0) q) : mEv (d + 5) m_X3_choked none (117, [], [some (.ref 0), some (.int x1), some (.int x2), some (.int x3), some (.int x4), none, some (.int x6), none], [.int y0], memM s) r0 mu0 := by
  unfold J_X3_choked_117 at h
  refine mEv.br 4 (S1 := (140, [], [some (.ref 0), some (.int x1), some (.int x2), some (.int x3), some (.int x4), none, some (.int x6), some (.int y0)], [], memM s)) (S2 := (124, _, [some (.ref 0), some (.int x1), some (.int x2), some (.int x3), some (.int x4), none, some (.int x6), some (.int y0)], [], memM s)) rfl (fun c13 => ?_) (fun c13 => ?_)
  · have h := (if_pos c13).symm.trans h
    refine mEv.stp 6 (S' := (58, [], [some (.ref 0), some (.int x1), some (.int x2), some (.int x3), some (.int x4), some (.int (nI 0)), some (.int (x6 + (nI 1))), some (.int y0)], [], memM s)) rfl ?_
    refine mEv.fg [7] (z' := [some (.ref 0), some (.int x1), some (.int x2), some (.int x3), some (.int x4), some (.int (nI 0)), some (.int (x6 + (nI 1))), none]) rfl ?_
    obtain rfl := Option.some.inj h
    exact hk
  · have h := (if_neg c13).symm.trans h
    refine mEv.stp 4 (S' := (130, _, [some (.ref 0), some (.int x1), some (.int x2), some (.int x3), some (.int x4), none, some (.int x6), some (.int y0)], [.int x6, .int x4, .int x3, .ref 0], memM s)) rfl ?_
    obtain ⟨v14, e15, h⟩ := bnd h
    refine mEv.callV (As := [.int x3, .int x4, .int x6]) (st := []) (h := 0) (r := (some (.int v14))) (μ1 := memM s) lk_X3_117 rfl rfl rfl rfl rfl (A_X3_mayGo (d := d + 0) e15) ?_
    refine mEv.stp 0 (S' := (133, _, [some (.ref 0), some (.int x1), some (.int x2), some (.int x3), some (.int x4), none, some (.int x6), some (.int y0)], [.int v14], memM s)) rfl ?_
    refine mEv.br 1 (S1 := (140, [], [some (.ref 0), some (.int x1), some (.int x2), some (.int x3), some (.int x4), none, some (.int x6), some (.int y0)], [], memM s)) (S2 := (136, _, [some (.ref 0), some (.int x1), some (.int x2), some (.int x3), some (.int x4), none, some (.int x6), some (.int y0)], [], memM s)) rfl (fun c16 => ?_) (fun c16 => ?_)
    · have h := (if_pos c16).symm.trans h
      refine mEv.stp 6 (S' := (58, [], [some (.ref 0), some (.int x1), some (.int x2), some (.int x3), some (.int x4), some (.int (nI 0)), some (.int (x6 + (nI 1))), some (.int y0)], [], memM s)) rfl ?_
      refine mEv.fg [7] (z' := [some (.ref 0), some (.int x1), some (.int x2), some (.int x3), some (.int x4), some (.int (nI 0)), some (.int (x6 + (nI 1))), none]) rfl ?_
      obtain rfl := Option.some.inj h
      exact hk
    · have h := (if_neg c16).symm.trans h
      refine mEv.stp 6 (S' := (58, [], [some (.ref 0), some (.int x1), some (.int x2), some (.int x3), some (.int x4), some (.int (nI 1)), some (.int (x6 + (nI 1))), some (.int y0)], [], memM s)) rfl ?_
      refine mEv.fg [7] (z' := [some (.ref 0), some (.int x1), some (.int x2), some (.int x3), some (.int x4), some (.int (nI 1)), some (.int (x6 + (nI 1))), none]) rfl ?_
      obtain rfl := Option.some.inj h
      exact hk
def J_X3_choked_116 (x1 : Int32) (x2 : Int32) (x3 : Int32) (x4 : Int32) (x6 : Int32) (s : ModS) : Option ((Int32 × Int32) ⊕ (Int32)) := J_X3_choked_117 x1 x2 x3 x4 x6 (nI 0) s
set_option maxRecDepth 100000 in
theorem K_X3_choked_116 {d : Nat} {x1 : Int32} {x2 : Int32} {x3 : Int32} {x4 : Int32} {x6 : Int32} {s : ModS} {q : (Int32 × Int32) ⊕ (Int32)} {r0 : Option Value} {mu0 : MMe} (h : J_X3_choked_116 x1 x2 x3 x4 x6 s = some q) (hk : Sum.elim (fun x : Int32 × Int32 => mEv (d + 5) m_X3_choked none (58, [], [some (.ref 0), some (.int x1), some (.int x2), some (.int x3), some (.int x4), some (.int x.1), some (.int x.2), none], [], memM s) r0 mu0) (fun z : Int32 => mEv (d + 5) m_X3_choked none (149, [], [some (.ref 0), some (.int x1), some (.int x2), some (.int x3), some (.int x4), some (.int z), none, none], [], memM s) r0 mu0) q) : mEv (d + 5) m_X3_choked none (116, [], [some (.ref 0), some (.int x1), some (.int x2), some (.int x3), some (.int x4), none, some (.int x6), none], [], memM s) r0 mu0 := by
  unfold J_X3_choked_116 at h
  refine mEv.stp 2 (S' := (117, [], [some (.ref 0), some (.int x1), some (.int x2), some (.int x3), some (.int x4), none, some (.int x6), none], [.int (nI 0)], memM s)) rfl ?_
  exact K_X3_choked_117 (d := d) h hk
def J_X3_choked_112 (x1 : Int32) (x2 : Int32) (x3 : Int32) (x4 : Int32) (x6 : Int32) (s : ModS) : Option ((Int32 × Int32) ⊕ (Int32)) := J_X3_choked_117 x1 x2 x3 x4 x6 (nI 1) s
set_option maxRecDepth 100000 in
theorem K_X3_choked_112 {d : Nat} {x1 : Int32} {x2 : Int32} {x3 : Int32} {x4 : Int32} {x6 : Int32} {s : ModS} {q : (Int32 × Int32) ⊕ (Int32)} {r0 : Option Value} {mu0 : MMe} (h : J_X3_choked_112 x1 x2 x3 x4 x6 s = some q) (hk : Sum.elim (fun x : Int32 × Int32 => mEv (d + 5) m_X3_choked none (58, [], [some (.ref 0), some (.int x1), some (.int x2), some (.int x3), some (.int x4), some (.int x.1), some (.int x.2), none], [], memM s) r0 mu0) (fun z : Int32 => mEv (d + 5) m_X3_choked none (149, [], [some (.ref 0), some (.int x1), some (.int x2), some (.int x3), some (.int x4), some (.int z), none, none], [], memM s) r0 mu0) q) : mEv (d + 5) m_X3_choked none (112, [], [some (.ref 0), some (.int x1), some (.int x2), some (.int x3), some (.int x4), none, some (.int x6), none], [], memM s) r0 mu0 := by
  unfold J_X3_choked_112 at h
  refine mEv.stp 3 (S' := (117, [], [some (.ref 0), some (.int x1), some (.int x2), some (.int x3), some (.int x4), none, some (.int x6), none], [.int (nI 1)], memM s)) rfl ?_
  exact K_X3_choked_117 (d := d) h hk
def B_X3_choked_58 (x1 : Int32) (x2 : Int32) (x3 : Int32) (x4 : Int32) (x5 : Int32) (x6 : Int32) (s : ModS) : Option ((Int32 × Int32) ⊕ (Int32)) := gI (nI 0) 637 (if ((gM_nw s) (Int32.toNatClampNeg (nI 0))) ≤ x6 then (some (.inr (x5))) else (if ¬ x5 = (nI 0) then (some (.inr (x5))) else (if x6 = x3 then (J_X3_choked_116 x1 x2 x3 x4 x6 s) else (if x6 = x4 then (J_X3_choked_116 x1 x2 x3 x4 x6 s) else (if x1 = (nI 1) then (J_X3_choked_112 x1 x2 x3 x4 x6 s) else (gI (((nI 77) + ((nI 6) * x3)) + x4) 637 (if ¬ ((gM_nw s) (Int32.toNatClampNeg (((nI 77) + ((nI 6) * x3)) + x4))) = x6 then (J_X3_choked_116 x1 x2 x3 x4 x6 s) else (J_X3_choked_112 x1 x2 x3 x4 x6 s))))))))
set_option maxRecDepth 100000 in
theorem H_X3_choked_58 {d : Nat} {x1 : Int32} {x2 : Int32} {x3 : Int32} {x4 : Int32} {x5 : Int32} {x6 : Int32} {s : ModS} {q : (Int32 × Int32) ⊕ (Int32)} {r0 : Option Value} {mu0 : MMe} (h : B_X3_choked_58 x1 x2 x3 x4 x5 x6 s = some q) (hk : Sum.elim (fun x : Int32 × Int32 => mEv (d + 5) m_X3_choked none (58, [], [some (.ref 0), some (.int x1), some (.int x2), some (.int x3), some (.int x4), some (.int x.1), some (.int x.2), none], [], memM s) r0 mu0) (fun z : Int32 => mEv (d + 5) m_X3_choked none (149, [], [some (.ref 0), some (.int x1), some (.int x2), some (.int x3), some (.int x4), some (.int z), none, none], [], memM s) r0 mu0) q) : mEv (d + 5) m_X3_choked none (58, [], [some (.ref 0), some (.int x1), some (.int x2), some (.int x3), some (.int x4), some (.int x5), some (.int x6), none], [], memM s) r0 mu0 := by
  unfold B_X3_choked_58 at h
  obtain ⟨g9, h⟩ := gI_some h
  refine mEv.gd 6 (S' := (66, _, [some (.ref 0), some (.int x1), some (.int x2), some (.int x3), some (.int x4), some (.int x5), some (.int x6), none], [.int ((gM_nw s) (Int32.toNatClampNeg (nI 0))), .int x6], memM s)) rfl g9 ?_
  refine mEv.br 1 (S1 := (149, [], [some (.ref 0), some (.int x1), some (.int x2), some (.int x3), some (.int x4), some (.int x5), some (.int x6), none], [], memM s)) (S2 := (69, _, [some (.ref 0), some (.int x1), some (.int x2), some (.int x3), some (.int x4), some (.int x5), some (.int x6), none], [], memM s)) rfl (fun c10 => ?_) (fun c10 => ?_)
  · have h := (if_pos c10).symm.trans h
    refine mEv.fg [6] (z' := [some (.ref 0), some (.int x1), some (.int x2), some (.int x3), some (.int x4), some (.int x5), none, none]) rfl ?_
    obtain rfl := Option.some.inj h
    exact hk
  · have h := (if_neg c10).symm.trans h
    refine mEv.br 2 (S1 := (149, [], [some (.ref 0), some (.int x1), some (.int x2), some (.int x3), some (.int x4), some (.int x5), some (.int x6), none], [], memM s)) (S2 := (74, _, [some (.ref 0), some (.int x1), some (.int x2), some (.int x3), some (.int x4), some (.int x5), some (.int x6), none], [], memM s)) rfl (fun c11 => ?_) (fun c11 => ?_)
    · have h := (if_pos c11).symm.trans h
      refine mEv.fg [6] (z' := [some (.ref 0), some (.int x1), some (.int x2), some (.int x3), some (.int x4), some (.int x5), none, none]) rfl ?_
      obtain rfl := Option.some.inj h
      exact hk
    · have h := (if_neg c11).symm.trans h
      refine mEv.br 3 (S1 := (116, [], [some (.ref 0), some (.int x1), some (.int x2), some (.int x3), some (.int x4), some (.int x5), some (.int x6), none], [], memM s)) (S2 := (80, _, [some (.ref 0), some (.int x1), some (.int x2), some (.int x3), some (.int x4), some (.int x5), some (.int x6), none], [], memM s)) rfl (fun c12 => ?_) (fun c12 => ?_)
      · have h := (if_pos c12).symm.trans h
        refine mEv.fg [5] (z' := [some (.ref 0), some (.int x1), some (.int x2), some (.int x3), some (.int x4), none, some (.int x6), none]) rfl ?_
        exact K_X3_choked_116 (d := d) h hk
      · have h := (if_neg c12).symm.trans h
        refine mEv.br 3 (S1 := (116, [], [some (.ref 0), some (.int x1), some (.int x2), some (.int x3), some (.int x4), some (.int x5), some (.int x6), none], [], memM s)) (S2 := (87, _, [some (.ref 0), some (.int x1), some (.int x2), some (.int x3), some (.int x4), some (.int x5), some (.int x6), none], [], memM s)) rfl (fun c17 => ?_) (fun c17 => ?_)
        · have h := (if_pos c17).symm.trans h
          refine mEv.fg [5] (z' := [some (.ref 0), some (.int x1), some (.int x2), some (.int x3), some (.int x4), none, some (.int x6), none]) rfl ?_
          exact K_X3_choked_116 (d := d) h hk
        · have h := (if_neg c17).symm.trans h
          refine mEv.br 3 (S1 := (112, [], [some (.ref 0), some (.int x1), some (.int x2), some (.int x3), some (.int x4), some (.int x5), some (.int x6), none], [], memM s)) (S2 := (92, _, [some (.ref 0), some (.int x1), some (.int x2), some (.int x3), some (.int x4), some (.int x5), some (.int x6), none], [], memM s)) rfl (fun c18 => ?_) (fun c18 => ?_)
          · have h := (if_pos c18).symm.trans h
            refine mEv.fg [5] (z' := [some (.ref 0), some (.int x1), some (.int x2), some (.int x3), some (.int x4), none, some (.int x6), none]) rfl ?_
            exact K_X3_choked_112 (d := d) h hk
          · have h := (if_neg c18).symm.trans h
            obtain ⟨g19, h⟩ := gI_some h
            refine mEv.gd 10 (S' := (107, _, [some (.ref 0), some (.int x1), some (.int x2), some (.int x3), some (.int x4), some (.int x5), some (.int x6), none], [.int ((gM_nw s) (Int32.toNatClampNeg (((nI 77) + ((nI 6) * x3)) + x4)))], memM s)) rfl g19 ?_
            refine mEv.br 2 (S1 := (116, [], [some (.ref 0), some (.int x1), some (.int x2), some (.int x3), some (.int x4), some (.int x5), some (.int x6), none], [], memM s)) (S2 := (112, [], [some (.ref 0), some (.int x1), some (.int x2), some (.int x3), some (.int x4), some (.int x5), some (.int x6), none], [], memM s)) rfl (fun c20 => ?_) (fun c20 => ?_)
            · have h := (if_pos c20).symm.trans h
              refine mEv.fg [5] (z' := [some (.ref 0), some (.int x1), some (.int x2), some (.int x3), some (.int x4), none, some (.int x6), none]) rfl ?_
              exact K_X3_choked_116 (d := d) h hk
            · have h := (if_neg c20).symm.trans h
              refine mEv.fg [5] (z' := [some (.ref 0), some (.int x1), some (.int x2), some (.int x3), some (.int x4), none, some (.int x6), none]) rfl ?_
              exact K_X3_choked_112 (d := d) h hk
def J_X3_choked_53 (x1 : Int32) (x2 : Int32) (x3 : Int32) (x4 : Int32) (y0 : Int32) (s : ModS) : Option ((Int32 × Int32) ⊕ (Int32)) := (mWh (fun x => B_X3_choked_58 x1 x2 x3 x4 x.1 x.2 s) fuel0 (y0, (nI 0))).bind (fun z21 => if z21 = (nI 0) then (some (.inl ((x2 + (nI 1)), (x4 + (nI 1))))) else (some (.inl ((x2 + (nI 0)), (x4 + (nI 1))))))
set_option maxRecDepth 100000 in
theorem K_X3_choked_53 {d : Nat} {x1 : Int32} {x2 : Int32} {x3 : Int32} {x4 : Int32} {y0 : Int32} {s : ModS} {q : (Int32 × Int32) ⊕ (Int32)} {r0 : Option Value} {mu0 : MMe} (h : J_X3_choked_53 x1 x2 x3 x4 y0 s = some q) (hk : Sum.elim (fun x : Int32 × Int32 => mEv (d + 5) m_X3_choked none (31, [], [some (.ref 0), some (.int x1), some (.int x.1), some (.int x3), some (.int x.2), none, none, none], [], memM s) r0 mu0) (fun z : Int32 => mEv (d + 5) m_X3_choked none (168, [], [some (.ref 0), some (.int x1), some (.int z), some (.int x3), none, none, none, none], [], memM s) r0 mu0) q) : mEv (d + 5) m_X3_choked none (53, [], [some (.ref 0), some (.int x1), some (.int x2), some (.int x3), some (.int x4), none, none, none], [.int y0], memM s) r0 mu0 := by
  unfold J_X3_choked_53 at h
  refine mEv.stp 4 (S' := (58, [], [some (.ref 0), some (.int x1), some (.int x2), some (.int x3), some (.int x4), some (.int y0), some (.int (nI 0)), none], [], memM s)) rfl ?_
  obtain ⟨z21, e22, h⟩ := bnd h
  refine mWh_ind (b := (fun x => B_X3_choked_58 x1 x2 x3 x4 x.1 x.2 s)) (P := fun x : Int32 × Int32 => mEv (d + 5) m_X3_choked none (58, [], [some (.ref 0), some (.int x1), some (.int x2), some (.int x3), some (.int x4), some (.int x.1), some (.int x.2), none], [], memM s) r0 mu0) (K := fun z : Int32 => mEv (d + 5) m_X3_choked none (149, [], [some (.ref 0), some (.int x1), some (.int x2), some (.int x3), some (.int x4), some (.int z), none, none], [], memM s) r0 mu0) (fun x u hq hk => H_X3_choked_58 (d := d) (x1 := x1) (x2 := x2) (x3 := x3) (x4 := x4) (x5 := x.1) (x6 := x.2) (s := s) (q := u) (r0 := r0) (mu0 := mu0) hq hk) fuel0 (y0, (nI 0)) z21 e22 ?_
  refine mEv.stp 0 (S' := (149, [], [some (.ref 0), some (.int x1), some (.int x2), some (.int x3), some (.int x4), some (.int z21), none, none], [], memM s)) rfl ?_
  refine mEv.br 4 (S1 := (159, [], [some (.ref 0), some (.int x1), some (.int x2), some (.int x3), some (.int x4), some (.int z21), none, none], [.int x2], memM s)) (S2 := (155, _, [some (.ref 0), some (.int x1), some (.int x2), some (.int x3), some (.int x4), some (.int z21), none, none], [.int x2], memM s)) rfl (fun c23 => ?_) (fun c23 => ?_)
  · have h := (if_pos c23).symm.trans h
    refine mEv.stp 7 (S' := (31, [], [some (.ref 0), some (.int x1), some (.int (x2 + (nI 1))), some (.int x3), some (.int (x4 + (nI 1))), some (.int z21), none, none], [], memM s)) rfl ?_
    refine mEv.fg [5] (z' := [some (.ref 0), some (.int x1), some (.int (x2 + (nI 1))), some (.int x3), some (.int (x4 + (nI 1))), none, none, none]) rfl ?_
    obtain rfl := Option.some.inj h
    exact hk
  · have h := (if_neg c23).symm.trans h
    refine mEv.stp 7 (S' := (31, [], [some (.ref 0), some (.int x1), some (.int (x2 + (nI 0))), some (.int x3), some (.int (x4 + (nI 1))), some (.int z21), none, none], [], memM s)) rfl ?_
    refine mEv.fg [5] (z' := [some (.ref 0), some (.int x1), some (.int (x2 + (nI 0))), some (.int x3), some (.int (x4 + (nI 1))), none, none, none]) rfl ?_
    obtain rfl := Option.some.inj h
    exact hk
def B_X3_choked_31 (x1 : Int32) (x3 : Int32) (x2 : Int32) (x4 : Int32) (s : ModS) : Option ((Int32 × Int32) ⊕ (Int32)) := gI (nI 0) 637 (if ((gM_nw s) (Int32.toNatClampNeg (nI 0))) ≤ x4 then (some (.inr (x2))) else (if ¬ x3 = x4 then (J_X3_choked_53 x1 x2 x3 x4 (nI 0) s) else (J_X3_choked_53 x1 x2 x3 x4 (nI 1) s)))
set_option maxRecDepth 100000 in
theorem H_X3_choked_31 {d : Nat} {x1 : Int32} {x3 : Int32} {x2 : Int32} {x4 : Int32} {s : ModS} {q : (Int32 × Int32) ⊕ (Int32)} {r0 : Option Value} {mu0 : MMe} (h : B_X3_choked_31 x1 x3 x2 x4 s = some q) (hk : Sum.elim (fun x : Int32 × Int32 => mEv (d + 5) m_X3_choked none (31, [], [some (.ref 0), some (.int x1), some (.int x.1), some (.int x3), some (.int x.2), none, none, none], [], memM s) r0 mu0) (fun z : Int32 => mEv (d + 5) m_X3_choked none (168, [], [some (.ref 0), some (.int x1), some (.int z), some (.int x3), none, none, none, none], [], memM s) r0 mu0) q) : mEv (d + 5) m_X3_choked none (31, [], [some (.ref 0), some (.int x1), some (.int x2), some (.int x3), some (.int x4), none, none, none], [], memM s) r0 mu0 := by
  unfold B_X3_choked_31 at h
  obtain ⟨g6, h⟩ := gI_some h
  refine mEv.gd 6 (S' := (39, _, [some (.ref 0), some (.int x1), some (.int x2), some (.int x3), some (.int x4), none, none, none], [.int ((gM_nw s) (Int32.toNatClampNeg (nI 0))), .int x4], memM s)) rfl g6 ?_
  refine mEv.br 1 (S1 := (168, [], [some (.ref 0), some (.int x1), some (.int x2), some (.int x3), some (.int x4), none, none, none], [], memM s)) (S2 := (42, _, [some (.ref 0), some (.int x1), some (.int x2), some (.int x3), some (.int x4), none, none, none], [], memM s)) rfl (fun c7 => ?_) (fun c7 => ?_)
  · have h := (if_pos c7).symm.trans h
    refine mEv.fg [4] (z' := [some (.ref 0), some (.int x1), some (.int x2), some (.int x3), none, none, none, none]) rfl ?_
    obtain rfl := Option.some.inj h
    exact hk
  · have h := (if_neg c7).symm.trans h
    refine mEv.br 3 (S1 := (52, [], [some (.ref 0), some (.int x1), some (.int x2), some (.int x3), some (.int x4), none, none, none], [], memM s)) (S2 := (48, _, [some (.ref 0), some (.int x1), some (.int x2), some (.int x3), some (.int x4), none, none, none], [], memM s)) rfl (fun c8 => ?_) (fun c8 => ?_)
    · have h := (if_pos c8).symm.trans h
      refine mEv.stp 2 (S' := (53, [], [some (.ref 0), some (.int x1), some (.int x2), some (.int x3), some (.int x4), none, none, none], [.int (nI 0)], memM s)) rfl ?_
      exact K_X3_choked_53 (d := d) h hk
    · have h := (if_neg c8).symm.trans h
      refine mEv.stp 2 (S' := (53, [], [some (.ref 0), some (.int x1), some (.int x2), some (.int x3), some (.int x4), none, none, none], [.int (nI 1)], memM s)) rfl ?_
      exact K_X3_choked_53 (d := d) h hk
def B_X3_choked_18 (x1 : Int32) (x2 : Int32) (x3 : Int32) (s : ModS) : Option ((Int32 × Int32) ⊕ (Int32)) := gI (nI 0) 637 (if ((gM_nw s) (Int32.toNatClampNeg (nI 0))) ≤ x3 then (some (.inr (x2))) else ((mWh (fun x => B_X3_choked_31 x1 x3 x.1 x.2 s) fuel0 (x2, (nI 0))).bind (fun z24 => some (.inl (z24, (x3 + (nI 1)))))))
set_option maxRecDepth 100000 in
theorem H_X3_choked_18 {d : Nat} {x1 : Int32} {x2 : Int32} {x3 : Int32} {s : ModS} {q : (Int32 × Int32) ⊕ (Int32)} {r0 : Option Value} {mu0 : MMe} (h : B_X3_choked_18 x1 x2 x3 s = some q) (hk : Sum.elim (fun x : Int32 × Int32 => mEv (d + 5) m_X3_choked none (18, [], [some (.ref 0), some (.int x1), some (.int x.1), some (.int x.2), none, none, none, none], [], memM s) r0 mu0) (fun z : Int32 => mEv (d + 5) m_X3_choked none (174, [], [none, none, some (.int z), none, none, none, none, none], [], memM s) r0 mu0) q) : mEv (d + 5) m_X3_choked none (18, [], [some (.ref 0), some (.int x1), some (.int x2), some (.int x3), none, none, none, none], [], memM s) r0 mu0 := by
  unfold B_X3_choked_18 at h
  obtain ⟨g4, h⟩ := gI_some h
  refine mEv.gd 6 (S' := (25, _, [some (.ref 0), some (.int x1), some (.int x2), some (.int x3), none, none, none, none], [.int ((gM_nw s) (Int32.toNatClampNeg (nI 0))), .int x3], memM s)) rfl g4 ?_
  refine mEv.br 1 (S1 := (174, [], [some (.ref 0), some (.int x1), some (.int x2), some (.int x3), none, none, none, none], [], memM s)) (S2 := (28, _, [some (.ref 0), some (.int x1), some (.int x2), some (.int x3), none, none, none, none], [], memM s)) rfl (fun c5 => ?_) (fun c5 => ?_)
  · have h := (if_pos c5).symm.trans h
    refine mEv.fg [0, 1, 3] (z' := [none, none, some (.int x2), none, none, none, none, none]) rfl ?_
    obtain rfl := Option.some.inj h
    exact hk
  · have h := (if_neg c5).symm.trans h
    refine mEv.stp 2 (S' := (31, [], [some (.ref 0), some (.int x1), some (.int x2), some (.int x3), some (.int (nI 0)), none, none, none], [], memM s)) rfl ?_
    obtain ⟨z24, e25, h⟩ := bnd h
    refine mWh_ind (b := (fun x => B_X3_choked_31 x1 x3 x.1 x.2 s)) (P := fun x : Int32 × Int32 => mEv (d + 5) m_X3_choked none (31, [], [some (.ref 0), some (.int x1), some (.int x.1), some (.int x3), some (.int x.2), none, none, none], [], memM s) r0 mu0) (K := fun z : Int32 => mEv (d + 5) m_X3_choked none (168, [], [some (.ref 0), some (.int x1), some (.int z), some (.int x3), none, none, none, none], [], memM s) r0 mu0) (fun x u hq hk => H_X3_choked_31 (d := d) (x1 := x1) (x3 := x3) (x2 := x.1) (x4 := x.2) (s := s) (q := u) (r0 := r0) (mu0 := mu0) hq hk) fuel0 (x2, (nI 0)) z24 e25 ?_
    refine mEv.stp 0 (S' := (168, [], [some (.ref 0), some (.int x1), some (.int z24), some (.int x3), none, none, none, none], [], memM s)) rfl ?_
    refine mEv.stp 3 (S' := (18, [], [some (.ref 0), some (.int x1), some (.int z24), some (.int (x3 + (nI 1))), none, none, none, none], [], memM s)) rfl ?_
    obtain rfl := Option.some.inj h
    exact hk
def F_X3_choked (p1 : Int32) (s : ModS) : Option (Int32 × ModS) := (F_X3_in p1 (nI 0) (nI 1)).bind (fun v1 => if ¬ v1 = (nI 0) then ((mWh (fun x => B_X3_choked_18 p1 x.1 x.2 s) fuel0 ((nI 0), (nI 0))).bind (fun z26 => some ((z26, s)))) else ((F_X3_bads s).bind (fun v28 => some ((v28.1, v28.2)))))
set_option maxRecDepth 100000 in
theorem E_X3_choked {d : Nat} {p1 : Int32} {s : ModS} {q : Int32 × ModS} (h : F_X3_choked p1 s = some q) : mEv (d + 5) m_X3_choked none (0, [], [some (.ref 0), some (.int p1), none, none, none, none, none, none], [], memM s) (some (Value.int q.1)) (memM q.2) := by
  unfold F_X3_choked at h
  refine mEv.stp 4 (S' := (3, _, [some (.ref 0), some (.int p1), none, none, none, none, none, none], [.int (nI 1), .int (nI 0), .int p1], memM s)) rfl ?_
  obtain ⟨v1, e2, h⟩ := bnd h
  refine mEv.callS (As := [.int p1, .int (nI 0), .int (nI 1)]) (st := []) (r := (some (.int v1))) (μ1 := memM s) lk_X3_36 rfl rfl rfl (A_X3_in (d := d + 4) e2) ?_
  refine mEv.stp 0 (S' := (6, _, [some (.ref 0), some (.int p1), none, none, none, none, none, none], [.int v1], memM s)) rfl ?_
  refine mEv.br 1 (S1 := (14, [], [some (.ref 0), some (.int p1), none, none, none, none, none, none], [], memM s)) (S2 := (9, _, [some (.ref 0), some (.int p1), none, none, none, none, none, none], [], memM s)) rfl (fun c3 => ?_) (fun c3 => ?_)
  · have h := (if_pos c3).symm.trans h
    refine mEv.stp 5 (S' := (18, [], [some (.ref 0), some (.int p1), some (.int (nI 0)), some (.int (nI 0)), none, none, none, none], [], memM s)) rfl ?_
    obtain ⟨z26, e27, h⟩ := bnd h
    refine mWh_ind (b := (fun x => B_X3_choked_18 p1 x.1 x.2 s)) (P := fun x : Int32 × Int32 => mEv (d + 5) m_X3_choked none (18, [], [some (.ref 0), some (.int p1), some (.int x.1), some (.int x.2), none, none, none, none], [], memM s) (some (Value.int q.1)) (memM q.2)) (K := fun z : Int32 => mEv (d + 5) m_X3_choked none (174, [], [none, none, some (.int z), none, none, none, none, none], [], memM s) (some (Value.int q.1)) (memM q.2)) (fun x u hq hk => H_X3_choked_18 (d := d) (x1 := p1) (x2 := x.1) (x3 := x.2) (s := s) (q := u) (r0 := (some (Value.int q.1))) (mu0 := (memM q.2)) hq hk) fuel0 ((nI 0), (nI 0)) z26 e27 ?_
    refine mEv.stp 0 (S' := (174, [], [none, none, some (.int z26), none, none, none, none, none], [], memM s)) rfl ?_
    obtain rfl := Option.some.inj h
    exact mEv.stp 2 (S' := (175, _, [none, none, some (.int z26), none, none, none, none, none], [.int z26], memM s)) rfl (mEv.reti ⟨_, rfl, rfl⟩)
  · have h := (if_neg c3).symm.trans h
    refine mEv.stp 1 (S' := (10, _, [some (.ref 0), some (.int p1), none, none, none, none, none, none], [.ref 0], memM s)) rfl ?_
    obtain ⟨v28, e29, h⟩ := bnd h
    refine mEv.callV (As := []) (st := []) (h := 0) (r := (some (.int v28.1))) (μ1 := memM v28.2) lk_X3_47 rfl rfl rfl rfl rfl (A_X3_bads (d := d + 4) e29) ?_
    refine mEv.stp 0 (S' := (13, _, [some (.ref 0), some (.int p1), none, none, none, none, none, none], [.int v28.1], memM v28.2)) rfl ?_
    obtain rfl := Option.some.inj h
    exact mEv.reti ⟨_, rfl, rfl⟩
theorem A_X3_choked {d : Nat} {p1 : Int32} {s : ModS} {q : Int32 × ModS} (h : F_X3_choked p1 s = some q) : mCall (d + 5) m_X3_choked [.ref 0, .int p1] (memM s) (some (Value.int q.1)) (memM q.2) := mCall.intro ok_X3_choked pl_X3_choked rfl (E_X3_choked (d := d) h)
def F_X3_type (p1 : Int32) (s : ModS) : Option (Int32 × ModS) := (F_X3_in p1 (nI 0) (nI 127)).bind (fun v1 => if ¬ v1 = (nI 0) then (if ¬ (gM_ty s) = (nI 120) then (gI (gM_ty s) 120 (some ((((gM_ty s) + (nI 1)), (mkM (gM_ss s) ((gM_ty s) + (nI 1)) (gM_at s) (gM_ft s) (gM_mn s) (gM_bd s) (gM_no s) (gM_fu s) (gM_nw s) (gM_as s) (gM_pa s) (upd (gM_tx s) (Int32.toNatClampNeg (gM_ty s)) p1) (gM_od s)))))) else (some (((-nI 4), (mkM (gM_ss s) (gM_ty s) (gM_at s) (gM_ft s) (gM_mn s) (gM_bd s) (gM_no s) ((gM_fu s) + (nI 1)) (gM_nw s) (gM_as s) (gM_pa s) (gM_tx s) (gM_od s)))))) else ((F_X3_bads s).bind (fun v6 => some ((v6.1, v6.2)))))
set_option maxRecDepth 100000 in
theorem E_X3_type {d : Nat} {p1 : Int32} {s : ModS} {q : Int32 × ModS} (h : F_X3_type p1 s = some q) : mEv (d + 1) m_X3_type none (0, [], [some (.ref 0), some (.int p1)], [], memM s) (some (Value.int q.1)) (memM q.2) := by
  unfold F_X3_type at h
  refine mEv.stp 4 (S' := (4, _, [some (.ref 0), some (.int p1)], [.int (nI 127), .int (nI 0), .int p1], memM s)) rfl ?_
  obtain ⟨v1, e2, h⟩ := bnd h
  refine mEv.callS (As := [.int p1, .int (nI 0), .int (nI 127)]) (st := []) (r := (some (.int v1))) (μ1 := memM s) lk_X3_36 rfl rfl rfl (A_X3_in (d := d + 0) e2) ?_
  refine mEv.stp 0 (S' := (7, _, [some (.ref 0), some (.int p1)], [.int v1], memM s)) rfl ?_
  refine mEv.br 1 (S1 := (15, [], [some (.ref 0), some (.int p1)], [], memM s)) (S2 := (10, _, [some (.ref 0), some (.int p1)], [], memM s)) rfl (fun c3 => ?_) (fun c3 => ?_)
  · have h := (if_pos c3).symm.trans h
    refine mEv.br 5 (S1 := (37, [], [some (.ref 0), some (.int p1)], [], memM s)) (S2 := (24, _, [some (.ref 0), some (.int p1)], [], memM s)) rfl (fun c4 => ?_) (fun c4 => ?_)
    · have h := (if_pos c4).symm.trans h
      obtain ⟨g5, h⟩ := gI_some h
      refine mEv.gd 7 (S' := (47, _, [some (.ref 0), some (.int p1)], [], memMx (gM_ss s) (gM_ty s) (gM_at s) (gM_ft s) (gM_mn s) (gM_bd s) (gM_no s) (gM_fu s) (gM_nw s) (gM_as s) (gM_pa s) (upd (gM_tx s) (Int32.toNatClampNeg (gM_ty s)) p1) (gM_od s))) rfl g5 ?_
      obtain rfl := Option.some.inj h
      exact mEv.tgt memM_mk (mEv.stp 8 (S' := (61, _, [some (.ref 0), some (.int p1)], [.int ((gM_ty s) + (nI 1))], memMx (gM_ss s) ((gM_ty s) + (nI 1)) (gM_at s) (gM_ft s) (gM_mn s) (gM_bd s) (gM_no s) (gM_fu s) (gM_nw s) (gM_as s) (gM_pa s) (upd (gM_tx s) (Int32.toNatClampNeg (gM_ty s)) p1) (gM_od s))) rfl (mEv.reti ⟨_, rfl, rfl⟩))
    · have h := (if_neg c4).symm.trans h
      obtain rfl := Option.some.inj h
      exact mEv.tgt memM_mk (mEv.stp 7 (S' := (36, _, [some (.ref 0), some (.int p1)], [.int (-nI 4)], memMx (gM_ss s) (gM_ty s) (gM_at s) (gM_ft s) (gM_mn s) (gM_bd s) (gM_no s) ((gM_fu s) + (nI 1)) (gM_nw s) (gM_as s) (gM_pa s) (gM_tx s) (gM_od s))) rfl (mEv.reti ⟨_, rfl, rfl⟩))
  · have h := (if_neg c3).symm.trans h
    refine mEv.stp 1 (S' := (11, _, [some (.ref 0), some (.int p1)], [.ref 0], memM s)) rfl ?_
    obtain ⟨v6, e7, h⟩ := bnd h
    refine mEv.callV (As := []) (st := []) (h := 0) (r := (some (.int v6.1))) (μ1 := memM v6.2) lk_X3_47 rfl rfl rfl rfl rfl (A_X3_bads (d := d + 0) e7) ?_
    refine mEv.stp 0 (S' := (14, _, [some (.ref 0), some (.int p1)], [.int v6.1], memM v6.2)) rfl ?_
    obtain rfl := Option.some.inj h
    exact mEv.reti ⟨_, rfl, rfl⟩
theorem A_X3_type {d : Nat} {p1 : Int32} {s : ModS} {q : Int32 × ModS} (h : F_X3_type p1 s = some q) : mCall (d + 1) m_X3_type [.ref 0, .int p1] (memM s) (some (Value.int q.1)) (memM q.2) := mCall.intro ok_X3_type pl_X3_type rfl (E_X3_type (d := d) h)
def F_X3_clear  (s : ModS) : Option (Int32 × ModS) := some (((gM_ty s), (mkM (gM_ss s) (nI 0) (gM_at s) (gM_ft s) (gM_mn s) (gM_bd s) (gM_no s) (gM_fu s) (gM_nw s) (gM_as s) (gM_pa s) (gM_tx s) (gM_od s))))
set_option maxRecDepth 100000 in
theorem E_X3_clear {d : Nat}  {s : ModS} {q : Int32 × ModS} (h : F_X3_clear s = some q) : mEv d m_X3_clear none (0, [], [some (.ref 0), none], [], memM s) (some (Value.int q.1)) (memM q.2) := by
  unfold F_X3_clear at h
  obtain rfl := Option.some.inj h
  exact mEv.tgt memM_mk (mEv.stp 8 (S' := (11, _, [some (.ref 0), some (.int (gM_ty s))], [.int (gM_ty s)], memMx (gM_ss s) (nI 0) (gM_at s) (gM_ft s) (gM_mn s) (gM_bd s) (gM_no s) (gM_fu s) (gM_nw s) (gM_as s) (gM_pa s) (gM_tx s) (gM_od s))) rfl (mEv.reti ⟨_, rfl, rfl⟩))
theorem A_X3_clear {d : Nat}  {s : ModS} {q : Int32 × ModS} (h : F_X3_clear s = some q) : mCall d m_X3_clear [.ref 0] (memM s) (some (Value.int q.1)) (memM q.2) := mCall.intro ok_X3_clear pl_X3_clear rfl (E_X3_clear (d := d) h)
def B_X3_sign_0  (s : ModS) : Option ((ModS) ⊕ (ModS)) := if (gM_ty s) ≤ (gM_at s) then (some (.inr (s))) else (gI (gM_at s) 120 (if ¬ ((gM_tx s) (Int32.toNatClampNeg (gM_at s))) = (nI 32) then (some (.inr (s))) else (some (.inl ((mkM (gM_ss s) (gM_ty s) ((gM_at s) + (nI 1)) (gM_ft s) (gM_mn s) (gM_bd s) (gM_no s) (gM_fu s) (gM_nw s) (gM_as s) (gM_pa s) (gM_tx s) (gM_od s)))))))
set_option maxRecDepth 100000 in
theorem H_X3_sign_0 {d : Nat}  {s : ModS} {q : (ModS) ⊕ (ModS)} {r0 : Option Value} {mu0 : MMe} (h : B_X3_sign_0 s = some q) (hk : Sum.elim (fun x : ModS => mEv d m_X3_sign none (0, [], [some (.ref 0)], [], memM x) r0 mu0) (fun z : ModS => mEv d m_X3_sign none (38, [], [some (.ref 0)], [], memM z) r0 mu0) q) : mEv d m_X3_sign none (0, [], [some (.ref 0)], [], memM s) r0 mu0 := by
  unfold B_X3_sign_0 at h
  refine mEv.br 6 (S1 := (38, [], [some (.ref 0)], [], memM s)) (S2 := (11, _, [some (.ref 0)], [], memM s)) rfl (fun c1 => ?_) (fun c1 => ?_)
  · have h := (if_pos c1).symm.trans h
    obtain rfl := Option.some.inj h
    exact hk
  · have h := (if_neg c1).symm.trans h
    obtain ⟨g2, h⟩ := gI_some h
    refine mEv.gd 5 (S' := (20, _, [some (.ref 0)], [.int ((gM_tx s) (Int32.toNatClampNeg (gM_at s)))], memM s)) rfl g2 ?_
    refine mEv.br 2 (S1 := (38, [], [some (.ref 0)], [], memM s)) (S2 := (25, _, [some (.ref 0)], [], memM s)) rfl (fun c3 => ?_) (fun c3 => ?_)
    · have h := (if_pos c3).symm.trans h
      obtain rfl := Option.some.inj h
      exact hk
    · have h := (if_neg c3).symm.trans h
      refine mEv.stp 7 (S' := (0, [], [some (.ref 0)], [], memMx (gM_ss s) (gM_ty s) ((gM_at s) + (nI 1)) (gM_ft s) (gM_mn s) (gM_bd s) (gM_no s) (gM_fu s) (gM_nw s) (gM_as s) (gM_pa s) (gM_tx s) (gM_od s))) rfl ?_
      refine mEv.mem memM_mk ?_
      obtain rfl := Option.some.inj h
      exact hk
def F_X3_sign  (s : ModS) : Option (Int32 × ModS) := (mWh (fun x => B_X3_sign_0 x) fuel0 (s)).bind (fun z4 => if (gM_ty z4) ≤ (gM_at z4) then (some (((-nI 1), z4))) else (gI (gM_at z4) 120 (some ((((gM_tx z4) (Int32.toNatClampNeg (gM_at z4))), z4)))))
set_option maxRecDepth 100000 in
theorem E_X3_sign {d : Nat}  {s : ModS} {q : Int32 × ModS} (h : F_X3_sign s = some q) : mEv d m_X3_sign none (0, [], [some (.ref 0)], [], memM s) (some (Value.int q.1)) (memM q.2) := by
  unfold F_X3_sign at h
  obtain ⟨z4, e5, h⟩ := bnd h
  refine mWh_ind (b := (fun x => B_X3_sign_0 x)) (P := fun x : ModS => mEv d m_X3_sign none (0, [], [some (.ref 0)], [], memM x) (some (Value.int q.1)) (memM q.2)) (K := fun z : ModS => mEv d m_X3_sign none (38, [], [some (.ref 0)], [], memM z) (some (Value.int q.1)) (memM q.2)) (fun x u hq hk => H_X3_sign_0 (d := d) (s := x) (q := u) (r0 := (some (Value.int q.1))) (mu0 := (memM q.2)) hq hk) fuel0 (s) z4 e5 ?_
  refine mEv.stp 0 (S' := (38, [], [some (.ref 0)], [], memM z4)) rfl ?_
  refine mEv.br 6 (S1 := (61, [], [some (.ref 0)], [], memM z4)) (S2 := (49, _, [some (.ref 0)], [], memM z4)) rfl (fun c6 => ?_) (fun c6 => ?_)
  · have h := (if_pos c6).symm.trans h
    obtain rfl := Option.some.inj h
    exact mEv.stp 3 (S' := (62, _, [some (.ref 0)], [.int (-nI 1)], memM z4)) rfl (mEv.reti ⟨_, rfl, rfl⟩)
  · have h := (if_neg c6).symm.trans h
    obtain ⟨g7, h⟩ := gI_some h
    refine mEv.gd 5 (S' := (58, _, [some (.ref 0)], [.int ((gM_tx z4) (Int32.toNatClampNeg (gM_at z4)))], memM z4)) rfl g7 ?_
    obtain rfl := Option.some.inj h
    exact mEv.stp 2 (S' := (62, _, [some (.ref 0)], [.int ((gM_tx z4) (Int32.toNatClampNeg (gM_at z4)))], memM z4)) rfl (mEv.reti ⟨_, rfl, rfl⟩)
theorem A_X3_sign {d : Nat}  {s : ModS} {q : Int32 × ModS} (h : F_X3_sign s = some q) : mCall d m_X3_sign [.ref 0] (memM s) (some (Value.int q.1)) (memM q.2) := mCall.intro ok_X3_sign pl_X3_sign rfl (E_X3_sign (d := d) h)
def F_X3_fails (p1 : Int32) (s : ModS) : Option (ModS) := if ¬ (gM_ft s) = (-nI 1) then (some ((mkM (gM_ss s) (gM_ty s) (gM_at s) (gM_ft s) (gM_mn s) (gM_bd s) (gM_no s) (gM_fu s) (gM_nw s) (gM_as s) (gM_pa s) (gM_tx s) (gM_od s)))) else (some ((mkM (gM_ss s) (gM_ty s) (gM_at s) p1 (gM_mn s) (gM_bd s) (gM_no s) (gM_fu s) (gM_nw s) (gM_as s) (gM_pa s) (gM_tx s) (gM_od s))))
set_option maxRecDepth 100000 in
theorem E_X3_fails {d : Nat} {p1 : Int32} {s : ModS} {q : ModS} (h : F_X3_fails p1 s = some q) : mEv d m_X3_fails none (0, [], [some (.ref 0), some (.int p1)], [], memM s) none (memM q) := by
  unfold F_X3_fails at h
  refine mEv.br 6 (S1 := (13, [], [some (.ref 0), some (.int p1)], [.ref 0], memM s)) (S2 := (9, _, [some (.ref 0), some (.int p1)], [.ref 0], memM s)) rfl (fun c1 => ?_) (fun c1 => ?_)
  · have h := (if_pos c1).symm.trans h
    obtain rfl := Option.some.inj h
    exact mEv.tgt memM_mk (mEv.stp 5 (S' := (20, _, [some (.ref 0), some (.int p1)], [], memMx (gM_ss s) (gM_ty s) (gM_at s) (gM_ft s) (gM_mn s) (gM_bd s) (gM_no s) (gM_fu s) (gM_nw s) (gM_as s) (gM_pa s) (gM_tx s) (gM_od s))) rfl (mEv.retv rfl))
  · have h := (if_neg c1).symm.trans h
    obtain rfl := Option.some.inj h
    exact mEv.tgt memM_mk (mEv.stp 4 (S' := (20, _, [some (.ref 0), some (.int p1)], [], memMx (gM_ss s) (gM_ty s) (gM_at s) p1 (gM_mn s) (gM_bd s) (gM_no s) (gM_fu s) (gM_nw s) (gM_as s) (gM_pa s) (gM_tx s) (gM_od s))) rfl (mEv.retv rfl))
theorem A_X3_fails {d : Nat} {p1 : Int32} {s : ModS} {q : ModS} (h : F_X3_fails p1 s = some q) : mCall d m_X3_fails [.ref 0, .int p1] (memM s) none (memM q) := mCall.intro ok_X3_fails pl_X3_fails rfl (E_X3_fails (d := d) h)
def F_X3_isFigure (p0 : Int32)  : Option (Int32) := (F_X3_in p0 (nI 48) (nI 57)).bind (fun v1 => gB v1 (some (v1)))
set_option maxRecDepth 100000 in
theorem E_X3_isFigure {d : Nat} {p0 : Int32} {μ : MMe} {q : Int32} (h : F_X3_isFigure p0 = some q) : mEv (d + 1) m_X3_isFigure none (0, [], [some (.int p0)], [], μ) (some (Value.int q)) (μ) := by
  unfold F_X3_isFigure at h
  refine mEv.stp 4 (S' := (5, _, [some (.int p0)], [.int (nI 57), .int (nI 48), .int p0], μ)) rfl ?_
  obtain ⟨v1, e2, h⟩ := bnd h
  refine mEv.callS (As := [.int p0, .int (nI 48), .int (nI 57)]) (st := []) (r := (some (.int v1))) (μ1 := μ) lk_X3_36 rfl rfl rfl (A_X3_in (d := d + 0) e2) ?_
  refine mEv.stp 0 (S' := (8, _, [some (.int p0)], [.int v1], μ)) rfl ?_
  obtain ⟨hB, h⟩ := gB_some h
  obtain rfl := Option.some.inj h
  exact mEv.reti ⟨_, rfl, hB⟩
theorem A_X3_isFigure {d : Nat} {p0 : Int32} {μ : MMe} {q : Int32} (h : F_X3_isFigure p0 = some q) : mCall (d + 1) m_X3_isFigure [.int p0] (μ) (some (Value.int q)) (μ) := mCall.intro ok_X3_isFigure pl_X3_isFigure rfl (E_X3_isFigure (d := d) h)
def J_X3_figure_36  (s : ModS) : Option (Int32 × ModS) := (F_X3_fails (gM_at s) s).bind (fun v4 => some (((nI 0), v4)))
set_option maxRecDepth 100000 in
theorem K_X3_figure_36 {d : Nat}  {s : ModS} {q : Int32 × ModS} (h : J_X3_figure_36 s = some q) : mEv (d + 2) m_X3_figure none (36, [], [some (.ref 0), none, none, none], [], memM s) (some (Value.int q.1)) (memM q.2) := by
  unfold J_X3_figure_36 at h
  refine mEv.stp 4 (S' := (41, _, [some (.ref 0), none, none, none], [.int (gM_at s), .ref 0], memM s)) rfl ?_
  obtain ⟨v4, e5, h⟩ := bnd h
  refine mEv.callV (As := [.int (gM_at s)]) (st := []) (h := 0) (r := none) (μ1 := memM v4) lk_X3_135 rfl rfl rfl rfl rfl (A_X3_fails (d := d + 1) e5) ?_
  refine mEv.stp 0 (S' := (44, _, [some (.ref 0), none, none, none], [], memM v4)) rfl ?_
  obtain rfl := Option.some.inj h
  exact mEv.stp 1 (S' := (45, _, [some (.ref 0), none, none, none], [.int (nI 0)], memM v4)) rfl (mEv.reti ⟨_, rfl, rfl⟩)
def F_X3_figure (p1 : Int32) (p2 : Int32) (s : ModS) : Option (Int32 × ModS) := (F_X3_sign s).bind (fun v1 => if ¬ (gM_ft v1.2) = (-nI 1) then (J_X3_figure_36 v1.2) else ((F_X3_isFigure v1.1).bind (fun v6 => if v6 = (nI 0) then (J_X3_figure_36 v1.2) else (if p1 < (v1.1 - (nI 48)) then (J_X3_figure_36 v1.2) else (if ¬ (v1.1 - (nI 48)) = p2 then (some (((v1.1 - (nI 48)), (mkM (gM_ss v1.2) (gM_ty v1.2) ((gM_at v1.2) + (nI 1)) (gM_ft v1.2) (gM_mn v1.2) (gM_bd v1.2) (gM_no v1.2) (gM_fu v1.2) (gM_nw v1.2) (gM_as v1.2) (gM_pa v1.2) (gM_tx v1.2) (gM_od v1.2))))) else (J_X3_figure_36 v1.2))))))
set_option maxRecDepth 100000 in
theorem E_X3_figure {d : Nat} {p1 : Int32} {p2 : Int32} {s : ModS} {q : Int32 × ModS} (h : F_X3_figure p1 p2 s = some q) : mEv (d + 2) m_X3_figure none (0, [], [some (.ref 0), some (.int p1), some (.int p2), none], [], memM s) (some (Value.int q.1)) (memM q.2) := by
  unfold F_X3_figure at h
  refine mEv.stp 2 (S' := (1, _, [some (.ref 0), some (.int p1), some (.int p2), none], [.ref 0], memM s)) rfl ?_
  obtain ⟨v1, e2, h⟩ := bnd h
  refine mEv.callV (As := []) (st := []) (h := 0) (r := (some (.int v1.1))) (μ1 := memM v1.2) lk_X3_129 rfl rfl rfl rfl rfl (A_X3_sign (d := d + 1) e2) ?_
  refine mEv.stp 0 (S' := (4, _, [some (.ref 0), some (.int p1), some (.int p2), none], [.int v1.1], memM v1.2)) rfl ?_
  refine mEv.br 5 (S1 := (36, [], [some (.ref 0), some (.int p1), some (.int p2), some (.int v1.1)], [], memM v1.2)) (S2 := (13, _, [some (.ref 0), some (.int p1), some (.int p2), some (.int v1.1)], [], memM v1.2)) rfl (fun c3 => ?_) (fun c3 => ?_)
  · have h := (if_pos c3).symm.trans h
    refine mEv.fg [1, 2, 3] (z' := [some (.ref 0), none, none, none]) rfl ?_
    exact K_X3_figure_36 (d := d) h
  · have h := (if_neg c3).symm.trans h
    refine mEv.stp 1 (S' := (14, _, [some (.ref 0), some (.int p1), some (.int p2), some (.int v1.1)], [.int v1.1], memM v1.2)) rfl ?_
    obtain ⟨v6, e7, h⟩ := bnd h
    refine mEv.callS (As := [.int v1.1]) (st := []) (r := (some (.int v6))) (μ1 := memM v1.2) lk_X3_132 rfl rfl rfl (A_X3_isFigure (d := d + 0) e7) ?_
    refine mEv.stp 0 (S' := (17, _, [some (.ref 0), some (.int p1), some (.int p2), some (.int v1.1)], [.int v6], memM v1.2)) rfl ?_
    refine mEv.br 1 (S1 := (36, [], [some (.ref 0), some (.int p1), some (.int p2), some (.int v1.1)], [], memM v1.2)) (S2 := (20, _, [some (.ref 0), some (.int p1), some (.int p2), some (.int v1.1)], [], memM v1.2)) rfl (fun c8 => ?_) (fun c8 => ?_)
    · have h := (if_pos c8).symm.trans h
      refine mEv.fg [1, 2, 3] (z' := [some (.ref 0), none, none, none]) rfl ?_
      exact K_X3_figure_36 (d := d) h
    · have h := (if_neg c8).symm.trans h
      refine mEv.br 5 (S1 := (36, [], [some (.ref 0), some (.int p1), some (.int p2), some (.int v1.1)], [], memM v1.2)) (S2 := (28, _, [some (.ref 0), some (.int p1), some (.int p2), some (.int v1.1)], [], memM v1.2)) rfl (fun c9 => ?_) (fun c9 => ?_)
      · have h := (if_pos c9).symm.trans h
        refine mEv.fg [1, 2, 3] (z' := [some (.ref 0), none, none, none]) rfl ?_
        exact K_X3_figure_36 (d := d) h
      · have h := (if_neg c9).symm.trans h
        refine mEv.br 5 (S1 := (46, [], [some (.ref 0), some (.int p1), some (.int p2), some (.int v1.1)], [], memM v1.2)) (S2 := (36, [], [some (.ref 0), some (.int p1), some (.int p2), some (.int v1.1)], [], memM v1.2)) rfl (fun c10 => ?_) (fun c10 => ?_)
        · have h := (if_pos c10).symm.trans h
          obtain rfl := Option.some.inj h
          exact mEv.tgt memM_mk (mEv.stp 10 (S' := (60, _, [some (.ref 0), some (.int p1), some (.int p2), some (.int v1.1)], [.int (v1.1 - (nI 48))], memMx (gM_ss v1.2) (gM_ty v1.2) ((gM_at v1.2) + (nI 1)) (gM_ft v1.2) (gM_mn v1.2) (gM_bd v1.2) (gM_no v1.2) (gM_fu v1.2) (gM_nw v1.2) (gM_as v1.2) (gM_pa v1.2) (gM_tx v1.2) (gM_od v1.2))) rfl (mEv.reti ⟨_, rfl, rfl⟩))
        · have h := (if_neg c10).symm.trans h
          refine mEv.fg [1, 2, 3] (z' := [some (.ref 0), none, none, none]) rfl ?_
          exact K_X3_figure_36 (d := d) h
theorem A_X3_figure {d : Nat} {p1 : Int32} {p2 : Int32} {s : ModS} {q : Int32 × ModS} (h : F_X3_figure p1 p2 s = some q) : mCall (d + 2) m_X3_figure [.ref 0, .int p1, .int p2] (memM s) (some (Value.int q.1)) (memM q.2) := mCall.intro ok_X3_figure pl_X3_figure rfl (E_X3_figure (d := d) h)
def B_X3_number_13 (x1 : Int32) (x2 : Int32) (x3 : Int32) (x4 : Int32) (s : ModS) : Option ((Int32 × ModS) ⊕ (Int32 × ModS)) := if (gM_ty s) ≤ (gM_at s) then (some (.inr (x4, s))) else (gI (gM_at s) 120 ((F_X3_isFigure ((gM_tx s) (Int32.toNatClampNeg (gM_at s)))).bind (fun v5 => if v5 = (nI 0) then (some (.inr (x4, s))) else (if (nI 2) ≤ ((gM_at s) - x3) then (some (.inl ((nI 1000), (mkM (gM_ss s) (gM_ty s) ((gM_at s) + (nI 1)) (gM_ft s) (gM_mn s) (gM_bd s) (gM_no s) (gM_fu s) (gM_nw s) (gM_as s) (gM_pa s) (gM_tx s) (gM_od s))))) else (gI (gM_at s) 120 (some (.inl (((((nI 10) * x4) + ((gM_tx s) (Int32.toNatClampNeg (gM_at s)))) - (nI 48)), (mkM (gM_ss s) (gM_ty s) ((gM_at s) + (nI 1)) (gM_ft s) (gM_mn s) (gM_bd s) (gM_no s) (gM_fu s) (gM_nw s) (gM_as s) (gM_pa s) (gM_tx s) (gM_od s))))))))))
set_option maxRecDepth 100000 in
theorem H_X3_number_13 {d : Nat} {x1 : Int32} {x2 : Int32} {x3 : Int32} {x4 : Int32} {s : ModS} {q : (Int32 × ModS) ⊕ (Int32 × ModS)} {r0 : Option Value} {mu0 : MMe} (h : B_X3_number_13 x1 x2 x3 x4 s = some q) (hk : Sum.elim (fun x : Int32 × ModS => mEv (d + 2) m_X3_number none (13, [], [some (.ref 0), some (.int x1), some (.int x2), some (.int x3), some (.int x.1)], [], memM x.2) r0 mu0) (fun z : Int32 × ModS => mEv (d + 2) m_X3_number none (88, [], [some (.ref 0), some (.int x1), some (.int x2), some (.int x3), some (.int z.1)], [], memM z.2) r0 mu0) q) : mEv (d + 2) m_X3_number none (13, [], [some (.ref 0), some (.int x1), some (.int x2), some (.int x3), some (.int x4)], [], memM s) r0 mu0 := by
  unfold B_X3_number_13 at h
  refine mEv.br 6 (S1 := (88, [], [some (.ref 0), some (.int x1), some (.int x2), some (.int x3), some (.int x4)], [], memM s)) (S2 := (24, _, [some (.ref 0), some (.int x1), some (.int x2), some (.int x3), some (.int x4)], [], memM s)) rfl (fun c3 => ?_) (fun c3 => ?_)
  · have h := (if_pos c3).symm.trans h
    obtain rfl := Option.some.inj h
    exact hk
  · have h := (if_neg c3).symm.trans h
    obtain ⟨g4, h⟩ := gI_some h
    refine mEv.gd 5 (S' := (33, _, [some (.ref 0), some (.int x1), some (.int x2), some (.int x3), some (.int x4)], [.int ((gM_tx s) (Int32.toNatClampNeg (gM_at s)))], memM s)) rfl g4 ?_
    obtain ⟨v5, e6, h⟩ := bnd h
    refine mEv.callS (As := [.int ((gM_tx s) (Int32.toNatClampNeg (gM_at s)))]) (st := []) (r := (some (.int v5))) (μ1 := memM s) lk_X3_132 rfl rfl rfl (A_X3_isFigure (d := d + 0) e6) ?_
    refine mEv.stp 0 (S' := (36, _, [some (.ref 0), some (.int x1), some (.int x2), some (.int x3), some (.int x4)], [.int v5], memM s)) rfl ?_
    refine mEv.br 1 (S1 := (88, [], [some (.ref 0), some (.int x1), some (.int x2), some (.int x3), some (.int x4)], [], memM s)) (S2 := (39, _, [some (.ref 0), some (.int x1), some (.int x2), some (.int x3), some (.int x4)], [], memM s)) rfl (fun c7 => ?_) (fun c7 => ?_)
    · have h := (if_pos c7).symm.trans h
      obtain rfl := Option.some.inj h
      exact hk
    · have h := (if_neg c7).symm.trans h
      refine mEv.br 6 (S1 := (70, [], [some (.ref 0), some (.int x1), some (.int x2), some (.int x3), some (.int x4)], [], memM s)) (S2 := (49, _, [some (.ref 0), some (.int x1), some (.int x2), some (.int x3), some (.int x4)], [], memM s)) rfl (fun c8 => ?_) (fun c8 => ?_)
      · have h := (if_pos c8).symm.trans h
        refine mEv.stp 11 (S' := (13, [], [some (.ref 0), some (.int x1), some (.int x2), some (.int x3), some (.int (nI 1000))], [], memMx (gM_ss s) (gM_ty s) ((gM_at s) + (nI 1)) (gM_ft s) (gM_mn s) (gM_bd s) (gM_no s) (gM_fu s) (gM_nw s) (gM_as s) (gM_pa s) (gM_tx s) (gM_od s))) rfl ?_
        refine mEv.mem memM_mk ?_
        obtain rfl := Option.some.inj h
        exact hk
      · have h := (if_neg c8).symm.trans h
        obtain ⟨g9, h⟩ := gI_some h
        refine mEv.gd 8 (S' := (63, _, [some (.ref 0), some (.int x1), some (.int x2), some (.int x3), some (.int x4)], [.int ((gM_tx s) (Int32.toNatClampNeg (gM_at s))), .int ((nI 10) * x4)], memM s)) rfl g9 ?_
        refine mEv.stp 13 (S' := (13, [], [some (.ref 0), some (.int x1), some (.int x2), some (.int x3), some (.int ((((nI 10) * x4) + ((gM_tx s) (Int32.toNatClampNeg (gM_at s)))) - (nI 48)))], [], memMx (gM_ss s) (gM_ty s) ((gM_at s) + (nI 1)) (gM_ft s) (gM_mn s) (gM_bd s) (gM_no s) (gM_fu s) (gM_nw s) (gM_as s) (gM_pa s) (gM_tx s) (gM_od s))) rfl ?_
        refine mEv.mem memM_mk ?_
        obtain rfl := Option.some.inj h
        exact hk
def J_X3_number_106 (x3 : Int32) (x4 : Int32) (s : ModS) : Option (Int32 × ModS) := (F_X3_fails x3 s).bind (fun v13 => some ((x4, v13)))
set_option maxRecDepth 100000 in
theorem K_X3_number_106 {d : Nat} {x3 : Int32} {x4 : Int32} {s : ModS} {q : Int32 × ModS} (h : J_X3_number_106 x3 x4 s = some q) : mEv (d + 2) m_X3_number none (106, [], [some (.ref 0), none, none, some (.int x3), some (.int x4)], [], memM s) (some (Value.int q.1)) (memM q.2) := by
  unfold J_X3_number_106 at h
  refine mEv.stp 3 (S' := (108, _, [some (.ref 0), none, none, some (.int x3), some (.int x4)], [.int x3, .ref 0], memM s)) rfl ?_
  obtain ⟨v13, e14, h⟩ := bnd h
  refine mEv.callV (As := [.int x3]) (st := []) (h := 0) (r := none) (μ1 := memM v13) lk_X3_135 rfl rfl rfl rfl rfl (A_X3_fails (d := d + 1) e14) ?_
  refine mEv.stp 0 (S' := (111, [], [some (.ref 0), none, none, some (.int x3), some (.int x4)], [], memM v13)) rfl ?_
  obtain rfl := Option.some.inj h
  exact mEv.stp 2 (S' := (113, _, [some (.ref 0), none, none, some (.int x3), some (.int x4)], [.int x4], memM v13)) rfl (mEv.reti ⟨_, rfl, rfl⟩)
def F_X3_number (p1 : Int32) (p2 : Int32) (s : ModS) : Option (Int32 × ModS) := (F_X3_sign s).bind (fun v1 => (mWh (fun x => B_X3_number_13 p1 p2 (gM_at v1.2) x.1 x.2) fuel0 ((nI 0), v1.2)).bind (fun z10 => if (gM_at z10.2) = (gM_at v1.2) then (J_X3_number_106 (gM_at v1.2) z10.1 z10.2) else ((F_X3_in z10.1 p1 p2).bind (fun v15 => if ¬ v15 = (nI 0) then (some ((z10.1, z10.2))) else (J_X3_number_106 (gM_at v1.2) z10.1 z10.2)))))
set_option maxRecDepth 100000 in
theorem E_X3_number {d : Nat} {p1 : Int32} {p2 : Int32} {s : ModS} {q : Int32 × ModS} (h : F_X3_number p1 p2 s = some q) : mEv (d + 2) m_X3_number none (0, [], [some (.ref 0), some (.int p1), some (.int p2), none, none], [], memM s) (some (Value.int q.1)) (memM q.2) := by
  unfold F_X3_number at h
  refine mEv.stp 2 (S' := (1, _, [some (.ref 0), some (.int p1), some (.int p2), none, none], [.ref 0], memM s)) rfl ?_
  obtain ⟨v1, e2, h⟩ := bnd h
  refine mEv.callV (As := []) (st := []) (h := 0) (r := (some (.int v1.1))) (μ1 := memM v1.2) lk_X3_129 rfl rfl rfl rfl rfl (A_X3_sign (d := d + 1) e2) ?_
  refine mEv.stp 0 (S' := (4, _, [some (.ref 0), some (.int p1), some (.int p2), none, none], [.int v1.1], memM v1.2)) rfl ?_
  refine mEv.stp 6 (S' := (13, [], [some (.ref 0), some (.int p1), some (.int p2), some (.int (gM_at v1.2)), some (.int (nI 0))], [], memM v1.2)) rfl ?_
  obtain ⟨z10, e11, h⟩ := bnd h
  refine mWh_ind (b := (fun x => B_X3_number_13 p1 p2 (gM_at v1.2) x.1 x.2)) (P := fun x : Int32 × ModS => mEv (d + 2) m_X3_number none (13, [], [some (.ref 0), some (.int p1), some (.int p2), some (.int (gM_at v1.2)), some (.int x.1)], [], memM x.2) (some (Value.int q.1)) (memM q.2)) (K := fun z : Int32 × ModS => mEv (d + 2) m_X3_number none (88, [], [some (.ref 0), some (.int p1), some (.int p2), some (.int (gM_at v1.2)), some (.int z.1)], [], memM z.2) (some (Value.int q.1)) (memM q.2)) (fun x u hq hk => H_X3_number_13 (d := d) (x1 := p1) (x2 := p2) (x3 := (gM_at v1.2)) (x4 := x.1) (s := x.2) (q := u) (r0 := (some (Value.int q.1))) (mu0 := (memM q.2)) hq hk) fuel0 ((nI 0), v1.2) z10 e11 ?_
  refine mEv.stp 0 (S' := (88, [], [some (.ref 0), some (.int p1), some (.int p2), some (.int (gM_at v1.2)), some (.int z10.1)], [], memM z10.2)) rfl ?_
  refine mEv.br 5 (S1 := (106, [], [some (.ref 0), some (.int p1), some (.int p2), some (.int (gM_at v1.2)), some (.int z10.1)], [], memM z10.2)) (S2 := (96, _, [some (.ref 0), some (.int p1), some (.int p2), some (.int (gM_at v1.2)), some (.int z10.1)], [], memM z10.2)) rfl (fun c12 => ?_) (fun c12 => ?_)
  · have h := (if_pos c12).symm.trans h
    refine mEv.fg [1, 2] (z' := [some (.ref 0), none, none, some (.int (gM_at v1.2)), some (.int z10.1)]) rfl ?_
    exact K_X3_number_106 (d := d) h
  · have h := (if_neg c12).symm.trans h
    refine mEv.stp 3 (S' := (100, _, [some (.ref 0), some (.int p1), some (.int p2), some (.int (gM_at v1.2)), some (.int z10.1)], [.int p2, .int p1, .int z10.1], memM z10.2)) rfl ?_
    obtain ⟨v15, e16, h⟩ := bnd h
    refine mEv.callS (As := [.int z10.1, .int p1, .int p2]) (st := []) (r := (some (.int v15))) (μ1 := memM z10.2) lk_X3_36 rfl rfl rfl (A_X3_in (d := d + 1) e16) ?_
    refine mEv.stp 0 (S' := (103, _, [some (.ref 0), some (.int p1), some (.int p2), some (.int (gM_at v1.2)), some (.int z10.1)], [.int v15], memM z10.2)) rfl ?_
    refine mEv.br 1 (S1 := (111, [], [some (.ref 0), some (.int p1), some (.int p2), some (.int (gM_at v1.2)), some (.int z10.1)], [], memM z10.2)) (S2 := (106, [], [some (.ref 0), some (.int p1), some (.int p2), some (.int (gM_at v1.2)), some (.int z10.1)], [], memM z10.2)) rfl (fun c17 => ?_) (fun c17 => ?_)
    · have h := (if_pos c17).symm.trans h
      obtain rfl := Option.some.inj h
      exact mEv.stp 2 (S' := (113, _, [some (.ref 0), some (.int p1), some (.int p2), some (.int (gM_at v1.2)), some (.int z10.1)], [.int z10.1], memM z10.2)) rfl (mEv.reti ⟨_, rfl, rfl⟩)
    · have h := (if_neg c17).symm.trans h
      refine mEv.fg [1, 2] (z' := [some (.ref 0), none, none, some (.int (gM_at v1.2)), some (.int z10.1)]) rfl ?_
      exact K_X3_number_106 (d := d) h
theorem A_X3_number {d : Nat} {p1 : Int32} {p2 : Int32} {s : ModS} {q : Int32 × ModS} (h : F_X3_number p1 p2 s = some q) : mCall (d + 2) m_X3_number [.ref 0, .int p1, .int p2] (memM s) (some (Value.int q.1)) (memM q.2) := mCall.intro ok_X3_number pl_X3_number rfl (E_X3_number (d := d) h)
def J_X3_order_360  (s : ModS) : Option (ModS) := some ((mkM (gM_ss s) (gM_ty s) ((gM_at s) + (nI 1)) (gM_ft s) ((gM_mn s) + (nI 1)) (gM_bd s) (gM_no s) (gM_fu s) (gM_nw s) (gM_as s) (gM_pa s) (gM_tx s) (gM_od s)))
set_option maxRecDepth 100000 in
theorem K_X3_order_360 {d : Nat}  {s : ModS} {q : ModS} (h : J_X3_order_360 s = some q) : mEv (d + 3) m_X3_order none (360, [], [some (.ref 0), none, none, none], [], memM s) none (memM q) := by
  unfold J_X3_order_360 at h
  obtain rfl := Option.some.inj h
  exact mEv.tgt memM_mk (mEv.stp 13 (S' := (380, _, [some (.ref 0), none, none, none], [], memMx (gM_ss s) (gM_ty s) ((gM_at s) + (nI 1)) (gM_ft s) ((gM_mn s) + (nI 1)) (gM_bd s) (gM_no s) (gM_fu s) (gM_nw s) (gM_as s) (gM_pa s) (gM_tx s) (gM_od s))) rfl (mEv.retv rfl))
def J_X3_order_335  (s : ModS) : Option (ModS) := if ¬ (gM_ft s) = (-nI 1) then (J_X3_order_360 s) else ((F_X3_sign s).bind (fun v23 => if v23.1 = (nI 59) then (J_X3_order_360 v23.2) else ((F_X3_fails (gM_at v23.2) v23.2).bind (fun v26 => J_X3_order_360 v26))))
set_option maxRecDepth 100000 in
theorem K_X3_order_335 {d : Nat}  {s : ModS} {q : ModS} (h : J_X3_order_335 s = some q) : mEv (d + 3) m_X3_order none (335, [], [some (.ref 0), none, none, none], [], memM s) none (memM q) := by
  unfold J_X3_order_335 at h
  refine mEv.br 5 (S1 := (360, [], [some (.ref 0), none, none, none], [], memM s)) (S2 := (343, _, [some (.ref 0), none, none, none], [], memM s)) rfl (fun c22 => ?_) (fun c22 => ?_)
  · have h := (if_pos c22).symm.trans h
    exact K_X3_order_360 (d := d) h
  · have h := (if_neg c22).symm.trans h
    refine mEv.stp 1 (S' := (344, _, [some (.ref 0), none, none, none], [.ref 0], memM s)) rfl ?_
    obtain ⟨v23, e24, h⟩ := bnd h
    refine mEv.callV (As := []) (st := []) (h := 0) (r := (some (.int v23.1))) (μ1 := memM v23.2) lk_X3_129 rfl rfl rfl rfl rfl (A_X3_sign (d := d + 2) e24) ?_
    refine mEv.stp 0 (S' := (347, _, [some (.ref 0), none, none, none], [.int v23.1], memM v23.2)) rfl ?_
    refine mEv.br 2 (S1 := (360, [], [some (.ref 0), none, none, none], [], memM v23.2)) (S2 := (352, _, [some (.ref 0), none, none, none], [], memM v23.2)) rfl (fun c25 => ?_) (fun c25 => ?_)
    · have h := (if_pos c25).symm.trans h
      exact K_X3_order_360 (d := d) h
    · have h := (if_neg c25).symm.trans h
      refine mEv.stp 3 (S' := (357, _, [some (.ref 0), none, none, none], [.int (gM_at v23.2), .ref 0], memM v23.2)) rfl ?_
      obtain ⟨v26, e27, h⟩ := bnd h
      refine mEv.callV (As := [.int (gM_at v23.2)]) (st := []) (h := 0) (r := none) (μ1 := memM v26) lk_X3_135 rfl rfl rfl rfl rfl (A_X3_fails (d := d + 2) e27) ?_
      refine mEv.stp 0 (S' := (360, [], [some (.ref 0), none, none, none], [], memM v26)) rfl ?_
      exact K_X3_order_360 (d := d) h
def J_X3_order_229 (y0 : Int32) (y1 : Int32) (s : ModS) : Option (ModS) := gI y1 240 (J_X3_order_335 (mkM (gM_ss s) (gM_ty s) (gM_at s) (gM_ft s) (gM_mn s) (gM_bd s) (gM_no s) (gM_fu s) (gM_nw s) (gM_as s) (gM_pa s) (gM_tx s) (upd (gM_od s) (Int32.toNatClampNeg y1) y0)))
set_option maxRecDepth 100000 in
theorem K_X3_order_229 {d : Nat} {y0 : Int32} {y1 : Int32} {s : ModS} {q : ModS} (h : J_X3_order_229 y0 y1 s = some q) : mEv (d + 3) m_X3_order none (229, [], [some (.ref 0), none, none, none], [.int y0, .int y1, .ref 5], memM s) none (memM q) := by
  unfold J_X3_order_229 at h
  obtain ⟨g21, h⟩ := gI_some h
  refine mEv.gd 2 (S' := (230, _, [some (.ref 0), none, none, none], [], memMx (gM_ss s) (gM_ty s) (gM_at s) (gM_ft s) (gM_mn s) (gM_bd s) (gM_no s) (gM_fu s) (gM_nw s) (gM_as s) (gM_pa s) (gM_tx s) (upd (gM_od s) (Int32.toNatClampNeg y1) y0))) rfl g21 ?_
  refine mEv.stp 1 (S' := (335, [], [some (.ref 0), none, none, none], [], memMx (gM_ss s) (gM_ty s) (gM_at s) (gM_ft s) (gM_mn s) (gM_bd s) (gM_no s) (gM_fu s) (gM_nw s) (gM_as s) (gM_pa s) (gM_tx s) (upd (gM_od s) (Int32.toNatClampNeg y1) y0))) rfl ?_
  refine mEv.mem memM_mk ?_
  exact K_X3_order_335 (d := d) h
def J_X3_order_158 (x1 : Int32) (x3 : Int32) (s : ModS) : Option (ModS) := (F_X3_figure x3 (-nI 1) (mkM (gM_ss s) (gM_ty s) ((gM_at s) + (nI 1)) (gM_ft s) (gM_mn s) (gM_bd s) (gM_no s) (gM_fu s) (gM_nw s) (gM_as s) (gM_pa s) (gM_tx s) (gM_od s))).bind (fun v13 => gI (x1 + (nI 1)) 240 (gI (x1 + (nI 1)) 240 ((F_X3_figure x3 ((upd (gM_od v13.2) (Int32.toNatClampNeg (x1 + (nI 1))) v13.1) (Int32.toNatClampNeg (x1 + (nI 1)))) (mkM (gM_ss v13.2) (gM_ty v13.2) (gM_at v13.2) (gM_ft v13.2) (gM_mn v13.2) (gM_bd v13.2) (gM_no v13.2) (gM_fu v13.2) (gM_nw v13.2) (gM_as v13.2) (gM_pa v13.2) (gM_tx v13.2) (upd (gM_od v13.2) (Int32.toNatClampNeg (x1 + (nI 1))) v13.1))).bind (fun v17 => gI (x1 + (nI 2)) 240 (if ¬ (gM_ft v17.2) = (-nI 1) then (J_X3_order_229 (nI 0) (x1 + (nI 3)) (mkM (gM_ss v17.2) (gM_ty v17.2) (gM_at v17.2) (gM_ft v17.2) (gM_mn v17.2) (gM_bd v17.2) (gM_no v17.2) (gM_fu v17.2) (gM_nw v17.2) (gM_as v17.2) (gM_pa v17.2) (gM_tx v17.2) (upd (gM_od v17.2) (Int32.toNatClampNeg (x1 + (nI 2))) v17.1))) else ((F_X3_number (nI 0) (nI 30) (mkM (gM_ss v17.2) (gM_ty v17.2) (gM_at v17.2) (gM_ft v17.2) (gM_mn v17.2) (gM_bd v17.2) (gM_no v17.2) (gM_fu v17.2) (gM_nw v17.2) (gM_as v17.2) (gM_pa v17.2) (gM_tx v17.2) (upd (gM_od v17.2) (Int32.toNatClampNeg (x1 + (nI 2))) v17.1))).bind (fun v28 => J_X3_order_229 v28.1 (x1 + (nI 3)) v28.2)))))))
set_option maxRecDepth 100000 in
theorem K_X3_order_158 {d : Nat} {x1 : Int32} {x3 : Int32} {s : ModS} {q : ModS} (h : J_X3_order_158 x1 x3 s = some q) : mEv (d + 3) m_X3_order none (158, [], [some (.ref 0), some (.int x1), none, some (.int x3)], [], memM s) none (memM q) := by
  unfold J_X3_order_158 at h
  refine mEv.stp 15 (S' := (178, _, [some (.ref 0), some (.int x1), none, some (.int x3)], [.int (-nI 1), .int x3, .ref 0, .int (x1 + (nI 1)), .ref 5], memMx (gM_ss s) (gM_ty s) ((gM_at s) + (nI 1)) (gM_ft s) (gM_mn s) (gM_bd s) (gM_no s) (gM_fu s) (gM_nw s) (gM_as s) (gM_pa s) (gM_tx s) (gM_od s))) rfl ?_
  obtain ⟨v13, e14, h⟩ := bnd h
  refine mEv.callV (As := [.int x3, .int (-nI 1)]) (st := [.int (x1 + (nI 1)), .ref 5]) (h := 0) (r := (some (.int v13.1))) (μ1 := memM v13.2) lk_X3_141 rfl rfl rfl rfl rfl (mCall.cast memM_mk (A_X3_figure (d := d + 0) e14)) ?_
  refine mEv.stp 0 (S' := (181, _, [some (.ref 0), some (.int x1), none, some (.int x3)], [.int v13.1, .int (x1 + (nI 1)), .ref 5], memM v13.2)) rfl ?_
  obtain ⟨g15, h⟩ := gI_some h
  refine mEv.gd 1 (S' := (182, _, [some (.ref 0), some (.int x1), none, some (.int x3)], [], memMx (gM_ss v13.2) (gM_ty v13.2) (gM_at v13.2) (gM_ft v13.2) (gM_mn v13.2) (gM_bd v13.2) (gM_no v13.2) (gM_fu v13.2) (gM_nw v13.2) (gM_as v13.2) (gM_pa v13.2) (gM_tx v13.2) (upd (gM_od v13.2) (Int32.toNatClampNeg (x1 + (nI 1))) v13.1))) rfl g15 ?_
  obtain ⟨g16, h⟩ := gI_some h
  refine mEv.gd 13 (S' := (199, _, [some (.ref 0), some (.int x1), none, some (.int x3)], [.int ((upd (gM_od v13.2) (Int32.toNatClampNeg (x1 + (nI 1))) v13.1) (Int32.toNatClampNeg (x1 + (nI 1)))), .int x3, .ref 0, .int (x1 + (nI 2)), .ref 5], memMx (gM_ss v13.2) (gM_ty v13.2) (gM_at v13.2) (gM_ft v13.2) (gM_mn v13.2) (gM_bd v13.2) (gM_no v13.2) (gM_fu v13.2) (gM_nw v13.2) (gM_as v13.2) (gM_pa v13.2) (gM_tx v13.2) (upd (gM_od v13.2) (Int32.toNatClampNeg (x1 + (nI 1))) v13.1))) rfl g16 ?_
  obtain ⟨v17, e18, h⟩ := bnd h
  refine mEv.callV (As := [.int x3, .int ((upd (gM_od v13.2) (Int32.toNatClampNeg (x1 + (nI 1))) v13.1) (Int32.toNatClampNeg (x1 + (nI 1))))]) (st := [.int (x1 + (nI 2)), .ref 5]) (h := 0) (r := (some (.int v17.1))) (μ1 := memM v17.2) lk_X3_141 rfl rfl rfl rfl rfl (mCall.cast memM_mk (A_X3_figure (d := d + 0) e18)) ?_
  refine mEv.stp 0 (S' := (202, _, [some (.ref 0), some (.int x1), none, some (.int x3)], [.int v17.1, .int (x1 + (nI 2)), .ref 5], memM v17.2)) rfl ?_
  obtain ⟨g19, h⟩ := gI_some h
  refine mEv.gd 1 (S' := (203, _, [some (.ref 0), some (.int x1), none, some (.int x3)], [], memMx (gM_ss v17.2) (gM_ty v17.2) (gM_at v17.2) (gM_ft v17.2) (gM_mn v17.2) (gM_bd v17.2) (gM_no v17.2) (gM_fu v17.2) (gM_nw v17.2) (gM_as v17.2) (gM_pa v17.2) (gM_tx v17.2) (upd (gM_od v17.2) (Int32.toNatClampNeg (x1 + (nI 2))) v17.1))) rfl g19 ?_
  refine mEv.br 9 (S1 := (228, [], [some (.ref 0), some (.int x1), none, some (.int x3)], [.int (x1 + (nI 3)), .ref 5], memMx (gM_ss v17.2) (gM_ty v17.2) (gM_at v17.2) (gM_ft v17.2) (gM_mn v17.2) (gM_bd v17.2) (gM_no v17.2) (gM_fu v17.2) (gM_nw v17.2) (gM_as v17.2) (gM_pa v17.2) (gM_tx v17.2) (upd (gM_od v17.2) (Int32.toNatClampNeg (x1 + (nI 2))) v17.1))) (S2 := (218, _, [some (.ref 0), some (.int x1), none, some (.int x3)], [.int (x1 + (nI 3)), .ref 5], memMx (gM_ss v17.2) (gM_ty v17.2) (gM_at v17.2) (gM_ft v17.2) (gM_mn v17.2) (gM_bd v17.2) (gM_no v17.2) (gM_fu v17.2) (gM_nw v17.2) (gM_as v17.2) (gM_pa v17.2) (gM_tx v17.2) (upd (gM_od v17.2) (Int32.toNatClampNeg (x1 + (nI 2))) v17.1))) rfl (fun c20 => ?_) (fun c20 => ?_)
  · have h := (if_pos c20).symm.trans h
    refine mEv.stp 2 (S' := (229, [], [some (.ref 0), some (.int x1), none, some (.int x3)], [.int (nI 0), .int (x1 + (nI 3)), .ref 5], memMx (gM_ss v17.2) (gM_ty v17.2) (gM_at v17.2) (gM_ft v17.2) (gM_mn v17.2) (gM_bd v17.2) (gM_no v17.2) (gM_fu v17.2) (gM_nw v17.2) (gM_as v17.2) (gM_pa v17.2) (gM_tx v17.2) (upd (gM_od v17.2) (Int32.toNatClampNeg (x1 + (nI 2))) v17.1))) rfl ?_
    refine mEv.fg [1, 3] (z' := [some (.ref 0), none, none, none]) rfl ?_
    refine mEv.mem memM_mk ?_
    exact K_X3_order_229 (d := d) h
  · have h := (if_neg c20).symm.trans h
    refine mEv.stp 3 (S' := (222, _, [some (.ref 0), some (.int x1), none, some (.int x3)], [.int (nI 30), .int (nI 0), .ref 0, .int (x1 + (nI 3)), .ref 5], memMx (gM_ss v17.2) (gM_ty v17.2) (gM_at v17.2) (gM_ft v17.2) (gM_mn v17.2) (gM_bd v17.2) (gM_no v17.2) (gM_fu v17.2) (gM_nw v17.2) (gM_as v17.2) (gM_pa v17.2) (gM_tx v17.2) (upd (gM_od v17.2) (Int32.toNatClampNeg (x1 + (nI 2))) v17.1))) rfl ?_
    obtain ⟨v28, e29, h⟩ := bnd h
    refine mEv.callV (As := [.int (nI 0), .int (nI 30)]) (st := [.int (x1 + (nI 3)), .ref 5]) (h := 0) (r := (some (.int v28.1))) (μ1 := memM v28.2) lk_X3_144 rfl rfl rfl rfl rfl (mCall.cast memM_mk (A_X3_number (d := d + 0) e29)) ?_
    refine mEv.stp 0 (S' := (225, _, [some (.ref 0), some (.int x1), none, some (.int x3)], [.int v28.1, .int (x1 + (nI 3)), .ref 5], memM v28.2)) rfl ?_
    refine mEv.stp 1 (S' := (229, [], [some (.ref 0), some (.int x1), none, some (.int x3)], [.int v28.1, .int (x1 + (nI 3)), .ref 5], memM v28.2)) rfl ?_
    refine mEv.fg [1, 3] (z' := [some (.ref 0), none, none, none]) rfl ?_
    exact K_X3_order_229 (d := d) h
def J_X3_order_290 (y0 : Int32) (y1 : Int32) (s : ModS) : Option (ModS) := gI y1 240 (J_X3_order_335 (mkM (gM_ss s) (gM_ty s) (gM_at s) (gM_ft s) (gM_mn s) (gM_bd s) (gM_no s) (gM_fu s) (gM_nw s) (gM_as s) (gM_pa s) (gM_tx s) (upd (gM_od s) (Int32.toNatClampNeg y1) y0)))
set_option maxRecDepth 100000 in
theorem K_X3_order_290 {d : Nat} {y0 : Int32} {y1 : Int32} {s : ModS} {q : ModS} (h : J_X3_order_290 y0 y1 s = some q) : mEv (d + 3) m_X3_order none (290, [], [some (.ref 0), none, none, none], [.int y0, .int y1, .ref 5], memM s) none (memM q) := by
  unfold J_X3_order_290 at h
  obtain ⟨g42, h⟩ := gI_some h
  refine mEv.gd 2 (S' := (291, _, [some (.ref 0), none, none, none], [], memMx (gM_ss s) (gM_ty s) (gM_at s) (gM_ft s) (gM_mn s) (gM_bd s) (gM_no s) (gM_fu s) (gM_nw s) (gM_as s) (gM_pa s) (gM_tx s) (upd (gM_od s) (Int32.toNatClampNeg y1) y0))) rfl g42 ?_
  refine mEv.stp 1 (S' := (335, [], [some (.ref 0), none, none, none], [], memMx (gM_ss s) (gM_ty s) (gM_at s) (gM_ft s) (gM_mn s) (gM_bd s) (gM_no s) (gM_fu s) (gM_nw s) (gM_as s) (gM_pa s) (gM_tx s) (upd (gM_od s) (Int32.toNatClampNeg y1) y0))) rfl ?_
  refine mEv.mem memM_mk ?_
  exact K_X3_order_335 (d := d) h
def J_X3_order_108 (y0 : Int32) (y1 : Int32) (s : ModS) : Option (ModS) := gI y1 240 (J_X3_order_335 (mkM (gM_ss s) (gM_ty s) (gM_at s) (gM_ft s) (gM_mn s) (gM_bd s) (gM_no s) (gM_fu s) (gM_nw s) (gM_as s) (gM_pa s) (gM_tx s) (upd (gM_od s) (Int32.toNatClampNeg y1) y0)))
set_option maxRecDepth 100000 in
theorem K_X3_order_108 {d : Nat} {y0 : Int32} {y1 : Int32} {s : ModS} {q : ModS} (h : J_X3_order_108 y0 y1 s = some q) : mEv (d + 3) m_X3_order none (108, [], [some (.ref 0), none, none, none], [.int y0, .int y1, .ref 5], memM s) none (memM q) := by
  unfold J_X3_order_108 at h
  obtain ⟨g56, h⟩ := gI_some h
  refine mEv.gd 2 (S' := (109, _, [some (.ref 0), none, none, none], [], memMx (gM_ss s) (gM_ty s) (gM_at s) (gM_ft s) (gM_mn s) (gM_bd s) (gM_no s) (gM_fu s) (gM_nw s) (gM_as s) (gM_pa s) (gM_tx s) (upd (gM_od s) (Int32.toNatClampNeg y1) y0))) rfl g56 ?_
  refine mEv.stp 1 (S' := (335, [], [some (.ref 0), none, none, none], [], memMx (gM_ss s) (gM_ty s) (gM_at s) (gM_ft s) (gM_mn s) (gM_bd s) (gM_no s) (gM_fu s) (gM_nw s) (gM_as s) (gM_pa s) (gM_tx s) (upd (gM_od s) (Int32.toNatClampNeg y1) y0))) rfl ?_
  refine mEv.mem memM_mk ?_
  exact K_X3_order_335 (d := d) h
def J_X3_order_39 (x1 : Int32) (x2 : Int32) (x3 : Int32) (y0 : Int32) (y1 : Int32) (s : ModS) : Option (ModS) := gI y1 240 ((F_X3_isFigure x2).bind (fun v8 => if v8 = (nI 0) then (if ¬ x2 = (nI 43) then (if x2 = (nI 119) then (J_X3_order_158 x1 x3 (mkM (gM_ss s) (gM_ty s) (gM_at s) (gM_ft s) (gM_mn s) (gM_bd s) (gM_no s) (gM_fu s) (gM_nw s) (gM_as s) (gM_pa s) (gM_tx s) (upd (gM_od s) (Int32.toNatClampNeg y1) y0))) else (if ¬ x2 = (nI 114) then (if ¬ x2 = (nI 112) then (if ¬ x2 = (nI 120) then ((F_X3_fails (gM_at s) (mkM (gM_ss s) (gM_ty s) (gM_at s) (gM_ft s) (gM_mn s) (gM_bd s) (gM_no s) (gM_fu s) (gM_nw s) (gM_as s) (gM_pa s) (gM_tx s) (upd (gM_od s) (Int32.toNatClampNeg y1) y0))).bind (fun v33 => J_X3_order_335 v33)) else ((F_X3_figure (nI 1) (-nI 1) (mkM (gM_ss s) (gM_ty s) ((gM_at s) + (nI 1)) (gM_ft s) (gM_mn s) (gM_bd s) (gM_no s) (gM_fu s) (gM_nw s) (gM_as s) (gM_pa s) (gM_tx s) (upd (gM_od s) (Int32.toNatClampNeg y1) y0))).bind (fun v35 => gI (x1 + (nI 1)) 240 (J_X3_order_335 (mkM (gM_ss v35.2) (gM_ty v35.2) (gM_at v35.2) (gM_ft v35.2) (gM_mn v35.2) (gM_bd v35.2) (gM_no v35.2) (gM_fu v35.2) (gM_nw v35.2) (gM_as v35.2) (gM_pa v35.2) (gM_tx v35.2) (upd (gM_od v35.2) (Int32.toNatClampNeg (x1 + (nI 1))) v35.1)))))) else ((F_X3_number (nI 0) (nI 23) (mkM (gM_ss s) (gM_ty s) ((gM_at s) + (nI 1)) (gM_ft s) (gM_mn s) (gM_bd s) (gM_no s) (gM_fu s) (gM_nw s) (gM_as s) (gM_pa s) (gM_tx s) (upd (gM_od s) (Int32.toNatClampNeg y1) y0))).bind (fun v38 => gI (x1 + (nI 1)) 240 (if ¬ (gM_ft v38.2) = (-nI 1) then (J_X3_order_290 (nI 0) (x1 + (nI 2)) (mkM (gM_ss v38.2) (gM_ty v38.2) (gM_at v38.2) (gM_ft v38.2) (gM_mn v38.2) (gM_bd v38.2) (gM_no v38.2) (gM_fu v38.2) (gM_nw v38.2) (gM_as v38.2) (gM_pa v38.2) (gM_tx v38.2) (upd (gM_od v38.2) (Int32.toNatClampNeg (x1 + (nI 1))) v38.1))) else ((F_X3_number (nI 0) (nI 9) (mkM (gM_ss v38.2) (gM_ty v38.2) (gM_at v38.2) (gM_ft v38.2) (gM_mn v38.2) (gM_bd v38.2) (gM_no v38.2) (gM_fu v38.2) (gM_nw v38.2) (gM_as v38.2) (gM_pa v38.2) (gM_tx v38.2) (upd (gM_od v38.2) (Int32.toNatClampNeg (x1 + (nI 1))) v38.1))).bind (fun v43 => J_X3_order_290 v43.1 (x1 + (nI 2)) v43.2)))))) else (J_X3_order_158 x1 x3 (mkM (gM_ss s) (gM_ty s) (gM_at s) (gM_ft s) (gM_mn s) (gM_bd s) (gM_no s) (gM_fu s) (gM_nw s) (gM_as s) (gM_pa s) (gM_tx s) (upd (gM_od s) (Int32.toNatClampNeg y1) y0))))) else ((F_X3_number (nI 0) (nI 99) (mkM (gM_ss s) (gM_ty s) ((gM_at s) + (nI 1)) (gM_ft s) (gM_mn s) (gM_bd s) (gM_no s) (gM_fu s) (gM_nw s) (gM_as s) (gM_pa s) (gM_tx s) (upd (gM_od s) (Int32.toNatClampNeg y1) y0))).bind (fun v45 => gI (x1 + (nI 1)) 240 (J_X3_order_335 (mkM (gM_ss v45.2) (gM_ty v45.2) (gM_at v45.2) (gM_ft v45.2) (gM_mn v45.2) (gM_bd v45.2) (gM_no v45.2) (gM_fu v45.2) (gM_nw v45.2) (gM_as v45.2) (gM_pa v45.2) (gM_tx v45.2) (upd (gM_od v45.2) (Int32.toNatClampNeg (x1 + (nI 1))) v45.1)))))) else ((F_X3_figure x3 (-nI 1) (mkM (gM_ss s) (gM_ty s) (gM_at s) (gM_ft s) (gM_mn s) (gM_bd s) (gM_no s) (gM_fu s) (gM_nw s) (gM_as s) (gM_pa s) (gM_tx s) (upd (gM_od s) (Int32.toNatClampNeg y1) y0))).bind (fun v48 => gI (x1 + (nI 1)) 240 (gI (x1 + (nI 1)) 240 ((F_X3_figure x3 ((upd (gM_od v48.2) (Int32.toNatClampNeg (x1 + (nI 1))) v48.1) (Int32.toNatClampNeg (x1 + (nI 1)))) (mkM (gM_ss v48.2) (gM_ty v48.2) (gM_at v48.2) (gM_ft v48.2) (gM_mn v48.2) (gM_bd v48.2) (gM_no v48.2) (gM_fu v48.2) (gM_nw v48.2) (gM_as v48.2) (gM_pa v48.2) (gM_tx v48.2) (upd (gM_od v48.2) (Int32.toNatClampNeg (x1 + (nI 1))) v48.1))).bind (fun v52 => gI (x1 + (nI 2)) 240 (if ¬ (gM_ft v52.2) = (-nI 1) then (J_X3_order_108 (nI 0) (x1 + (nI 3)) (mkM (gM_ss v52.2) (gM_ty v52.2) (gM_at v52.2) (gM_ft v52.2) (gM_mn v52.2) (gM_bd v52.2) (gM_no v52.2) (gM_fu v52.2) (gM_nw v52.2) (gM_as v52.2) (gM_pa v52.2) (gM_tx v52.2) (upd (gM_od v52.2) (Int32.toNatClampNeg (x1 + (nI 2))) v52.1))) else ((F_X3_number (nI 1) (nI 24) (mkM (gM_ss v52.2) (gM_ty v52.2) (gM_at v52.2) (gM_ft v52.2) (gM_mn v52.2) (gM_bd v52.2) (gM_no v52.2) (gM_fu v52.2) (gM_nw v52.2) (gM_as v52.2) (gM_pa v52.2) (gM_tx v52.2) (upd (gM_od v52.2) (Int32.toNatClampNeg (x1 + (nI 2))) v52.1))).bind (fun v57 => J_X3_order_108 v57.1 (x1 + (nI 3)) v57.2))))))))))
set_option maxRecDepth 100000 in
theorem K_X3_order_39 {d : Nat} {x1 : Int32} {x2 : Int32} {x3 : Int32} {y0 : Int32} {y1 : Int32} {s : ModS} {q : ModS} (h : J_X3_order_39 x1 x2 x3 y0 y1 s = some q) : mEv (d + 3) m_X3_order none (39, [], [some (.ref 0), some (.int x1), some (.int x2), some (.int x3)], [.int y0, .int y1, .ref 5], memM s) none (memM q) := by
  unfold J_X3_order_39 at h
  obtain ⟨g7, h⟩ := gI_some h
  refine mEv.gd 2 (S' := (40, _, [some (.ref 0), some (.int x1), some (.int x2), some (.int x3)], [], memMx (gM_ss s) (gM_ty s) (gM_at s) (gM_ft s) (gM_mn s) (gM_bd s) (gM_no s) (gM_fu s) (gM_nw s) (gM_as s) (gM_pa s) (gM_tx s) (upd (gM_od s) (Int32.toNatClampNeg y1) y0))) rfl g7 ?_
  refine mEv.stp 1 (S' := (41, _, [some (.ref 0), some (.int x1), some (.int x2), some (.int x3)], [.int x2], memMx (gM_ss s) (gM_ty s) (gM_at s) (gM_ft s) (gM_mn s) (gM_bd s) (gM_no s) (gM_fu s) (gM_nw s) (gM_as s) (gM_pa s) (gM_tx s) (upd (gM_od s) (Int32.toNatClampNeg y1) y0))) rfl ?_
  obtain ⟨v8, e9, h⟩ := bnd h
  refine mEv.callS (As := [.int x2]) (st := []) (r := (some (.int v8))) (μ1 := memMx (gM_ss s) (gM_ty s) (gM_at s) (gM_ft s) (gM_mn s) (gM_bd s) (gM_no s) (gM_fu s) (gM_nw s) (gM_as s) (gM_pa s) (gM_tx s) (upd (gM_od s) (Int32.toNatClampNeg y1) y0)) lk_X3_132 rfl rfl rfl (A_X3_isFigure (d := d + 1) e9) ?_
  refine mEv.stp 0 (S' := (44, _, [some (.ref 0), some (.int x1), some (.int x2), some (.int x3)], [.int v8], memMx (gM_ss s) (gM_ty s) (gM_at s) (gM_ft s) (gM_mn s) (gM_bd s) (gM_no s) (gM_fu s) (gM_nw s) (gM_as s) (gM_pa s) (gM_tx s) (upd (gM_od s) (Int32.toNatClampNeg y1) y0))) rfl ?_
  refine mEv.br 1 (S1 := (112, [], [some (.ref 0), some (.int x1), some (.int x2), some (.int x3)], [], memMx (gM_ss s) (gM_ty s) (gM_at s) (gM_ft s) (gM_mn s) (gM_bd s) (gM_no s) (gM_fu s) (gM_nw s) (gM_as s) (gM_pa s) (gM_tx s) (upd (gM_od s) (Int32.toNatClampNeg y1) y0))) (S2 := (47, _, [some (.ref 0), some (.int x1), some (.int x2), some (.int x3)], [], memMx (gM_ss s) (gM_ty s) (gM_at s) (gM_ft s) (gM_mn s) (gM_bd s) (gM_no s) (gM_fu s) (gM_nw s) (gM_as s) (gM_pa s) (gM_tx s) (upd (gM_od s) (Int32.toNatClampNeg y1) y0))) rfl (fun c10 => ?_) (fun c10 => ?_)
  · have h := (if_pos c10).symm.trans h
    refine mEv.br 4 (S1 := (146, [], [some (.ref 0), some (.int x1), some (.int x2), some (.int x3)], [], memMx (gM_ss s) (gM_ty s) (gM_at s) (gM_ft s) (gM_mn s) (gM_bd s) (gM_no s) (gM_fu s) (gM_nw s) (gM_as s) (gM_pa s) (gM_tx s) (upd (gM_od s) (Int32.toNatClampNeg y1) y0))) (S2 := (118, _, [some (.ref 0), some (.int x1), some (.int x2), some (.int x3)], [], memMx (gM_ss s) (gM_ty s) (gM_at s) (gM_ft s) (gM_mn s) (gM_bd s) (gM_no s) (gM_fu s) (gM_nw s) (gM_as s) (gM_pa s) (gM_tx s) (upd (gM_od s) (Int32.toNatClampNeg y1) y0))) rfl (fun c11 => ?_) (fun c11 => ?_)
    · have h := (if_pos c11).symm.trans h
      refine mEv.br 4 (S1 := (158, [], [some (.ref 0), some (.int x1), some (.int x2), some (.int x3)], [], memMx (gM_ss s) (gM_ty s) (gM_at s) (gM_ft s) (gM_mn s) (gM_bd s) (gM_no s) (gM_fu s) (gM_nw s) (gM_as s) (gM_pa s) (gM_tx s) (upd (gM_od s) (Int32.toNatClampNeg y1) y0))) (S2 := (152, _, [some (.ref 0), some (.int x1), some (.int x2), some (.int x3)], [], memMx (gM_ss s) (gM_ty s) (gM_at s) (gM_ft s) (gM_mn s) (gM_bd s) (gM_no s) (gM_fu s) (gM_nw s) (gM_as s) (gM_pa s) (gM_tx s) (upd (gM_od s) (Int32.toNatClampNeg y1) y0))) rfl (fun c12 => ?_) (fun c12 => ?_)
      · have h := (if_pos c12).symm.trans h
        refine mEv.fg [2] (z' := [some (.ref 0), some (.int x1), none, some (.int x3)]) rfl ?_
        refine mEv.mem memM_mk ?_
        exact K_X3_order_158 (d := d) h
      · have h := (if_neg c12).symm.trans h
        refine mEv.br 3 (S1 := (233, [], [some (.ref 0), some (.int x1), some (.int x2), some (.int x3)], [], memMx (gM_ss s) (gM_ty s) (gM_at s) (gM_ft s) (gM_mn s) (gM_bd s) (gM_no s) (gM_fu s) (gM_nw s) (gM_as s) (gM_pa s) (gM_tx s) (upd (gM_od s) (Int32.toNatClampNeg y1) y0))) (S2 := (158, [], [some (.ref 0), some (.int x1), some (.int x2), some (.int x3)], [], memMx (gM_ss s) (gM_ty s) (gM_at s) (gM_ft s) (gM_mn s) (gM_bd s) (gM_no s) (gM_fu s) (gM_nw s) (gM_as s) (gM_pa s) (gM_tx s) (upd (gM_od s) (Int32.toNatClampNeg y1) y0))) rfl (fun c30 => ?_) (fun c30 => ?_)
        · have h := (if_pos c30).symm.trans h
          refine mEv.br 4 (S1 := (294, [], [some (.ref 0), some (.int x1), some (.int x2), some (.int x3)], [], memMx (gM_ss s) (gM_ty s) (gM_at s) (gM_ft s) (gM_mn s) (gM_bd s) (gM_no s) (gM_fu s) (gM_nw s) (gM_as s) (gM_pa s) (gM_tx s) (upd (gM_od s) (Int32.toNatClampNeg y1) y0))) (S2 := (239, _, [some (.ref 0), some (.int x1), some (.int x2), some (.int x3)], [], memMx (gM_ss s) (gM_ty s) (gM_at s) (gM_ft s) (gM_mn s) (gM_bd s) (gM_no s) (gM_fu s) (gM_nw s) (gM_as s) (gM_pa s) (gM_tx s) (upd (gM_od s) (Int32.toNatClampNeg y1) y0))) rfl (fun c31 => ?_) (fun c31 => ?_)
          · have h := (if_pos c31).symm.trans h
            refine mEv.br 4 (S1 := (327, [], [some (.ref 0), some (.int x1), some (.int x2), some (.int x3)], [], memMx (gM_ss s) (gM_ty s) (gM_at s) (gM_ft s) (gM_mn s) (gM_bd s) (gM_no s) (gM_fu s) (gM_nw s) (gM_as s) (gM_pa s) (gM_tx s) (upd (gM_od s) (Int32.toNatClampNeg y1) y0))) (S2 := (300, _, [some (.ref 0), some (.int x1), some (.int x2), some (.int x3)], [], memMx (gM_ss s) (gM_ty s) (gM_at s) (gM_ft s) (gM_mn s) (gM_bd s) (gM_no s) (gM_fu s) (gM_nw s) (gM_as s) (gM_pa s) (gM_tx s) (upd (gM_od s) (Int32.toNatClampNeg y1) y0))) rfl (fun c32 => ?_) (fun c32 => ?_)
            · have h := (if_pos c32).symm.trans h
              refine mEv.stp 4 (S' := (332, _, [some (.ref 0), some (.int x1), some (.int x2), some (.int x3)], [.int (gM_at s), .ref 0], memMx (gM_ss s) (gM_ty s) (gM_at s) (gM_ft s) (gM_mn s) (gM_bd s) (gM_no s) (gM_fu s) (gM_nw s) (gM_as s) (gM_pa s) (gM_tx s) (upd (gM_od s) (Int32.toNatClampNeg y1) y0))) rfl ?_
              obtain ⟨v33, e34, h⟩ := bnd h
              refine mEv.callV (As := [.int (gM_at s)]) (st := []) (h := 0) (r := none) (μ1 := memM v33) lk_X3_135 rfl rfl rfl rfl rfl (mCall.cast memM_mk (A_X3_fails (d := d + 2) e34)) ?_
              refine mEv.stp 0 (S' := (335, [], [some (.ref 0), some (.int x1), some (.int x2), some (.int x3)], [], memM v33)) rfl ?_
              refine mEv.fg [1, 2, 3] (z' := [some (.ref 0), none, none, none]) rfl ?_
              exact K_X3_order_335 (d := d) h
            · have h := (if_neg c32).symm.trans h
              refine mEv.stp 14 (S' := (320, _, [some (.ref 0), some (.int x1), some (.int x2), some (.int x3)], [.int (-nI 1), .int (nI 1), .ref 0, .int (x1 + (nI 1)), .ref 5], memMx (gM_ss s) (gM_ty s) ((gM_at s) + (nI 1)) (gM_ft s) (gM_mn s) (gM_bd s) (gM_no s) (gM_fu s) (gM_nw s) (gM_as s) (gM_pa s) (gM_tx s) (upd (gM_od s) (Int32.toNatClampNeg y1) y0))) rfl ?_
              obtain ⟨v35, e36, h⟩ := bnd h
              refine mEv.callV (As := [.int (nI 1), .int (-nI 1)]) (st := [.int (x1 + (nI 1)), .ref 5]) (h := 0) (r := (some (.int v35.1))) (μ1 := memM v35.2) lk_X3_141 rfl rfl rfl rfl rfl (mCall.cast memM_mk (A_X3_figure (d := d + 0) e36)) ?_
              refine mEv.stp 0 (S' := (323, _, [some (.ref 0), some (.int x1), some (.int x2), some (.int x3)], [.int v35.1, .int (x1 + (nI 1)), .ref 5], memM v35.2)) rfl ?_
              obtain ⟨g37, h⟩ := gI_some h
              refine mEv.gd 1 (S' := (324, _, [some (.ref 0), some (.int x1), some (.int x2), some (.int x3)], [], memMx (gM_ss v35.2) (gM_ty v35.2) (gM_at v35.2) (gM_ft v35.2) (gM_mn v35.2) (gM_bd v35.2) (gM_no v35.2) (gM_fu v35.2) (gM_nw v35.2) (gM_as v35.2) (gM_pa v35.2) (gM_tx v35.2) (upd (gM_od v35.2) (Int32.toNatClampNeg (x1 + (nI 1))) v35.1))) rfl g37 ?_
              refine mEv.stp 1 (S' := (335, [], [some (.ref 0), some (.int x1), some (.int x2), some (.int x3)], [], memMx (gM_ss v35.2) (gM_ty v35.2) (gM_at v35.2) (gM_ft v35.2) (gM_mn v35.2) (gM_bd v35.2) (gM_no v35.2) (gM_fu v35.2) (gM_nw v35.2) (gM_as v35.2) (gM_pa v35.2) (gM_tx v35.2) (upd (gM_od v35.2) (Int32.toNatClampNeg (x1 + (nI 1))) v35.1))) rfl ?_
              refine mEv.fg [1, 2, 3] (z' := [some (.ref 0), none, none, none]) rfl ?_
              refine mEv.mem memM_mk ?_
              exact K_X3_order_335 (d := d) h
          · have h := (if_neg c31).symm.trans h
            refine mEv.stp 14 (S' := (260, _, [some (.ref 0), some (.int x1), some (.int x2), some (.int x3)], [.int (nI 23), .int (nI 0), .ref 0, .int (x1 + (nI 1)), .ref 5], memMx (gM_ss s) (gM_ty s) ((gM_at s) + (nI 1)) (gM_ft s) (gM_mn s) (gM_bd s) (gM_no s) (gM_fu s) (gM_nw s) (gM_as s) (gM_pa s) (gM_tx s) (upd (gM_od s) (Int32.toNatClampNeg y1) y0))) rfl ?_
            obtain ⟨v38, e39, h⟩ := bnd h
            refine mEv.callV (As := [.int (nI 0), .int (nI 23)]) (st := [.int (x1 + (nI 1)), .ref 5]) (h := 0) (r := (some (.int v38.1))) (μ1 := memM v38.2) lk_X3_144 rfl rfl rfl rfl rfl (mCall.cast memM_mk (A_X3_number (d := d + 0) e39)) ?_
            refine mEv.stp 0 (S' := (263, _, [some (.ref 0), some (.int x1), some (.int x2), some (.int x3)], [.int v38.1, .int (x1 + (nI 1)), .ref 5], memM v38.2)) rfl ?_
            obtain ⟨g40, h⟩ := gI_some h
            refine mEv.gd 1 (S' := (264, _, [some (.ref 0), some (.int x1), some (.int x2), some (.int x3)], [], memMx (gM_ss v38.2) (gM_ty v38.2) (gM_at v38.2) (gM_ft v38.2) (gM_mn v38.2) (gM_bd v38.2) (gM_no v38.2) (gM_fu v38.2) (gM_nw v38.2) (gM_as v38.2) (gM_pa v38.2) (gM_tx v38.2) (upd (gM_od v38.2) (Int32.toNatClampNeg (x1 + (nI 1))) v38.1))) rfl g40 ?_
            refine mEv.br 9 (S1 := (289, [], [some (.ref 0), some (.int x1), some (.int x2), some (.int x3)], [.int (x1 + (nI 2)), .ref 5], memMx (gM_ss v38.2) (gM_ty v38.2) (gM_at v38.2) (gM_ft v38.2) (gM_mn v38.2) (gM_bd v38.2) (gM_no v38.2) (gM_fu v38.2) (gM_nw v38.2) (gM_as v38.2) (gM_pa v38.2) (gM_tx v38.2) (upd (gM_od v38.2) (Int32.toNatClampNeg (x1 + (nI 1))) v38.1))) (S2 := (279, _, [some (.ref 0), some (.int x1), some (.int x2), some (.int x3)], [.int (x1 + (nI 2)), .ref 5], memMx (gM_ss v38.2) (gM_ty v38.2) (gM_at v38.2) (gM_ft v38.2) (gM_mn v38.2) (gM_bd v38.2) (gM_no v38.2) (gM_fu v38.2) (gM_nw v38.2) (gM_as v38.2) (gM_pa v38.2) (gM_tx v38.2) (upd (gM_od v38.2) (Int32.toNatClampNeg (x1 + (nI 1))) v38.1))) rfl (fun c41 => ?_) (fun c41 => ?_)
            · have h := (if_pos c41).symm.trans h
              refine mEv.stp 2 (S' := (290, [], [some (.ref 0), some (.int x1), some (.int x2), some (.int x3)], [.int (nI 0), .int (x1 + (nI 2)), .ref 5], memMx (gM_ss v38.2) (gM_ty v38.2) (gM_at v38.2) (gM_ft v38.2) (gM_mn v38.2) (gM_bd v38.2) (gM_no v38.2) (gM_fu v38.2) (gM_nw v38.2) (gM_as v38.2) (gM_pa v38.2) (gM_tx v38.2) (upd (gM_od v38.2) (Int32.toNatClampNeg (x1 + (nI 1))) v38.1))) rfl ?_
              refine mEv.fg [1, 2, 3] (z' := [some (.ref 0), none, none, none]) rfl ?_
              refine mEv.mem memM_mk ?_
              exact K_X3_order_290 (d := d) h
            · have h := (if_neg c41).symm.trans h
              refine mEv.stp 3 (S' := (283, _, [some (.ref 0), some (.int x1), some (.int x2), some (.int x3)], [.int (nI 9), .int (nI 0), .ref 0, .int (x1 + (nI 2)), .ref 5], memMx (gM_ss v38.2) (gM_ty v38.2) (gM_at v38.2) (gM_ft v38.2) (gM_mn v38.2) (gM_bd v38.2) (gM_no v38.2) (gM_fu v38.2) (gM_nw v38.2) (gM_as v38.2) (gM_pa v38.2) (gM_tx v38.2) (upd (gM_od v38.2) (Int32.toNatClampNeg (x1 + (nI 1))) v38.1))) rfl ?_
              obtain ⟨v43, e44, h⟩ := bnd h
              refine mEv.callV (As := [.int (nI 0), .int (nI 9)]) (st := [.int (x1 + (nI 2)), .ref 5]) (h := 0) (r := (some (.int v43.1))) (μ1 := memM v43.2) lk_X3_144 rfl rfl rfl rfl rfl (mCall.cast memM_mk (A_X3_number (d := d + 0) e44)) ?_
              refine mEv.stp 0 (S' := (286, _, [some (.ref 0), some (.int x1), some (.int x2), some (.int x3)], [.int v43.1, .int (x1 + (nI 2)), .ref 5], memM v43.2)) rfl ?_
              refine mEv.stp 1 (S' := (290, [], [some (.ref 0), some (.int x1), some (.int x2), some (.int x3)], [.int v43.1, .int (x1 + (nI 2)), .ref 5], memM v43.2)) rfl ?_
              refine mEv.fg [1, 2, 3] (z' := [some (.ref 0), none, none, none]) rfl ?_
              exact K_X3_order_290 (d := d) h
        · have h := (if_neg c30).symm.trans h
          refine mEv.fg [2] (z' := [some (.ref 0), some (.int x1), none, some (.int x3)]) rfl ?_
          refine mEv.mem memM_mk ?_
          exact K_X3_order_158 (d := d) h
    · have h := (if_neg c11).symm.trans h
      refine mEv.stp 14 (S' := (139, _, [some (.ref 0), some (.int x1), some (.int x2), some (.int x3)], [.int (nI 99), .int (nI 0), .ref 0, .int (x1 + (nI 1)), .ref 5], memMx (gM_ss s) (gM_ty s) ((gM_at s) + (nI 1)) (gM_ft s) (gM_mn s) (gM_bd s) (gM_no s) (gM_fu s) (gM_nw s) (gM_as s) (gM_pa s) (gM_tx s) (upd (gM_od s) (Int32.toNatClampNeg y1) y0))) rfl ?_
      obtain ⟨v45, e46, h⟩ := bnd h
      refine mEv.callV (As := [.int (nI 0), .int (nI 99)]) (st := [.int (x1 + (nI 1)), .ref 5]) (h := 0) (r := (some (.int v45.1))) (μ1 := memM v45.2) lk_X3_144 rfl rfl rfl rfl rfl (mCall.cast memM_mk (A_X3_number (d := d + 0) e46)) ?_
      refine mEv.stp 0 (S' := (142, _, [some (.ref 0), some (.int x1), some (.int x2), some (.int x3)], [.int v45.1, .int (x1 + (nI 1)), .ref 5], memM v45.2)) rfl ?_
      obtain ⟨g47, h⟩ := gI_some h
      refine mEv.gd 1 (S' := (143, _, [some (.ref 0), some (.int x1), some (.int x2), some (.int x3)], [], memMx (gM_ss v45.2) (gM_ty v45.2) (gM_at v45.2) (gM_ft v45.2) (gM_mn v45.2) (gM_bd v45.2) (gM_no v45.2) (gM_fu v45.2) (gM_nw v45.2) (gM_as v45.2) (gM_pa v45.2) (gM_tx v45.2) (upd (gM_od v45.2) (Int32.toNatClampNeg (x1 + (nI 1))) v45.1))) rfl g47 ?_
      refine mEv.stp 1 (S' := (335, [], [some (.ref 0), some (.int x1), some (.int x2), some (.int x3)], [], memMx (gM_ss v45.2) (gM_ty v45.2) (gM_at v45.2) (gM_ft v45.2) (gM_mn v45.2) (gM_bd v45.2) (gM_no v45.2) (gM_fu v45.2) (gM_nw v45.2) (gM_as v45.2) (gM_pa v45.2) (gM_tx v45.2) (upd (gM_od v45.2) (Int32.toNatClampNeg (x1 + (nI 1))) v45.1))) rfl ?_
      refine mEv.fg [1, 2, 3] (z' := [some (.ref 0), none, none, none]) rfl ?_
      refine mEv.mem memM_mk ?_
      exact K_X3_order_335 (d := d) h
  · have h := (if_neg c10).symm.trans h
    refine mEv.stp 8 (S' := (57, _, [some (.ref 0), some (.int x1), some (.int x2), some (.int x3)], [.int (-nI 1), .int x3, .ref 0, .int (x1 + (nI 1)), .ref 5], memMx (gM_ss s) (gM_ty s) (gM_at s) (gM_ft s) (gM_mn s) (gM_bd s) (gM_no s) (gM_fu s) (gM_nw s) (gM_as s) (gM_pa s) (gM_tx s) (upd (gM_od s) (Int32.toNatClampNeg y1) y0))) rfl ?_
    obtain ⟨v48, e49, h⟩ := bnd h
    refine mEv.callV (As := [.int x3, .int (-nI 1)]) (st := [.int (x1 + (nI 1)), .ref 5]) (h := 0) (r := (some (.int v48.1))) (μ1 := memM v48.2) lk_X3_141 rfl rfl rfl rfl rfl (mCall.cast memM_mk (A_X3_figure (d := d + 0) e49)) ?_
    refine mEv.stp 0 (S' := (60, _, [some (.ref 0), some (.int x1), some (.int x2), some (.int x3)], [.int v48.1, .int (x1 + (nI 1)), .ref 5], memM v48.2)) rfl ?_
    obtain ⟨g50, h⟩ := gI_some h
    refine mEv.gd 1 (S' := (61, _, [some (.ref 0), some (.int x1), some (.int x2), some (.int x3)], [], memMx (gM_ss v48.2) (gM_ty v48.2) (gM_at v48.2) (gM_ft v48.2) (gM_mn v48.2) (gM_bd v48.2) (gM_no v48.2) (gM_fu v48.2) (gM_nw v48.2) (gM_as v48.2) (gM_pa v48.2) (gM_tx v48.2) (upd (gM_od v48.2) (Int32.toNatClampNeg (x1 + (nI 1))) v48.1))) rfl g50 ?_
    obtain ⟨g51, h⟩ := gI_some h
    refine mEv.gd 13 (S' := (78, _, [some (.ref 0), some (.int x1), some (.int x2), some (.int x3)], [.int ((upd (gM_od v48.2) (Int32.toNatClampNeg (x1 + (nI 1))) v48.1) (Int32.toNatClampNeg (x1 + (nI 1)))), .int x3, .ref 0, .int (x1 + (nI 2)), .ref 5], memMx (gM_ss v48.2) (gM_ty v48.2) (gM_at v48.2) (gM_ft v48.2) (gM_mn v48.2) (gM_bd v48.2) (gM_no v48.2) (gM_fu v48.2) (gM_nw v48.2) (gM_as v48.2) (gM_pa v48.2) (gM_tx v48.2) (upd (gM_od v48.2) (Int32.toNatClampNeg (x1 + (nI 1))) v48.1))) rfl g51 ?_
    obtain ⟨v52, e53, h⟩ := bnd h
    refine mEv.callV (As := [.int x3, .int ((upd (gM_od v48.2) (Int32.toNatClampNeg (x1 + (nI 1))) v48.1) (Int32.toNatClampNeg (x1 + (nI 1))))]) (st := [.int (x1 + (nI 2)), .ref 5]) (h := 0) (r := (some (.int v52.1))) (μ1 := memM v52.2) lk_X3_141 rfl rfl rfl rfl rfl (mCall.cast memM_mk (A_X3_figure (d := d + 0) e53)) ?_
    refine mEv.stp 0 (S' := (81, _, [some (.ref 0), some (.int x1), some (.int x2), some (.int x3)], [.int v52.1, .int (x1 + (nI 2)), .ref 5], memM v52.2)) rfl ?_
    obtain ⟨g54, h⟩ := gI_some h
    refine mEv.gd 1 (S' := (82, _, [some (.ref 0), some (.int x1), some (.int x2), some (.int x3)], [], memMx (gM_ss v52.2) (gM_ty v52.2) (gM_at v52.2) (gM_ft v52.2) (gM_mn v52.2) (gM_bd v52.2) (gM_no v52.2) (gM_fu v52.2) (gM_nw v52.2) (gM_as v52.2) (gM_pa v52.2) (gM_tx v52.2) (upd (gM_od v52.2) (Int32.toNatClampNeg (x1 + (nI 2))) v52.1))) rfl g54 ?_
    refine mEv.br 9 (S1 := (107, [], [some (.ref 0), some (.int x1), some (.int x2), some (.int x3)], [.int (x1 + (nI 3)), .ref 5], memMx (gM_ss v52.2) (gM_ty v52.2) (gM_at v52.2) (gM_ft v52.2) (gM_mn v52.2) (gM_bd v52.2) (gM_no v52.2) (gM_fu v52.2) (gM_nw v52.2) (gM_as v52.2) (gM_pa v52.2) (gM_tx v52.2) (upd (gM_od v52.2) (Int32.toNatClampNeg (x1 + (nI 2))) v52.1))) (S2 := (97, _, [some (.ref 0), some (.int x1), some (.int x2), some (.int x3)], [.int (x1 + (nI 3)), .ref 5], memMx (gM_ss v52.2) (gM_ty v52.2) (gM_at v52.2) (gM_ft v52.2) (gM_mn v52.2) (gM_bd v52.2) (gM_no v52.2) (gM_fu v52.2) (gM_nw v52.2) (gM_as v52.2) (gM_pa v52.2) (gM_tx v52.2) (upd (gM_od v52.2) (Int32.toNatClampNeg (x1 + (nI 2))) v52.1))) rfl (fun c55 => ?_) (fun c55 => ?_)
    · have h := (if_pos c55).symm.trans h
      refine mEv.stp 2 (S' := (108, [], [some (.ref 0), some (.int x1), some (.int x2), some (.int x3)], [.int (nI 0), .int (x1 + (nI 3)), .ref 5], memMx (gM_ss v52.2) (gM_ty v52.2) (gM_at v52.2) (gM_ft v52.2) (gM_mn v52.2) (gM_bd v52.2) (gM_no v52.2) (gM_fu v52.2) (gM_nw v52.2) (gM_as v52.2) (gM_pa v52.2) (gM_tx v52.2) (upd (gM_od v52.2) (Int32.toNatClampNeg (x1 + (nI 2))) v52.1))) rfl ?_
      refine mEv.fg [1, 2, 3] (z' := [some (.ref 0), none, none, none]) rfl ?_
      refine mEv.mem memM_mk ?_
      exact K_X3_order_108 (d := d) h
    · have h := (if_neg c55).symm.trans h
      refine mEv.stp 3 (S' := (101, _, [some (.ref 0), some (.int x1), some (.int x2), some (.int x3)], [.int (nI 24), .int (nI 1), .ref 0, .int (x1 + (nI 3)), .ref 5], memMx (gM_ss v52.2) (gM_ty v52.2) (gM_at v52.2) (gM_ft v52.2) (gM_mn v52.2) (gM_bd v52.2) (gM_no v52.2) (gM_fu v52.2) (gM_nw v52.2) (gM_as v52.2) (gM_pa v52.2) (gM_tx v52.2) (upd (gM_od v52.2) (Int32.toNatClampNeg (x1 + (nI 2))) v52.1))) rfl ?_
      obtain ⟨v57, e58, h⟩ := bnd h
      refine mEv.callV (As := [.int (nI 1), .int (nI 24)]) (st := [.int (x1 + (nI 3)), .ref 5]) (h := 0) (r := (some (.int v57.1))) (μ1 := memM v57.2) lk_X3_144 rfl rfl rfl rfl rfl (mCall.cast memM_mk (A_X3_number (d := d + 0) e58)) ?_
      refine mEv.stp 0 (S' := (104, _, [some (.ref 0), some (.int x1), some (.int x2), some (.int x3)], [.int v57.1, .int (x1 + (nI 3)), .ref 5], memM v57.2)) rfl ?_
      refine mEv.stp 1 (S' := (108, [], [some (.ref 0), some (.int x1), some (.int x2), some (.int x3)], [.int v57.1, .int (x1 + (nI 3)), .ref 5], memM v57.2)) rfl ?_
      refine mEv.fg [1, 2, 3] (z' := [some (.ref 0), none, none, none]) rfl ?_
      exact K_X3_order_108 (d := d) h
def F_X3_order  (s : ModS) : Option (ModS) := (F_X3_sign s).bind (fun v1 => gI (nI 0) 637 ((F_X3_isFigure v1.1).bind (fun v4 => if v4 = (nI 0) then (J_X3_order_39 ((nI 4) * (gM_mn s)) v1.1 (((gM_nw v1.2) (Int32.toNatClampNeg (nI 0))) - (nI 1)) v1.1 ((nI 4) * (gM_mn s)) v1.2) else (J_X3_order_39 ((nI 4) * (gM_mn s)) v1.1 (((gM_nw v1.2) (Int32.toNatClampNeg (nI 0))) - (nI 1)) (nI 99) ((nI 4) * (gM_mn s)) v1.2))))
set_option maxRecDepth 100000 in
theorem E_X3_order {d : Nat}  {s : ModS} {q : ModS} (h : F_X3_order s = some q) : mEv (d + 3) m_X3_order none (0, [], [some (.ref 0), none, none, none], [], memM s) none (memM q) := by
  unfold F_X3_order at h
  refine mEv.stp 7 (S' := (8, _, [some (.ref 0), some (.int ((nI 4) * (gM_mn s))), none, none], [.ref 0], memM s)) rfl ?_
  obtain ⟨v1, e2, h⟩ := bnd h
  refine mEv.callV (As := []) (st := []) (h := 0) (r := (some (.int v1.1))) (μ1 := memM v1.2) lk_X3_129 rfl rfl rfl rfl rfl (A_X3_sign (d := d + 2) e2) ?_
  refine mEv.stp 0 (S' := (11, _, [some (.ref 0), some (.int ((nI 4) * (gM_mn s))), none, none], [.int v1.1], memM v1.2)) rfl ?_
  obtain ⟨g3, h⟩ := gI_some h
  refine mEv.gd 5 (S' := (18, _, [some (.ref 0), some (.int ((nI 4) * (gM_mn s))), some (.int v1.1), none], [.int ((gM_nw v1.2) (Int32.toNatClampNeg (nI 0)))], memM v1.2)) rfl g3 ?_
  refine mEv.stp 7 (S' := (27, _, [some (.ref 0), some (.int ((nI 4) * (gM_mn s))), some (.int v1.1), some (.int (((gM_nw v1.2) (Int32.toNatClampNeg (nI 0))) - (nI 1)))], [.int v1.1, .int ((nI 4) * (gM_mn s)), .ref 5], memM v1.2)) rfl ?_
  obtain ⟨v4, e5, h⟩ := bnd h
  refine mEv.callS (As := [.int v1.1]) (st := [.int ((nI 4) * (gM_mn s)), .ref 5]) (r := (some (.int v4))) (μ1 := memM v1.2) lk_X3_132 rfl rfl rfl (A_X3_isFigure (d := d + 1) e5) ?_
  refine mEv.stp 0 (S' := (30, _, [some (.ref 0), some (.int ((nI 4) * (gM_mn s))), some (.int v1.1), some (.int (((gM_nw v1.2) (Int32.toNatClampNeg (nI 0))) - (nI 1)))], [.int v4, .int ((nI 4) * (gM_mn s)), .ref 5], memM v1.2)) rfl ?_
  refine mEv.br 1 (S1 := (38, [], [some (.ref 0), some (.int ((nI 4) * (gM_mn s))), some (.int v1.1), some (.int (((gM_nw v1.2) (Int32.toNatClampNeg (nI 0))) - (nI 1)))], [.int ((nI 4) * (gM_mn s)), .ref 5], memM v1.2)) (S2 := (33, _, [some (.ref 0), some (.int ((nI 4) * (gM_mn s))), some (.int v1.1), some (.int (((gM_nw v1.2) (Int32.toNatClampNeg (nI 0))) - (nI 1)))], [.int ((nI 4) * (gM_mn s)), .ref 5], memM v1.2)) rfl (fun c6 => ?_) (fun c6 => ?_)
  · have h := (if_pos c6).symm.trans h
    refine mEv.stp 2 (S' := (39, [], [some (.ref 0), some (.int ((nI 4) * (gM_mn s))), some (.int v1.1), some (.int (((gM_nw v1.2) (Int32.toNatClampNeg (nI 0))) - (nI 1)))], [.int v1.1, .int ((nI 4) * (gM_mn s)), .ref 5], memM v1.2)) rfl ?_
    exact K_X3_order_39 (d := d) h
  · have h := (if_neg c6).symm.trans h
    refine mEv.stp 2 (S' := (39, [], [some (.ref 0), some (.int ((nI 4) * (gM_mn s))), some (.int v1.1), some (.int (((gM_nw v1.2) (Int32.toNatClampNeg (nI 0))) - (nI 1)))], [.int (nI 99), .int ((nI 4) * (gM_mn s)), .ref 5], memM v1.2)) rfl ?_
    exact K_X3_order_39 (d := d) h
theorem A_X3_order {d : Nat}  {s : ModS} {q : ModS} (h : F_X3_order s = some q) : mCall (d + 3) m_X3_order [.ref 0] (memM s) none (memM q) := mCall.intro ok_X3_order pl_X3_order rfl (E_X3_order (d := d) h)
def B_X3_does_15  (s : ModS) : Option ((ModS) ⊕ (ModS)) := (F_X3_order s).bind (fun v1 => if ¬ (gM_ft v1) = (-nI 1) then (some (.inr (v1))) else ((F_X3_sign v1).bind (fun v4 => if ¬ v4.1 = (-nI 1) then (some (.inl (v4.2))) else (some (.inr (v4.2))))))
set_option maxRecDepth 100000 in
theorem H_X3_does_15 {d : Nat}  {s : ModS} {q : (ModS) ⊕ (ModS)} {r0 : Option Value} {mu0 : MMe} (h : B_X3_does_15 s = some q) (hk : Sum.elim (fun x : ModS => mEv (d + 6) m_X3_does none (15, [], [some (.ref 0), none, none, none, none, none], [], memM x) r0 mu0) (fun z : ModS => mEv (d + 6) m_X3_does none (35, [], [some (.ref 0), none, none, none, none, none], [], memM z) r0 mu0) q) : mEv (d + 6) m_X3_does none (15, [], [some (.ref 0), none, none, none, none, none], [], memM s) r0 mu0 := by
  unfold B_X3_does_15 at h
  refine mEv.stp 2 (S' := (16, _, [some (.ref 0), none, none, none, none, none], [.ref 0], memM s)) rfl ?_
  obtain ⟨v1, e2, h⟩ := bnd h
  refine mEv.callV (As := []) (st := []) (h := 0) (r := none) (μ1 := memM v1) lk_X3_147 rfl rfl rfl rfl rfl (A_X3_order (d := d + 2) e2) ?_
  refine mEv.stp 0 (S' := (19, _, [some (.ref 0), none, none, none, none, none], [], memM v1)) rfl ?_
  refine mEv.br 4 (S1 := (35, [], [some (.ref 0), none, none, none, none, none], [], memM v1)) (S2 := (27, _, [some (.ref 0), none, none, none, none, none], [], memM v1)) rfl (fun c3 => ?_) (fun c3 => ?_)
  · have h := (if_pos c3).symm.trans h
    obtain rfl := Option.some.inj h
    exact hk
  · have h := (if_neg c3).symm.trans h
    refine mEv.stp 1 (S' := (28, _, [some (.ref 0), none, none, none, none, none], [.ref 0], memM v1)) rfl ?_
    obtain ⟨v4, e5, h⟩ := bnd h
    refine mEv.callV (As := []) (st := []) (h := 0) (r := (some (.int v4.1))) (μ1 := memM v4.2) lk_X3_129 rfl rfl rfl rfl rfl (A_X3_sign (d := d + 5) e5) ?_
    refine mEv.stp 0 (S' := (31, _, [some (.ref 0), none, none, none, none, none], [.int v4.1], memM v4.2)) rfl ?_
    refine mEv.br 2 (S1 := (15, [], [some (.ref 0), none, none, none, none, none], [], memM v4.2)) (S2 := (35, [], [some (.ref 0), none, none, none, none, none], [], memM v4.2)) rfl (fun c6 => ?_) (fun c6 => ?_)
    · have h := (if_pos c6).symm.trans h
      obtain rfl := Option.some.inj h
      exact hk
    · have h := (if_neg c6).symm.trans h
      obtain rfl := Option.some.inj h
      exact hk
def J_X3_does_178 (x1 : Int32) (x2 : Int32) (x4 : Int32) (x5 : Int32) (y0 : Int32) (s : ModS) : Option ((Int32 × Int32 × ModS) ⊕ (Int32 × ModS)) := (F_X3_pairOf x4 x5).bind (fun v20 => gI (x2 + (nI 3)) 240 (gI (y0 + v20) 637 (some (.inl (x1, (x2 + (nI 4)), (mkM (gM_ss s) (gM_ty s) (gM_at s) (gM_ft s) (gM_mn s) (gM_bd s) (gM_no s) (gM_fu s) (upd (gM_nw s) (Int32.toNatClampNeg (y0 + v20)) ((gM_od s) (Int32.toNatClampNeg (x2 + (nI 3))))) (gM_as s) (gM_pa s) (gM_tx s) (gM_od s)))))))
set_option maxRecDepth 100000 in
theorem K_X3_does_178 {d : Nat} {x1 : Int32} {x2 : Int32} {x4 : Int32} {x5 : Int32} {y0 : Int32} {s : ModS} {q : (Int32 × Int32 × ModS) ⊕ (Int32 × ModS)} {r0 : Option Value} {mu0 : MMe} (h : J_X3_does_178 x1 x2 x4 x5 y0 s = some q) (hk : Sum.elim (fun x : Int32 × Int32 × ModS => mEv (d + 6) m_X3_does none (59, [], [some (.ref 0), some (.int x.1), some (.int x.2.1), none, none, none], [], memM x.2.2) r0 mu0) (fun z : Int32 × ModS => mEv (d + 6) m_X3_does none (234, [], [none, some (.int z.1), none, none, none, none], [], memM z.2) r0 mu0) q) : mEv (d + 6) m_X3_does none (178, [], [some (.ref 0), some (.int x1), some (.int x2), none, some (.int x4), some (.int x5)], [.int y0, .ref 1], memM s) r0 mu0 := by
  unfold J_X3_does_178 at h
  refine mEv.stp 3 (S' := (182, _, [some (.ref 0), some (.int x1), some (.int x2), none, some (.int x4), some (.int x5)], [.int x5, .int x4, .int y0, .ref 1], memM s)) rfl ?_
  obtain ⟨v20, e21, h⟩ := bnd h
  refine mEv.callS (As := [.int x4, .int x5]) (st := [.int y0, .ref 1]) (r := (some (.int v20))) (μ1 := memM s) lk_X3_58 rfl rfl rfl (A_X3_pairOf (d := d + 5) e21) ?_
  refine mEv.stp 0 (S' := (185, _, [some (.ref 0), some (.int x1), some (.int x2), none, some (.int x4), some (.int x5)], [.int v20, .int y0, .ref 1], memM s)) rfl ?_
  obtain ⟨g22, h⟩ := gI_some h
  refine mEv.gd 7 (S' := (194, _, [some (.ref 0), some (.int x1), some (.int x2), none, some (.int x4), some (.int x5)], [.int ((gM_od s) (Int32.toNatClampNeg (x2 + (nI 3)))), .int (y0 + v20), .ref 1], memM s)) rfl g22 ?_
  obtain ⟨g23, h⟩ := gI_some h
  refine mEv.gd 1 (S' := (195, _, [some (.ref 0), some (.int x1), some (.int x2), none, some (.int x4), some (.int x5)], [], memMx (gM_ss s) (gM_ty s) (gM_at s) (gM_ft s) (gM_mn s) (gM_bd s) (gM_no s) (gM_fu s) (upd (gM_nw s) (Int32.toNatClampNeg (y0 + v20)) ((gM_od s) (Int32.toNatClampNeg (x2 + (nI 3))))) (gM_as s) (gM_pa s) (gM_tx s) (gM_od s))) rfl g23 ?_
  refine mEv.stp 4 (S' := (59, [], [some (.ref 0), some (.int x1), some (.int (x2 + (nI 4))), none, some (.int x4), some (.int x5)], [], memMx (gM_ss s) (gM_ty s) (gM_at s) (gM_ft s) (gM_mn s) (gM_bd s) (gM_no s) (gM_fu s) (upd (gM_nw s) (Int32.toNatClampNeg (y0 + v20)) ((gM_od s) (Int32.toNatClampNeg (x2 + (nI 3))))) (gM_as s) (gM_pa s) (gM_tx s) (gM_od s))) rfl ?_
  refine mEv.fg [4, 5] (z' := [some (.ref 0), some (.int x1), some (.int (x2 + (nI 4))), none, none, none]) rfl ?_
  refine mEv.mem memM_mk ?_
  obtain rfl := Option.some.inj h
  exact hk
def J_X3_does_162 (x1 : Int32) (x2 : Int32) (x3 : Int32) (x4 : Int32) (x5 : Int32) (s : ModS) : Option ((Int32 × Int32 × ModS) ⊕ (Int32 × ModS)) := if ¬ x3 = (nI 119) then (J_X3_does_178 x1 x2 x4 x5 (nI 41) s) else (J_X3_does_178 x1 x2 x4 x5 (nI 5) s)
set_option maxRecDepth 100000 in
theorem K_X3_does_162 {d : Nat} {x1 : Int32} {x2 : Int32} {x3 : Int32} {x4 : Int32} {x5 : Int32} {s : ModS} {q : (Int32 × Int32 × ModS) ⊕ (Int32 × ModS)} {r0 : Option Value} {mu0 : MMe} (h : J_X3_does_162 x1 x2 x3 x4 x5 s = some q) (hk : Sum.elim (fun x : Int32 × Int32 × ModS => mEv (d + 6) m_X3_does none (59, [], [some (.ref 0), some (.int x.1), some (.int x.2.1), none, none, none], [], memM x.2.2) r0 mu0) (fun z : Int32 × ModS => mEv (d + 6) m_X3_does none (234, [], [none, some (.int z.1), none, none, none, none], [], memM z.2) r0 mu0) q) : mEv (d + 6) m_X3_does none (162, [], [some (.ref 0), some (.int x1), some (.int x2), some (.int x3), some (.int x4), some (.int x5)], [], memM s) r0 mu0 := by
  unfold J_X3_does_162 at h
  refine mEv.br 6 (S1 := (176, [], [some (.ref 0), some (.int x1), some (.int x2), some (.int x3), some (.int x4), some (.int x5)], [.ref 1], memM s)) (S2 := (172, _, [some (.ref 0), some (.int x1), some (.int x2), some (.int x3), some (.int x4), some (.int x5)], [.ref 1], memM s)) rfl (fun c19 => ?_) (fun c19 => ?_)
  · have h := (if_pos c19).symm.trans h
    refine mEv.stp 2 (S' := (178, [], [some (.ref 0), some (.int x1), some (.int x2), some (.int x3), some (.int x4), some (.int x5)], [.int (nI 41), .ref 1], memM s)) rfl ?_
    refine mEv.fg [3] (z' := [some (.ref 0), some (.int x1), some (.int x2), none, some (.int x4), some (.int x5)]) rfl ?_
    exact K_X3_does_178 (d := d) h hk
  · have h := (if_neg c19).symm.trans h
    refine mEv.stp 2 (S' := (178, [], [some (.ref 0), some (.int x1), some (.int x2), some (.int x3), some (.int x4), some (.int x5)], [.int (nI 5), .ref 1], memM s)) rfl ?_
    refine mEv.fg [3] (z' := [some (.ref 0), some (.int x1), some (.int x2), none, some (.int x4), some (.int x5)]) rfl ?_
    exact K_X3_does_178 (d := d) h hk
def B_X3_does_59 (x1 : Int32) (x2 : Int32) (s : ModS) : Option ((Int32 × Int32 × ModS) ⊕ (Int32 × ModS)) := if ((nI 4) * (gM_mn s)) ≤ x2 then (some (.inr (x1, s))) else (gI x2 240 (gI (x2 + (nI 1)) 240 (gI (x2 + (nI 2)) 240 (if ¬ ((gM_od s) (Int32.toNatClampNeg x2)) = (nI 99) then (if ¬ ((gM_od s) (Int32.toNatClampNeg x2)) = (nI 43) then (if ((gM_od s) (Int32.toNatClampNeg x2)) = (nI 119) then (J_X3_does_162 x1 x2 ((gM_od s) (Int32.toNatClampNeg x2)) ((gM_od s) (Int32.toNatClampNeg (x2 + (nI 1)))) ((gM_od s) (Int32.toNatClampNeg (x2 + (nI 2)))) s) else (if ¬ ((gM_od s) (Int32.toNatClampNeg x2)) = (nI 114) then (if ¬ ((gM_od s) (Int32.toNatClampNeg x2)) = (nI 112) then (gI (nI 1) 637 (some (.inl (x1, (x2 + (nI 4)), (mkM (gM_ss s) (gM_ty s) (gM_at s) (gM_ft s) (gM_mn s) (gM_bd s) (gM_no s) (gM_fu s) (upd (gM_nw s) (Int32.toNatClampNeg (nI 1)) ((gM_od s) (Int32.toNatClampNeg (x2 + (nI 1))))) (gM_as s) (gM_pa s) (gM_tx s) (gM_od s)))))) else (gI ((nI 293) + ((gM_od s) (Int32.toNatClampNeg (x2 + (nI 1))))) 637 (some (.inl (x1, (x2 + (nI 4)), (mkM (gM_ss s) (gM_ty s) (gM_at s) (gM_ft s) (gM_mn s) (gM_bd s) (gM_no s) (gM_fu s) (upd (gM_nw s) (Int32.toNatClampNeg ((nI 293) + ((gM_od s) (Int32.toNatClampNeg (x2 + (nI 1)))))) ((gM_od s) (Int32.toNatClampNeg (x2 + (nI 2))))) (gM_as s) (gM_pa s) (gM_tx s) (gM_od s))))))) else (J_X3_does_162 x1 x2 ((gM_od s) (Int32.toNatClampNeg x2)) ((gM_od s) (Int32.toNatClampNeg (x2 + (nI 1)))) ((gM_od s) (Int32.toNatClampNeg (x2 + (nI 2)))) s))) else ((F_X3_passes ((gM_od s) (Int32.toNatClampNeg (x2 + (nI 1)))) s).bind (fun v28 => some (.inl (x1, (x2 + (nI 4)), v28.2))))) else (gI (x2 + (nI 3)) 240 ((F_X3_asks ((gM_od s) (Int32.toNatClampNeg (x2 + (nI 1)))) ((gM_od s) (Int32.toNatClampNeg (x2 + (nI 2)))) ((gM_od s) (Int32.toNatClampNeg (x2 + (nI 3)))) s).bind (fun v31 => if ¬ v31.1 = (-nI 5) then (some (.inl ((x1 + (nI 1)), (x2 + (nI 4)), v31.2))) else (some (.inl ((x1 + (nI 0)), (x2 + (nI 4)), v31.2))))))))))
set_option maxRecDepth 100000 in
theorem H_X3_does_59 {d : Nat} {x1 : Int32} {x2 : Int32} {s : ModS} {q : (Int32 × Int32 × ModS) ⊕ (Int32 × ModS)} {r0 : Option Value} {mu0 : MMe} (h : B_X3_does_59 x1 x2 s = some q) (hk : Sum.elim (fun x : Int32 × Int32 × ModS => mEv (d + 6) m_X3_does none (59, [], [some (.ref 0), some (.int x.1), some (.int x.2.1), none, none, none], [], memM x.2.2) r0 mu0) (fun z : Int32 × ModS => mEv (d + 6) m_X3_does none (234, [], [none, some (.int z.1), none, none, none, none], [], memM z.2) r0 mu0) q) : mEv (d + 6) m_X3_does none (59, [], [some (.ref 0), some (.int x1), some (.int x2), none, none, none], [], memM s) r0 mu0 := by
  unfold B_X3_does_59 at h
  refine mEv.br 7 (S1 := (234, [], [some (.ref 0), some (.int x1), some (.int x2), none, none, none], [], memM s)) (S2 := (69, _, [some (.ref 0), some (.int x1), some (.int x2), none, none, none], [], memM s)) rfl (fun c12 => ?_) (fun c12 => ?_)
  · have h := (if_pos c12).symm.trans h
    refine mEv.fg [0, 2] (z' := [none, some (.int x1), none, none, none, none]) rfl ?_
    obtain rfl := Option.some.inj h
    exact hk
  · have h := (if_neg c12).symm.trans h
    obtain ⟨g13, h⟩ := gI_some h
    refine mEv.gd 4 (S' := (75, _, [some (.ref 0), some (.int x1), some (.int x2), none, none, none], [.int ((gM_od s) (Int32.toNatClampNeg x2))], memM s)) rfl g13 ?_
    obtain ⟨g14, h⟩ := gI_some h
    refine mEv.gd 7 (S' := (84, _, [some (.ref 0), some (.int x1), some (.int x2), some (.int ((gM_od s) (Int32.toNatClampNeg x2))), none, none], [.int ((gM_od s) (Int32.toNatClampNeg (x2 + (nI 1))))], memM s)) rfl g14 ?_
    obtain ⟨g15, h⟩ := gI_some h
    refine mEv.gd 7 (S' := (94, _, [some (.ref 0), some (.int x1), some (.int x2), some (.int ((gM_od s) (Int32.toNatClampNeg x2))), some (.int ((gM_od s) (Int32.toNatClampNeg (x2 + (nI 1))))), none], [.int ((gM_od s) (Int32.toNatClampNeg (x2 + (nI 2))))], memM s)) rfl g15 ?_
    refine mEv.br 4 (S1 := (134, [], [some (.ref 0), some (.int x1), some (.int x2), some (.int ((gM_od s) (Int32.toNatClampNeg x2))), some (.int ((gM_od s) (Int32.toNatClampNeg (x2 + (nI 1))))), some (.int ((gM_od s) (Int32.toNatClampNeg (x2 + (nI 2)))))], [], memM s)) (S2 := (102, _, [some (.ref 0), some (.int x1), some (.int x2), some (.int ((gM_od s) (Int32.toNatClampNeg x2))), some (.int ((gM_od s) (Int32.toNatClampNeg (x2 + (nI 1))))), some (.int ((gM_od s) (Int32.toNatClampNeg (x2 + (nI 2)))))], [], memM s)) rfl (fun c16 => ?_) (fun c16 => ?_)
    · have h := (if_pos c16).symm.trans h
      refine mEv.br 4 (S1 := (150, [], [some (.ref 0), some (.int x1), some (.int x2), some (.int ((gM_od s) (Int32.toNatClampNeg x2))), some (.int ((gM_od s) (Int32.toNatClampNeg (x2 + (nI 1))))), some (.int ((gM_od s) (Int32.toNatClampNeg (x2 + (nI 2)))))], [], memM s)) (S2 := (140, _, [some (.ref 0), some (.int x1), some (.int x2), some (.int ((gM_od s) (Int32.toNatClampNeg x2))), some (.int ((gM_od s) (Int32.toNatClampNeg (x2 + (nI 1))))), some (.int ((gM_od s) (Int32.toNatClampNeg (x2 + (nI 2)))))], [], memM s)) rfl (fun c17 => ?_) (fun c17 => ?_)
      · have h := (if_pos c17).symm.trans h
        refine mEv.br 4 (S1 := (162, [], [some (.ref 0), some (.int x1), some (.int x2), some (.int ((gM_od s) (Int32.toNatClampNeg x2))), some (.int ((gM_od s) (Int32.toNatClampNeg (x2 + (nI 1))))), some (.int ((gM_od s) (Int32.toNatClampNeg (x2 + (nI 2)))))], [], memM s)) (S2 := (156, _, [some (.ref 0), some (.int x1), some (.int x2), some (.int ((gM_od s) (Int32.toNatClampNeg x2))), some (.int ((gM_od s) (Int32.toNatClampNeg (x2 + (nI 1))))), some (.int ((gM_od s) (Int32.toNatClampNeg (x2 + (nI 2)))))], [], memM s)) rfl (fun c18 => ?_) (fun c18 => ?_)
        · have h := (if_pos c18).symm.trans h
          exact K_X3_does_162 (d := d) h hk
        · have h := (if_neg c18).symm.trans h
          refine mEv.br 3 (S1 := (198, [], [some (.ref 0), some (.int x1), some (.int x2), some (.int ((gM_od s) (Int32.toNatClampNeg x2))), some (.int ((gM_od s) (Int32.toNatClampNeg (x2 + (nI 1))))), some (.int ((gM_od s) (Int32.toNatClampNeg (x2 + (nI 2)))))], [], memM s)) (S2 := (162, [], [some (.ref 0), some (.int x1), some (.int x2), some (.int ((gM_od s) (Int32.toNatClampNeg x2))), some (.int ((gM_od s) (Int32.toNatClampNeg (x2 + (nI 1))))), some (.int ((gM_od s) (Int32.toNatClampNeg (x2 + (nI 2)))))], [], memM s)) rfl (fun c24 => ?_) (fun c24 => ?_)
          · have h := (if_pos c24).symm.trans h
            refine mEv.br 4 (S1 := (220, [], [some (.ref 0), some (.int x1), some (.int x2), some (.int ((gM_od s) (Int32.toNatClampNeg x2))), some (.int ((gM_od s) (Int32.toNatClampNeg (x2 + (nI 1))))), some (.int ((gM_od s) (Int32.toNatClampNeg (x2 + (nI 2)))))], [], memM s)) (S2 := (204, _, [some (.ref 0), some (.int x1), some (.int x2), some (.int ((gM_od s) (Int32.toNatClampNeg x2))), some (.int ((gM_od s) (Int32.toNatClampNeg (x2 + (nI 1))))), some (.int ((gM_od s) (Int32.toNatClampNeg (x2 + (nI 2)))))], [], memM s)) rfl (fun c25 => ?_) (fun c25 => ?_)
            · have h := (if_pos c25).symm.trans h
              obtain ⟨g26, h⟩ := gI_some h
              refine mEv.gd 6 (S' := (228, [], [some (.ref 0), some (.int x1), some (.int x2), some (.int ((gM_od s) (Int32.toNatClampNeg x2))), some (.int ((gM_od s) (Int32.toNatClampNeg (x2 + (nI 1))))), some (.int ((gM_od s) (Int32.toNatClampNeg (x2 + (nI 2)))))], [], memMx (gM_ss s) (gM_ty s) (gM_at s) (gM_ft s) (gM_mn s) (gM_bd s) (gM_no s) (gM_fu s) (upd (gM_nw s) (Int32.toNatClampNeg (nI 1)) ((gM_od s) (Int32.toNatClampNeg (x2 + (nI 1))))) (gM_as s) (gM_pa s) (gM_tx s) (gM_od s))) rfl g26 ?_
              refine mEv.stp 3 (S' := (59, [], [some (.ref 0), some (.int x1), some (.int (x2 + (nI 4))), some (.int ((gM_od s) (Int32.toNatClampNeg x2))), some (.int ((gM_od s) (Int32.toNatClampNeg (x2 + (nI 1))))), some (.int ((gM_od s) (Int32.toNatClampNeg (x2 + (nI 2)))))], [], memMx (gM_ss s) (gM_ty s) (gM_at s) (gM_ft s) (gM_mn s) (gM_bd s) (gM_no s) (gM_fu s) (upd (gM_nw s) (Int32.toNatClampNeg (nI 1)) ((gM_od s) (Int32.toNatClampNeg (x2 + (nI 1))))) (gM_as s) (gM_pa s) (gM_tx s) (gM_od s))) rfl ?_
              refine mEv.fg [3, 4, 5] (z' := [some (.ref 0), some (.int x1), some (.int (x2 + (nI 4))), none, none, none]) rfl ?_
              refine mEv.mem memM_mk ?_
              obtain rfl := Option.some.inj h
              exact hk
            · have h := (if_neg c25).symm.trans h
              obtain ⟨g27, h⟩ := gI_some h
              refine mEv.gd 7 (S' := (217, _, [some (.ref 0), some (.int x1), some (.int x2), some (.int ((gM_od s) (Int32.toNatClampNeg x2))), some (.int ((gM_od s) (Int32.toNatClampNeg (x2 + (nI 1))))), some (.int ((gM_od s) (Int32.toNatClampNeg (x2 + (nI 2)))))], [], memMx (gM_ss s) (gM_ty s) (gM_at s) (gM_ft s) (gM_mn s) (gM_bd s) (gM_no s) (gM_fu s) (upd (gM_nw s) (Int32.toNatClampNeg ((nI 293) + ((gM_od s) (Int32.toNatClampNeg (x2 + (nI 1)))))) ((gM_od s) (Int32.toNatClampNeg (x2 + (nI 2))))) (gM_as s) (gM_pa s) (gM_tx s) (gM_od s))) rfl g27 ?_
              refine mEv.stp 4 (S' := (59, [], [some (.ref 0), some (.int x1), some (.int (x2 + (nI 4))), some (.int ((gM_od s) (Int32.toNatClampNeg x2))), some (.int ((gM_od s) (Int32.toNatClampNeg (x2 + (nI 1))))), some (.int ((gM_od s) (Int32.toNatClampNeg (x2 + (nI 2)))))], [], memMx (gM_ss s) (gM_ty s) (gM_at s) (gM_ft s) (gM_mn s) (gM_bd s) (gM_no s) (gM_fu s) (upd (gM_nw s) (Int32.toNatClampNeg ((nI 293) + ((gM_od s) (Int32.toNatClampNeg (x2 + (nI 1)))))) ((gM_od s) (Int32.toNatClampNeg (x2 + (nI 2))))) (gM_as s) (gM_pa s) (gM_tx s) (gM_od s))) rfl ?_
              refine mEv.fg [3, 4, 5] (z' := [some (.ref 0), some (.int x1), some (.int (x2 + (nI 4))), none, none, none]) rfl ?_
              refine mEv.mem memM_mk ?_
              obtain rfl := Option.some.inj h
              exact hk
          · have h := (if_neg c24).symm.trans h
            exact K_X3_does_162 (d := d) h hk
      · have h := (if_neg c17).symm.trans h
        refine mEv.stp 2 (S' := (143, _, [some (.ref 0), some (.int x1), some (.int x2), some (.int ((gM_od s) (Int32.toNatClampNeg x2))), some (.int ((gM_od s) (Int32.toNatClampNeg (x2 + (nI 1))))), some (.int ((gM_od s) (Int32.toNatClampNeg (x2 + (nI 2)))))], [.int ((gM_od s) (Int32.toNatClampNeg (x2 + (nI 1)))), .ref 0], memM s)) rfl ?_
        obtain ⟨v28, e29, h⟩ := bnd h
        refine mEv.callV (As := [.int ((gM_od s) (Int32.toNatClampNeg (x2 + (nI 1))))]) (st := []) (h := 0) (r := (some (.int v28.1))) (μ1 := memM v28.2) lk_X3_104 rfl rfl rfl rfl rfl (A_X3_passes (d := d + 0) e29) ?_
        refine mEv.stp 0 (S' := (146, _, [some (.ref 0), some (.int x1), some (.int x2), some (.int ((gM_od s) (Int32.toNatClampNeg x2))), some (.int ((gM_od s) (Int32.toNatClampNeg (x2 + (nI 1))))), some (.int ((gM_od s) (Int32.toNatClampNeg (x2 + (nI 2)))))], [.int v28.1], memM v28.2)) rfl ?_
        refine mEv.stp 5 (S' := (59, [], [some (.ref 0), some (.int x1), some (.int (x2 + (nI 4))), some (.int ((gM_od s) (Int32.toNatClampNeg x2))), some (.int ((gM_od s) (Int32.toNatClampNeg (x2 + (nI 1))))), some (.int ((gM_od s) (Int32.toNatClampNeg (x2 + (nI 2)))))], [], memM v28.2)) rfl ?_
        refine mEv.fg [3, 4, 5] (z' := [some (.ref 0), some (.int x1), some (.int (x2 + (nI 4))), none, none, none]) rfl ?_
        obtain rfl := Option.some.inj h
        exact hk
    · have h := (if_neg c16).symm.trans h
      obtain ⟨g30, h⟩ := gI_some h
      refine mEv.gd 10 (S' := (116, _, [some (.ref 0), some (.int x1), some (.int x2), some (.int ((gM_od s) (Int32.toNatClampNeg x2))), some (.int ((gM_od s) (Int32.toNatClampNeg (x2 + (nI 1))))), some (.int ((gM_od s) (Int32.toNatClampNeg (x2 + (nI 2)))))], [.int ((gM_od s) (Int32.toNatClampNeg (x2 + (nI 3)))), .int ((gM_od s) (Int32.toNatClampNeg (x2 + (nI 2)))), .int ((gM_od s) (Int32.toNatClampNeg (x2 + (nI 1)))), .ref 0, .int x1], memM s)) rfl g30 ?_
      obtain ⟨v31, e32, h⟩ := bnd h
      refine mEv.callV (As := [.int ((gM_od s) (Int32.toNatClampNeg (x2 + (nI 1)))), .int ((gM_od s) (Int32.toNatClampNeg (x2 + (nI 2)))), .int ((gM_od s) (Int32.toNatClampNeg (x2 + (nI 3))))]) (st := [.int x1]) (h := 0) (r := (some (.int v31.1))) (μ1 := memM v31.2) lk_X3_98 rfl rfl rfl rfl rfl (A_X3_asks (d := d + 1) e32) ?_
      refine mEv.stp 0 (S' := (119, _, [some (.ref 0), some (.int x1), some (.int x2), some (.int ((gM_od s) (Int32.toNatClampNeg x2))), some (.int ((gM_od s) (Int32.toNatClampNeg (x2 + (nI 1))))), some (.int ((gM_od s) (Int32.toNatClampNeg (x2 + (nI 2)))))], [.int v31.1, .int x1], memM v31.2)) rfl ?_
      refine mEv.br 2 (S1 := (128, [], [some (.ref 0), some (.int x1), some (.int x2), some (.int ((gM_od s) (Int32.toNatClampNeg x2))), some (.int ((gM_od s) (Int32.toNatClampNeg (x2 + (nI 1))))), some (.int ((gM_od s) (Int32.toNatClampNeg (x2 + (nI 2)))))], [.int x1], memM v31.2)) (S2 := (124, _, [some (.ref 0), some (.int x1), some (.int x2), some (.int ((gM_od s) (Int32.toNatClampNeg x2))), some (.int ((gM_od s) (Int32.toNatClampNeg (x2 + (nI 1))))), some (.int ((gM_od s) (Int32.toNatClampNeg (x2 + (nI 2)))))], [.int x1], memM v31.2)) rfl (fun c33 => ?_) (fun c33 => ?_)
      · have h := (if_pos c33).symm.trans h
        refine mEv.stp 9 (S' := (59, [], [some (.ref 0), some (.int (x1 + (nI 1))), some (.int (x2 + (nI 4))), some (.int ((gM_od s) (Int32.toNatClampNeg x2))), some (.int ((gM_od s) (Int32.toNatClampNeg (x2 + (nI 1))))), some (.int ((gM_od s) (Int32.toNatClampNeg (x2 + (nI 2)))))], [], memM v31.2)) rfl ?_
        refine mEv.fg [3, 4, 5] (z' := [some (.ref 0), some (.int (x1 + (nI 1))), some (.int (x2 + (nI 4))), none, none, none]) rfl ?_
        obtain rfl := Option.some.inj h
        exact hk
      · have h := (if_neg c33).symm.trans h
        refine mEv.stp 9 (S' := (59, [], [some (.ref 0), some (.int (x1 + (nI 0))), some (.int (x2 + (nI 4))), some (.int ((gM_od s) (Int32.toNatClampNeg x2))), some (.int ((gM_od s) (Int32.toNatClampNeg (x2 + (nI 1))))), some (.int ((gM_od s) (Int32.toNatClampNeg (x2 + (nI 2)))))], [], memM v31.2)) rfl ?_
        refine mEv.fg [3, 4, 5] (z' := [some (.ref 0), some (.int (x1 + (nI 0))), some (.int (x2 + (nI 4))), none, none, none]) rfl ?_
        obtain rfl := Option.some.inj h
        exact hk
def F_X3_does  (s : ModS) : Option (Int32 × ModS) := (mWh (fun x => B_X3_does_15 x) fuel0 ((mkM (gM_ss s) (gM_ty s) (nI 0) (-nI 1) (nI 0) (gM_bd s) (gM_no s) (gM_fu s) (gM_nw s) (gM_as s) (gM_pa s) (gM_tx s) (gM_od s)))).bind (fun z7 => if (gM_ft z7) = (-nI 1) then ((F_X3_keeps z7).bind (fun v10 => (mWh (fun x => B_X3_does_59 x.1 x.2.1 x.2.2) fuel0 ((nI 0), (nI 0), v10)).bind (fun z34 => some ((z34.1, z34.2))))) else (some ((((-nI 10) - (gM_ft z7)), z7))))
set_option maxRecDepth 100000 in
theorem E_X3_does {d : Nat}  {s : ModS} {q : Int32 × ModS} (h : F_X3_does s = some q) : mEv (d + 6) m_X3_does none (0, [], [some (.ref 0), none, none, none, none, none], [], memM s) (some (Value.int q.1)) (memM q.2) := by
  unfold F_X3_does at h
  refine mEv.stp 10 (S' := (15, [], [some (.ref 0), none, none, none, none, none], [], memMx (gM_ss s) (gM_ty s) (nI 0) (-nI 1) (nI 0) (gM_bd s) (gM_no s) (gM_fu s) (gM_nw s) (gM_as s) (gM_pa s) (gM_tx s) (gM_od s))) rfl ?_
  refine mEv.mem memM_mk ?_
  obtain ⟨z7, e8, h⟩ := bnd h
  refine mWh_ind (b := (fun x => B_X3_does_15 x)) (P := fun x : ModS => mEv (d + 6) m_X3_does none (15, [], [some (.ref 0), none, none, none, none, none], [], memM x) (some (Value.int q.1)) (memM q.2)) (K := fun z : ModS => mEv (d + 6) m_X3_does none (35, [], [some (.ref 0), none, none, none, none, none], [], memM z) (some (Value.int q.1)) (memM q.2)) (fun x u hq hk => H_X3_does_15 (d := d) (s := x) (q := u) (r0 := (some (Value.int q.1))) (mu0 := (memM q.2)) hq hk) fuel0 ((mkM (gM_ss s) (gM_ty s) (nI 0) (-nI 1) (nI 0) (gM_bd s) (gM_no s) (gM_fu s) (gM_nw s) (gM_as s) (gM_pa s) (gM_tx s) (gM_od s))) z7 e8 ?_
  refine mEv.stp 0 (S' := (35, [], [some (.ref 0), none, none, none, none, none], [], memM z7)) rfl ?_
  refine mEv.br 5 (S1 := (51, [], [some (.ref 0), none, none, none, none, none], [], memM z7)) (S2 := (43, _, [some (.ref 0), none, none, none, none, none], [], memM z7)) rfl (fun c9 => ?_) (fun c9 => ?_)
  · have h := (if_pos c9).symm.trans h
    refine mEv.stp 2 (S' := (52, _, [some (.ref 0), none, none, none, none, none], [.ref 0], memM z7)) rfl ?_
    obtain ⟨v10, e11, h⟩ := bnd h
    refine mEv.callV (As := []) (st := []) (h := 0) (r := none) (μ1 := memM v10) lk_X3_51 rfl rfl rfl rfl rfl (A_X3_keeps (d := d + 5) e11) ?_
    refine mEv.stp 0 (S' := (55, _, [some (.ref 0), none, none, none, none, none], [], memM v10)) rfl ?_
    refine mEv.stp 4 (S' := (59, [], [some (.ref 0), some (.int (nI 0)), some (.int (nI 0)), none, none, none], [], memM v10)) rfl ?_
    obtain ⟨z34, e35, h⟩ := bnd h
    refine mWh_ind (b := (fun x => B_X3_does_59 x.1 x.2.1 x.2.2)) (P := fun x : Int32 × Int32 × ModS => mEv (d + 6) m_X3_does none (59, [], [some (.ref 0), some (.int x.1), some (.int x.2.1), none, none, none], [], memM x.2.2) (some (Value.int q.1)) (memM q.2)) (K := fun z : Int32 × ModS => mEv (d + 6) m_X3_does none (234, [], [none, some (.int z.1), none, none, none, none], [], memM z.2) (some (Value.int q.1)) (memM q.2)) (fun x u hq hk => H_X3_does_59 (d := d) (x1 := x.1) (x2 := x.2.1) (s := x.2.2) (q := u) (r0 := (some (Value.int q.1))) (mu0 := (memM q.2)) hq hk) fuel0 ((nI 0), (nI 0), v10) z34 e35 ?_
    refine mEv.stp 0 (S' := (234, [], [none, some (.int z34.1), none, none, none, none], [], memM z34.2)) rfl ?_
    obtain rfl := Option.some.inj h
    exact mEv.stp 2 (S' := (235, _, [none, some (.int z34.1), none, none, none, none], [.int z34.1], memM z34.2)) rfl (mEv.reti ⟨_, rfl, rfl⟩)
  · have h := (if_neg c9).symm.trans h
    obtain rfl := Option.some.inj h
    exact mEv.stp 4 (S' := (50, _, [some (.ref 0), none, none, none, none, none], [.int ((-nI 10) - (gM_ft z7))], memM z7)) rfl (mEv.reti ⟨_, rfl, rfl⟩)
theorem A_X3_does {d : Nat}  {s : ModS} {q : Int32 × ModS} (h : F_X3_does s = some q) : mCall (d + 6) m_X3_does [.ref 0] (memM s) (some (Value.int q.1)) (memM q.2) := mCall.intro ok_X3_does pl_X3_does rfl (E_X3_does (d := d) h)
def B_X3_undo_24 (x1 : Int32) (s : ModS) : Option ((Int32 × ModS) ⊕ (ModS)) := if (nI 637) ≤ x1 then (some (.inr (s))) else (gI (((nI 637) * (gM_ss s)) + x1) 3185 (gI x1 637 (some (.inl ((x1 + (nI 1)), (mkM (gM_ss s) (gM_ty s) (gM_at s) (gM_ft s) (gM_mn s) (gM_bd s) (gM_no s) (gM_fu s) (upd (gM_nw s) (Int32.toNatClampNeg x1) ((gM_pa s) (Int32.toNatClampNeg (((nI 637) * (gM_ss s)) + x1)))) (gM_as s) (gM_pa s) (gM_tx s) (gM_od s)))))))
set_option maxRecDepth 100000 in
theorem H_X3_undo_24 {d : Nat} {x1 : Int32} {s : ModS} {q : (Int32 × ModS) ⊕ (ModS)} {r0 : Option Value} {mu0 : MMe} (h : B_X3_undo_24 x1 s = some q) (hk : Sum.elim (fun x : Int32 × ModS => mEv (d + 1) m_X3_undo none (24, [], [some (.ref 0), some (.int x.1)], [], memM x.2) r0 mu0) (fun z : ModS => mEv (d + 1) m_X3_undo none (58, [], [some (.ref 0), none], [], memM z) r0 mu0) q) : mEv (d + 1) m_X3_undo none (24, [], [some (.ref 0), some (.int x1)], [], memM s) r0 mu0 := by
  unfold B_X3_undo_24 at h
  refine mEv.br 4 (S1 := (58, [], [some (.ref 0), some (.int x1)], [], memM s)) (S2 := (31, _, [some (.ref 0), some (.int x1)], [], memM s)) rfl (fun c2 => ?_) (fun c2 => ?_)
  · have h := (if_pos c2).symm.trans h
    refine mEv.fg [1] (z' := [some (.ref 0), none]) rfl ?_
    obtain rfl := Option.some.inj h
    exact hk
  · have h := (if_neg c2).symm.trans h
    obtain ⟨g3, h⟩ := gI_some h
    refine mEv.gd 12 (S' := (51, _, [some (.ref 0), some (.int x1)], [.int ((gM_pa s) (Int32.toNatClampNeg (((nI 637) * (gM_ss s)) + x1))), .int x1, .ref 1], memM s)) rfl g3 ?_
    obtain ⟨g4, h⟩ := gI_some h
    refine mEv.gd 1 (S' := (52, _, [some (.ref 0), some (.int x1)], [], memMx (gM_ss s) (gM_ty s) (gM_at s) (gM_ft s) (gM_mn s) (gM_bd s) (gM_no s) (gM_fu s) (upd (gM_nw s) (Int32.toNatClampNeg x1) ((gM_pa s) (Int32.toNatClampNeg (((nI 637) * (gM_ss s)) + x1)))) (gM_as s) (gM_pa s) (gM_tx s) (gM_od s))) rfl g4 ?_
    refine mEv.stp 2 (S' := (24, [], [some (.ref 0), some (.int (x1 + (nI 1)))], [], memMx (gM_ss s) (gM_ty s) (gM_at s) (gM_ft s) (gM_mn s) (gM_bd s) (gM_no s) (gM_fu s) (upd (gM_nw s) (Int32.toNatClampNeg x1) ((gM_pa s) (Int32.toNatClampNeg (((nI 637) * (gM_ss s)) + x1)))) (gM_as s) (gM_pa s) (gM_tx s) (gM_od s))) rfl ?_
    refine mEv.mem memM_mk ?_
    obtain rfl := Option.some.inj h
    exact hk
def F_X3_undo  (s : ModS) : Option (Int32 × ModS) := if ¬ (gM_ss s) = (nI 0) then ((mWh (fun x => B_X3_undo_24 x.1 x.2) fuel0 ((nI 0), (mkM ((gM_ss s) - (nI 1)) (gM_ty s) (gM_at s) (gM_ft s) (gM_mn s) (gM_bd s) (gM_no s) (gM_fu s) (gM_nw s) (gM_as s) (gM_pa s) (gM_tx s) (gM_od s)))).bind (fun z5 => some (((gM_ss z5), z5)))) else ((F_X3_nos s).bind (fun v7 => some ((v7.1, v7.2))))
set_option maxRecDepth 100000 in
theorem E_X3_undo {d : Nat}  {s : ModS} {q : Int32 × ModS} (h : F_X3_undo s = some q) : mEv (d + 1) m_X3_undo none (0, [], [some (.ref 0), none], [], memM s) (some (Value.int q.1)) (memM q.2) := by
  unfold F_X3_undo at h
  refine mEv.br 4 (S1 := (12, [], [some (.ref 0), none], [], memM s)) (S2 := (7, _, [some (.ref 0), none], [], memM s)) rfl (fun c1 => ?_) (fun c1 => ?_)
  · have h := (if_pos c1).symm.trans h
    refine mEv.stp 9 (S' := (24, [], [some (.ref 0), some (.int (nI 0))], [], memMx ((gM_ss s) - (nI 1)) (gM_ty s) (gM_at s) (gM_ft s) (gM_mn s) (gM_bd s) (gM_no s) (gM_fu s) (gM_nw s) (gM_as s) (gM_pa s) (gM_tx s) (gM_od s))) rfl ?_
    refine mEv.mem memM_mk ?_
    obtain ⟨z5, e6, h⟩ := bnd h
    refine mWh_ind (b := (fun x => B_X3_undo_24 x.1 x.2)) (P := fun x : Int32 × ModS => mEv (d + 1) m_X3_undo none (24, [], [some (.ref 0), some (.int x.1)], [], memM x.2) (some (Value.int q.1)) (memM q.2)) (K := fun z : ModS => mEv (d + 1) m_X3_undo none (58, [], [some (.ref 0), none], [], memM z) (some (Value.int q.1)) (memM q.2)) (fun x u hq hk => H_X3_undo_24 (d := d) (x1 := x.1) (s := x.2) (q := u) (r0 := (some (Value.int q.1))) (mu0 := (memM q.2)) hq hk) fuel0 ((nI 0), (mkM ((gM_ss s) - (nI 1)) (gM_ty s) (gM_at s) (gM_ft s) (gM_mn s) (gM_bd s) (gM_no s) (gM_fu s) (gM_nw s) (gM_as s) (gM_pa s) (gM_tx s) (gM_od s))) z5 e6 ?_
    refine mEv.stp 0 (S' := (58, [], [some (.ref 0), none], [], memM z5)) rfl ?_
    obtain rfl := Option.some.inj h
    exact mEv.stp 3 (S' := (62, _, [some (.ref 0), none], [.int (gM_ss z5)], memM z5)) rfl (mEv.reti ⟨_, rfl, rfl⟩)
  · have h := (if_neg c1).symm.trans h
    refine mEv.stp 1 (S' := (8, _, [some (.ref 0), none], [.ref 0], memM s)) rfl ?_
    obtain ⟨v7, e8, h⟩ := bnd h
    refine mEv.callV (As := []) (st := []) (h := 0) (r := (some (.int v7.1))) (μ1 := memM v7.2) lk_X3_108 rfl rfl rfl rfl rfl (A_X3_nos (d := d + 0) e8) ?_
    refine mEv.stp 0 (S' := (11, _, [some (.ref 0), none], [.int v7.1], memM v7.2)) rfl ?_
    obtain rfl := Option.some.inj h
    exact mEv.reti ⟨_, rfl, rfl⟩
theorem A_X3_undo {d : Nat}  {s : ModS} {q : Int32 × ModS} (h : F_X3_undo s = some q) : mCall (d + 1) m_X3_undo [.ref 0] (memM s) (some (Value.int q.1)) (memM q.2) := mCall.intro ok_X3_undo pl_X3_undo rfl (E_X3_undo (d := d) h)
def F_X3_told (p1 : Int32) (s : ModS) : Option (Int32 × ModS) := if p1 = (nI 0) then (some (((gM_bd s), s))) else (if p1 = (nI 1) then (some (((gM_no s), s))) else (if p1 = (nI 2) then (some (((gM_fu s), s))) else (if p1 = (nI 3) then (some (((gM_ty s), s))) else (if p1 = (nI 4) then (gI (nI 0) 637 (some ((((gM_nw s) (Int32.toNatClampNeg (nI 0))), s)))) else (if p1 = (nI 5) then (gI (nI 1) 637 (some ((((gM_nw s) (Int32.toNatClampNeg (nI 1))), s)))) else (if p1 = (nI 6) then (gI (nI 4) 637 (some ((((gM_nw s) (Int32.toNatClampNeg (nI 4))), s)))) else (if p1 = (nI 7) then (gI (nI 3) 637 (some ((((gM_nw s) (Int32.toNatClampNeg (nI 3))), s)))) else (if p1 = (nI 8) then (gI (nI 2) 637 (some ((((gM_nw s) (Int32.toNatClampNeg (nI 2))), s)))) else (if p1 = (nI 9) then (some (((gM_ss s), s))) else ((F_X3_bads s).bind (fun v16 => some ((v16.1, v16.2)))))))))))))
set_option maxRecDepth 100000 in
theorem E_X3_told {d : Nat} {p1 : Int32} {s : ModS} {q : Int32 × ModS} (h : F_X3_told p1 s = some q) : mEv (d + 1) m_X3_told none (0, [], [some (.ref 0), some (.int p1)], [], memM s) (some (Value.int q.1)) (memM q.2) := by
  unfold F_X3_told at h
  refine mEv.stp 3 (S' := (mSw p1 [(nI 0, 56), (nI 1, 61), (nI 2, 66), (nI 3, 71), (nI 4, 76), (nI 5, 83), (nI 6, 90), (nI 7, 97), (nI 8, 104), (nI 9, 111)] 116, [], [some (.ref 0), some (.int p1)], [], memM s)) rfl ?_
  refine mEv.sw (fun c1 => ?_) (fun c1 => ?_)
  · have h := (if_pos c1).symm.trans h
    obtain rfl := Option.some.inj h
    exact mEv.stp 3 (S' := (60, _, [some (.ref 0), some (.int p1)], [.int (gM_bd s)], memM s)) rfl (mEv.reti ⟨_, rfl, rfl⟩)
  · have h := (if_neg c1).symm.trans h
    refine mEv.sw (fun c2 => ?_) (fun c2 => ?_)
    · have h := (if_pos c2).symm.trans h
      obtain rfl := Option.some.inj h
      exact mEv.stp 3 (S' := (65, _, [some (.ref 0), some (.int p1)], [.int (gM_no s)], memM s)) rfl (mEv.reti ⟨_, rfl, rfl⟩)
    · have h := (if_neg c2).symm.trans h
      refine mEv.sw (fun c3 => ?_) (fun c3 => ?_)
      · have h := (if_pos c3).symm.trans h
        obtain rfl := Option.some.inj h
        exact mEv.stp 3 (S' := (70, _, [some (.ref 0), some (.int p1)], [.int (gM_fu s)], memM s)) rfl (mEv.reti ⟨_, rfl, rfl⟩)
      · have h := (if_neg c3).symm.trans h
        refine mEv.sw (fun c4 => ?_) (fun c4 => ?_)
        · have h := (if_pos c4).symm.trans h
          obtain rfl := Option.some.inj h
          exact mEv.stp 3 (S' := (75, _, [some (.ref 0), some (.int p1)], [.int (gM_ty s)], memM s)) rfl (mEv.reti ⟨_, rfl, rfl⟩)
        · have h := (if_neg c4).symm.trans h
          refine mEv.sw (fun c5 => ?_) (fun c5 => ?_)
          · have h := (if_pos c5).symm.trans h
            obtain ⟨g6, h⟩ := gI_some h
            refine mEv.gd 5 (S' := (82, _, [some (.ref 0), some (.int p1)], [.int ((gM_nw s) (Int32.toNatClampNeg (nI 0)))], memM s)) rfl g6 ?_
            obtain rfl := Option.some.inj h
            exact mEv.reti ⟨_, rfl, rfl⟩
          · have h := (if_neg c5).symm.trans h
            refine mEv.sw (fun c7 => ?_) (fun c7 => ?_)
            · have h := (if_pos c7).symm.trans h
              obtain ⟨g8, h⟩ := gI_some h
              refine mEv.gd 5 (S' := (89, _, [some (.ref 0), some (.int p1)], [.int ((gM_nw s) (Int32.toNatClampNeg (nI 1)))], memM s)) rfl g8 ?_
              obtain rfl := Option.some.inj h
              exact mEv.reti ⟨_, rfl, rfl⟩
            · have h := (if_neg c7).symm.trans h
              refine mEv.sw (fun c9 => ?_) (fun c9 => ?_)
              · have h := (if_pos c9).symm.trans h
                obtain ⟨g10, h⟩ := gI_some h
                refine mEv.gd 5 (S' := (96, _, [some (.ref 0), some (.int p1)], [.int ((gM_nw s) (Int32.toNatClampNeg (nI 4)))], memM s)) rfl g10 ?_
                obtain rfl := Option.some.inj h
                exact mEv.reti ⟨_, rfl, rfl⟩
              · have h := (if_neg c9).symm.trans h
                refine mEv.sw (fun c11 => ?_) (fun c11 => ?_)
                · have h := (if_pos c11).symm.trans h
                  obtain ⟨g12, h⟩ := gI_some h
                  refine mEv.gd 5 (S' := (103, _, [some (.ref 0), some (.int p1)], [.int ((gM_nw s) (Int32.toNatClampNeg (nI 3)))], memM s)) rfl g12 ?_
                  obtain rfl := Option.some.inj h
                  exact mEv.reti ⟨_, rfl, rfl⟩
                · have h := (if_neg c11).symm.trans h
                  refine mEv.sw (fun c13 => ?_) (fun c13 => ?_)
                  · have h := (if_pos c13).symm.trans h
                    obtain ⟨g14, h⟩ := gI_some h
                    refine mEv.gd 5 (S' := (110, _, [some (.ref 0), some (.int p1)], [.int ((gM_nw s) (Int32.toNatClampNeg (nI 2)))], memM s)) rfl g14 ?_
                    obtain rfl := Option.some.inj h
                    exact mEv.reti ⟨_, rfl, rfl⟩
                  · have h := (if_neg c13).symm.trans h
                    refine mEv.sw (fun c15 => ?_) (fun c15 => ?_)
                    · have h := (if_pos c15).symm.trans h
                      obtain rfl := Option.some.inj h
                      exact mEv.stp 3 (S' := (115, _, [some (.ref 0), some (.int p1)], [.int (gM_ss s)], memM s)) rfl (mEv.reti ⟨_, rfl, rfl⟩)
                    · have h := (if_neg c15).symm.trans h
                      refine mEv.stp 0 (S' := (116, [], [some (.ref 0), some (.int p1)], [], memM s)) rfl ?_
                      refine mEv.stp 2 (S' := (117, _, [some (.ref 0), some (.int p1)], [.ref 0], memM s)) rfl ?_
                      obtain ⟨v16, e17, h⟩ := bnd h
                      refine mEv.callV (As := []) (st := []) (h := 0) (r := (some (.int v16.1))) (μ1 := memM v16.2) lk_X3_47 rfl rfl rfl rfl rfl (A_X3_bads (d := d + 0) e17) ?_
                      refine mEv.stp 0 (S' := (120, _, [some (.ref 0), some (.int p1)], [.int v16.1], memM v16.2)) rfl ?_
                      obtain rfl := Option.some.inj h
                      exact mEv.reti ⟨_, rfl, rfl⟩
theorem A_X3_told {d : Nat} {p1 : Int32} {s : ModS} {q : Int32 × ModS} (h : F_X3_told p1 s = some q) : mCall (d + 1) m_X3_told [.ref 0, .int p1] (memM s) (some (Value.int q.1)) (memM q.2) := mCall.intro ok_X3_told pl_X3_told rfl (E_X3_told (d := d) h)
def B_X3_digest_6 (x1 : Int64) (x3 : Int32) (s : ModS) : Option ((Int64 × Int32 × ModS) ⊕ (Int64 × ModS)) := if (nI 10) ≤ x3 then (some (.inr (x1, s))) else ((F_X3_told x3 s).bind (fun v2 => some (.inl ((((lN 31) * x1) + (Int32.toInt64 v2.1)), (x3 + (nI 1)), v2.2))))
set_option maxRecDepth 100000 in
theorem H_X3_digest_6 {d : Nat} {x1 : Int64} {x3 : Int32} {s : ModS} {q : (Int64 × Int32 × ModS) ⊕ (Int64 × ModS)} {r0 : Option Value} {mu0 : MMe} (h : B_X3_digest_6 x1 x3 s = some q) (hk : Sum.elim (fun x : Int64 × Int32 × ModS => mEv (d + 3) m_X3_digest none (6, [], [some (.ref 0), some (.long x.1), none, some (.int x.2.1), none], [], memM x.2.2) r0 mu0) (fun z : Int64 × ModS => mEv (d + 3) m_X3_digest none (31, [], [some (.ref 0), some (.long z.1), none, none, none], [], memM z.2) r0 mu0) q) : mEv (d + 3) m_X3_digest none (6, [], [some (.ref 0), some (.long x1), none, some (.int x3), none], [], memM s) r0 mu0 := by
  unfold B_X3_digest_6 at h
  refine mEv.br 4 (S1 := (31, [], [some (.ref 0), some (.long x1), none, some (.int x3), none], [], memM s)) (S2 := (12, _, [some (.ref 0), some (.long x1), none, some (.int x3), none], [], memM s)) rfl (fun c1 => ?_) (fun c1 => ?_)
  · have h := (if_pos c1).symm.trans h
    refine mEv.fg [3] (z' := [some (.ref 0), some (.long x1), none, none, none]) rfl ?_
    obtain rfl := Option.some.inj h
    exact hk
  · have h := (if_neg c1).symm.trans h
    refine mEv.stp 5 (S' := (19, _, [some (.ref 0), some (.long x1), none, some (.int x3), none], [.int x3, .ref 0, .long ((lN 31) * x1)], memM s)) rfl ?_
    obtain ⟨v2, e3, h⟩ := bnd h
    refine mEv.callV (As := [.int x3]) (st := [.long ((lN 31) * x1)]) (h := 0) (r := (some (.int v2.1))) (μ1 := memM v2.2) lk_X3_154 rfl rfl rfl rfl rfl (A_X3_told (d := d + 1) e3) ?_
    refine mEv.stp 0 (S' := (22, _, [some (.ref 0), some (.long x1), none, some (.int x3), none], [.int v2.1, .long ((lN 31) * x1)], memM v2.2)) rfl ?_
    refine mEv.stp 5 (S' := (6, [], [some (.ref 0), some (.long (((lN 31) * x1) + (Int32.toInt64 v2.1))), none, some (.int (x3 + (nI 1))), none], [], memM v2.2)) rfl ?_
    obtain rfl := Option.some.inj h
    exact hk
def B_X3_digest_48 (x3 : Int32) (x1 : Int64) (x4 : Int32) (s : ModS) : Option ((Int64 × Int32) ⊕ (Int64)) := gI (nI 0) 637 (if ((gM_nw s) (Int32.toNatClampNeg (nI 0))) ≤ x4 then (some (.inr (x1))) else (gI (((nI 5) + ((nI 6) * x3)) + x4) 637 (gI (((nI 41) + ((nI 6) * x3)) + x4) 637 ((F_X3_free x3 x4 s).bind (fun v12 => some (.inl ((((lN 31) * (((lN 31) * (((lN 31) * x1) + (Int32.toInt64 ((gM_nw s) (Int32.toNatClampNeg (((nI 5) + ((nI 6) * x3)) + x4)))))) + (Int32.toInt64 ((gM_nw s) (Int32.toNatClampNeg (((nI 41) + ((nI 6) * x3)) + x4)))))) + (Int32.toInt64 v12)), (x4 + (nI 1)))))))))
set_option maxRecDepth 100000 in
theorem H_X3_digest_48 {d : Nat} {x3 : Int32} {x1 : Int64} {x4 : Int32} {s : ModS} {q : (Int64 × Int32) ⊕ (Int64)} {r0 : Option Value} {mu0 : MMe} (h : B_X3_digest_48 x3 x1 x4 s = some q) (hk : Sum.elim (fun x : Int64 × Int32 => mEv (d + 3) m_X3_digest none (48, [], [some (.ref 0), some (.long x.1), none, some (.int x3), some (.int x.2)], [], memM s) r0 mu0) (fun z : Int64 => mEv (d + 3) m_X3_digest none (125, [], [some (.ref 0), some (.long z), none, some (.int x3), none], [], memM s) r0 mu0) q) : mEv (d + 3) m_X3_digest none (48, [], [some (.ref 0), some (.long x1), none, some (.int x3), some (.int x4)], [], memM s) r0 mu0 := by
  unfold B_X3_digest_48 at h
  obtain ⟨g8, h⟩ := gI_some h
  refine mEv.gd 6 (S' := (56, _, [some (.ref 0), some (.long x1), none, some (.int x3), some (.int x4)], [.int ((gM_nw s) (Int32.toNatClampNeg (nI 0))), .int x4], memM s)) rfl g8 ?_
  refine mEv.br 1 (S1 := (125, [], [some (.ref 0), some (.long x1), none, some (.int x3), some (.int x4)], [], memM s)) (S2 := (59, _, [some (.ref 0), some (.long x1), none, some (.int x3), some (.int x4)], [], memM s)) rfl (fun c9 => ?_) (fun c9 => ?_)
  · have h := (if_pos c9).symm.trans h
    refine mEv.fg [4] (z' := [some (.ref 0), some (.long x1), none, some (.int x3), none]) rfl ?_
    obtain rfl := Option.some.inj h
    exact hk
  · have h := (if_neg c9).symm.trans h
    obtain ⟨g10, h⟩ := gI_some h
    refine mEv.gd 13 (S' := (78, _, [some (.ref 0), some (.long x1), none, some (.int x3), some (.int x4)], [.int ((gM_nw s) (Int32.toNatClampNeg (((nI 5) + ((nI 6) * x3)) + x4))), .long ((lN 31) * x1)], memM s)) rfl g10 ?_
    obtain ⟨g11, h⟩ := gI_some h
    refine mEv.gd 16 (S' := (101, _, [some (.ref 0), some (.long (((lN 31) * x1) + (Int32.toInt64 ((gM_nw s) (Int32.toNatClampNeg (((nI 5) + ((nI 6) * x3)) + x4)))))), none, some (.int x3), some (.int x4)], [.int ((gM_nw s) (Int32.toNatClampNeg (((nI 41) + ((nI 6) * x3)) + x4))), .long ((lN 31) * (((lN 31) * x1) + (Int32.toInt64 ((gM_nw s) (Int32.toNatClampNeg (((nI 5) + ((nI 6) * x3)) + x4))))))], memM s)) rfl g11 ?_
    refine mEv.stp 9 (S' := (113, _, [some (.ref 0), some (.long (((lN 31) * (((lN 31) * x1) + (Int32.toInt64 ((gM_nw s) (Int32.toNatClampNeg (((nI 5) + ((nI 6) * x3)) + x4)))))) + (Int32.toInt64 ((gM_nw s) (Int32.toNatClampNeg (((nI 41) + ((nI 6) * x3)) + x4)))))), none, some (.int x3), some (.int x4)], [.int x4, .int x3, .ref 0, .long ((lN 31) * (((lN 31) * (((lN 31) * x1) + (Int32.toInt64 ((gM_nw s) (Int32.toNatClampNeg (((nI 5) + ((nI 6) * x3)) + x4)))))) + (Int32.toInt64 ((gM_nw s) (Int32.toNatClampNeg (((nI 41) + ((nI 6) * x3)) + x4))))))], memM s)) rfl ?_
    obtain ⟨v12, e13, h⟩ := bnd h
    refine mEv.callV (As := [.int x3, .int x4]) (st := [.long ((lN 31) * (((lN 31) * (((lN 31) * x1) + (Int32.toInt64 ((gM_nw s) (Int32.toNatClampNeg (((nI 5) + ((nI 6) * x3)) + x4)))))) + (Int32.toInt64 ((gM_nw s) (Int32.toNatClampNeg (((nI 41) + ((nI 6) * x3)) + x4))))))]) (h := 0) (r := (some (.int v12))) (μ1 := memM s) lk_X3_67 rfl rfl rfl rfl rfl (A_X3_free (d := d + 0) e13) ?_
    refine mEv.stp 0 (S' := (116, _, [some (.ref 0), some (.long (((lN 31) * (((lN 31) * x1) + (Int32.toInt64 ((gM_nw s) (Int32.toNatClampNeg (((nI 5) + ((nI 6) * x3)) + x4)))))) + (Int32.toInt64 ((gM_nw s) (Int32.toNatClampNeg (((nI 41) + ((nI 6) * x3)) + x4)))))), none, some (.int x3), some (.int x4)], [.int v12, .long ((lN 31) * (((lN 31) * (((lN 31) * x1) + (Int32.toInt64 ((gM_nw s) (Int32.toNatClampNeg (((nI 5) + ((nI 6) * x3)) + x4)))))) + (Int32.toInt64 ((gM_nw s) (Int32.toNatClampNeg (((nI 41) + ((nI 6) * x3)) + x4))))))], memM s)) rfl ?_
    refine mEv.stp 5 (S' := (48, [], [some (.ref 0), some (.long (((lN 31) * (((lN 31) * (((lN 31) * x1) + (Int32.toInt64 ((gM_nw s) (Int32.toNatClampNeg (((nI 5) + ((nI 6) * x3)) + x4)))))) + (Int32.toInt64 ((gM_nw s) (Int32.toNatClampNeg (((nI 41) + ((nI 6) * x3)) + x4)))))) + (Int32.toInt64 v12))), none, some (.int x3), some (.int (x4 + (nI 1)))], [], memM s)) rfl ?_
    obtain rfl := Option.some.inj h
    exact hk
def B_X3_digest_33 (x1 : Int64) (x3 : Int32) (s : ModS) : Option ((Int64 × Int32) ⊕ (Int64)) := gI (nI 0) 637 (if ((gM_nw s) (Int32.toNatClampNeg (nI 0))) ≤ x3 then (some (.inr (x1))) else ((mWh (fun x => B_X3_digest_48 x3 x.1 x.2 s) fuel0 (x1, (x3 + (nI 1)))).bind (fun z14 => some (.inl (z14, (x3 + (nI 1)))))))
set_option maxRecDepth 100000 in
theorem H_X3_digest_33 {d : Nat} {x1 : Int64} {x3 : Int32} {s : ModS} {q : (Int64 × Int32) ⊕ (Int64)} {r0 : Option Value} {mu0 : MMe} (h : B_X3_digest_33 x1 x3 s = some q) (hk : Sum.elim (fun x : Int64 × Int32 => mEv (d + 3) m_X3_digest none (33, [], [some (.ref 0), some (.long x.1), none, some (.int x.2), none], [], memM s) r0 mu0) (fun z : Int64 => mEv (d + 3) m_X3_digest none (131, [], [some (.ref 0), some (.long z), none, none, none], [], memM s) r0 mu0) q) : mEv (d + 3) m_X3_digest none (33, [], [some (.ref 0), some (.long x1), none, some (.int x3), none], [], memM s) r0 mu0 := by
  unfold B_X3_digest_33 at h
  obtain ⟨g6, h⟩ := gI_some h
  refine mEv.gd 6 (S' := (40, _, [some (.ref 0), some (.long x1), none, some (.int x3), none], [.int ((gM_nw s) (Int32.toNatClampNeg (nI 0))), .int x3], memM s)) rfl g6 ?_
  refine mEv.br 1 (S1 := (131, [], [some (.ref 0), some (.long x1), none, some (.int x3), none], [], memM s)) (S2 := (43, _, [some (.ref 0), some (.long x1), none, some (.int x3), none], [], memM s)) rfl (fun c7 => ?_) (fun c7 => ?_)
  · have h := (if_pos c7).symm.trans h
    refine mEv.fg [3] (z' := [some (.ref 0), some (.long x1), none, none, none]) rfl ?_
    obtain rfl := Option.some.inj h
    exact hk
  · have h := (if_neg c7).symm.trans h
    refine mEv.stp 4 (S' := (48, [], [some (.ref 0), some (.long x1), none, some (.int x3), some (.int (x3 + (nI 1)))], [], memM s)) rfl ?_
    obtain ⟨z14, e15, h⟩ := bnd h
    refine mWh_ind (b := (fun x => B_X3_digest_48 x3 x.1 x.2 s)) (P := fun x : Int64 × Int32 => mEv (d + 3) m_X3_digest none (48, [], [some (.ref 0), some (.long x.1), none, some (.int x3), some (.int x.2)], [], memM s) r0 mu0) (K := fun z : Int64 => mEv (d + 3) m_X3_digest none (125, [], [some (.ref 0), some (.long z), none, some (.int x3), none], [], memM s) r0 mu0) (fun x u hq hk => H_X3_digest_48 (d := d) (x3 := x3) (x1 := x.1) (x4 := x.2) (s := s) (q := u) (r0 := r0) (mu0 := mu0) hq hk) fuel0 (x1, (x3 + (nI 1))) z14 e15 ?_
    refine mEv.stp 0 (S' := (125, [], [some (.ref 0), some (.long z14), none, some (.int x3), none], [], memM s)) rfl ?_
    refine mEv.stp 3 (S' := (33, [], [some (.ref 0), some (.long z14), none, some (.int (x3 + (nI 1))), none], [], memM s)) rfl ?_
    obtain rfl := Option.some.inj h
    exact hk
def B_X3_digest_146 (x3 : Int32) (x1 : Int64) (x4 : Int32) (s : ModS) : Option ((Int64 × Int32) ⊕ (Int64)) := gI (nI 0) 637 (if ((gM_nw s) (Int32.toNatClampNeg (nI 0))) ≤ x4 then (some (.inr (x1))) else (if x3 = x4 then (some (.inl (x1, (x4 + (nI 1))))) else (gI (((nI 77) + ((nI 6) * x3)) + x4) 637 (gI (((nI 113) + ((nI 5) * (((nI 6) * x3) + x4))) + (nI 4)) 637 (some (.inl ((((lN 31) * (((lN 31) * x1) + (Int32.toInt64 ((gM_nw s) (Int32.toNatClampNeg (((nI 77) + ((nI 6) * x3)) + x4)))))) + (Int32.toInt64 ((gM_nw s) (Int32.toNatClampNeg (((nI 113) + ((nI 5) * (((nI 6) * x3) + x4))) + (nI 4)))))), (x4 + (nI 1)))))))))
set_option maxRecDepth 100000 in
theorem H_X3_digest_146 {d : Nat} {x3 : Int32} {x1 : Int64} {x4 : Int32} {s : ModS} {q : (Int64 × Int32) ⊕ (Int64)} {r0 : Option Value} {mu0 : MMe} (h : B_X3_digest_146 x3 x1 x4 s = some q) (hk : Sum.elim (fun x : Int64 × Int32 => mEv (d + 3) m_X3_digest none (146, [], [some (.ref 0), some (.long x.1), none, some (.int x3), some (.int x.2)], [], memM s) r0 mu0) (fun z : Int64 => mEv (d + 3) m_X3_digest none (219, [], [some (.ref 0), some (.long z), none, some (.int x3), none], [], memM s) r0 mu0) q) : mEv (d + 3) m_X3_digest none (146, [], [some (.ref 0), some (.long x1), none, some (.int x3), some (.int x4)], [], memM s) r0 mu0 := by
  unfold B_X3_digest_146 at h
  obtain ⟨g20, h⟩ := gI_some h
  refine mEv.gd 6 (S' := (154, _, [some (.ref 0), some (.long x1), none, some (.int x3), some (.int x4)], [.int ((gM_nw s) (Int32.toNatClampNeg (nI 0))), .int x4], memM s)) rfl g20 ?_
  refine mEv.br 1 (S1 := (219, [], [some (.ref 0), some (.long x1), none, some (.int x3), some (.int x4)], [], memM s)) (S2 := (157, _, [some (.ref 0), some (.long x1), none, some (.int x3), some (.int x4)], [], memM s)) rfl (fun c21 => ?_) (fun c21 => ?_)
  · have h := (if_pos c21).symm.trans h
    refine mEv.fg [4] (z' := [some (.ref 0), some (.long x1), none, some (.int x3), none]) rfl ?_
    obtain rfl := Option.some.inj h
    exact hk
  · have h := (if_neg c21).symm.trans h
    refine mEv.br 3 (S1 := (213, [], [some (.ref 0), some (.long x1), none, some (.int x3), some (.int x4)], [], memM s)) (S2 := (163, _, [some (.ref 0), some (.long x1), none, some (.int x3), some (.int x4)], [], memM s)) rfl (fun c22 => ?_) (fun c22 => ?_)
    · have h := (if_pos c22).symm.trans h
      refine mEv.stp 3 (S' := (146, [], [some (.ref 0), some (.long x1), none, some (.int x3), some (.int (x4 + (nI 1)))], [], memM s)) rfl ?_
      obtain rfl := Option.some.inj h
      exact hk
    · have h := (if_neg c22).symm.trans h
      obtain ⟨g23, h⟩ := gI_some h
      refine mEv.gd 13 (S' := (183, _, [some (.ref 0), some (.long x1), none, some (.int x3), some (.int x4)], [.int ((gM_nw s) (Int32.toNatClampNeg (((nI 77) + ((nI 6) * x3)) + x4))), .long ((lN 31) * x1)], memM s)) rfl g23 ?_
      obtain ⟨g24, h⟩ := gI_some h
      refine mEv.gd 20 (S' := (210, _, [some (.ref 0), some (.long (((lN 31) * x1) + (Int32.toInt64 ((gM_nw s) (Int32.toNatClampNeg (((nI 77) + ((nI 6) * x3)) + x4)))))), none, some (.int x3), some (.int x4)], [.int ((gM_nw s) (Int32.toNatClampNeg (((nI 113) + ((nI 5) * (((nI 6) * x3) + x4))) + (nI 4)))), .long ((lN 31) * (((lN 31) * x1) + (Int32.toInt64 ((gM_nw s) (Int32.toNatClampNeg (((nI 77) + ((nI 6) * x3)) + x4))))))], memM s)) rfl g24 ?_
      refine mEv.stp 6 (S' := (146, [], [some (.ref 0), some (.long (((lN 31) * (((lN 31) * x1) + (Int32.toInt64 ((gM_nw s) (Int32.toNatClampNeg (((nI 77) + ((nI 6) * x3)) + x4)))))) + (Int32.toInt64 ((gM_nw s) (Int32.toNatClampNeg (((nI 113) + ((nI 5) * (((nI 6) * x3) + x4))) + (nI 4))))))), none, some (.int x3), some (.int (x4 + (nI 1)))], [], memM s)) rfl ?_
      obtain rfl := Option.some.inj h
      exact hk
def B_X3_digest_133 (x1 : Int64) (x3 : Int32) (s : ModS) : Option ((Int64 × Int32) ⊕ (Int64)) := gI (nI 0) 637 (if ((gM_nw s) (Int32.toNatClampNeg (nI 0))) ≤ x3 then (some (.inr (x1))) else ((mWh (fun x => B_X3_digest_146 x3 x.1 x.2 s) fuel0 (x1, (nI 0))).bind (fun z25 => some (.inl (z25, (x3 + (nI 1)))))))
set_option maxRecDepth 100000 in
theorem H_X3_digest_133 {d : Nat} {x1 : Int64} {x3 : Int32} {s : ModS} {q : (Int64 × Int32) ⊕ (Int64)} {r0 : Option Value} {mu0 : MMe} (h : B_X3_digest_133 x1 x3 s = some q) (hk : Sum.elim (fun x : Int64 × Int32 => mEv (d + 3) m_X3_digest none (133, [], [some (.ref 0), some (.long x.1), none, some (.int x.2), none], [], memM s) r0 mu0) (fun z : Int64 => mEv (d + 3) m_X3_digest none (225, [], [some (.ref 0), some (.long z), none, none, none], [], memM s) r0 mu0) q) : mEv (d + 3) m_X3_digest none (133, [], [some (.ref 0), some (.long x1), none, some (.int x3), none], [], memM s) r0 mu0 := by
  unfold B_X3_digest_133 at h
  obtain ⟨g18, h⟩ := gI_some h
  refine mEv.gd 6 (S' := (140, _, [some (.ref 0), some (.long x1), none, some (.int x3), none], [.int ((gM_nw s) (Int32.toNatClampNeg (nI 0))), .int x3], memM s)) rfl g18 ?_
  refine mEv.br 1 (S1 := (225, [], [some (.ref 0), some (.long x1), none, some (.int x3), none], [], memM s)) (S2 := (143, _, [some (.ref 0), some (.long x1), none, some (.int x3), none], [], memM s)) rfl (fun c19 => ?_) (fun c19 => ?_)
  · have h := (if_pos c19).symm.trans h
    refine mEv.fg [3] (z' := [some (.ref 0), some (.long x1), none, none, none]) rfl ?_
    obtain rfl := Option.some.inj h
    exact hk
  · have h := (if_neg c19).symm.trans h
    refine mEv.stp 2 (S' := (146, [], [some (.ref 0), some (.long x1), none, some (.int x3), some (.int (nI 0))], [], memM s)) rfl ?_
    obtain ⟨z25, e26, h⟩ := bnd h
    refine mWh_ind (b := (fun x => B_X3_digest_146 x3 x.1 x.2 s)) (P := fun x : Int64 × Int32 => mEv (d + 3) m_X3_digest none (146, [], [some (.ref 0), some (.long x.1), none, some (.int x3), some (.int x.2)], [], memM s) r0 mu0) (K := fun z : Int64 => mEv (d + 3) m_X3_digest none (219, [], [some (.ref 0), some (.long z), none, some (.int x3), none], [], memM s) r0 mu0) (fun x u hq hk => H_X3_digest_146 (d := d) (x3 := x3) (x1 := x.1) (x4 := x.2) (s := s) (q := u) (r0 := r0) (mu0 := mu0) hq hk) fuel0 (x1, (nI 0)) z25 e26 ?_
    refine mEv.stp 0 (S' := (219, [], [some (.ref 0), some (.long z25), none, some (.int x3), none], [], memM s)) rfl ?_
    refine mEv.stp 3 (S' := (133, [], [some (.ref 0), some (.long z25), none, some (.int (x3 + (nI 1))), none], [], memM s)) rfl ?_
    obtain rfl := Option.some.inj h
    exact hk
def B_X3_digest_227 (x1 : Int64) (x3 : Int32) (s : ModS) : Option ((Int64 × Int32) ⊕ (Int64)) := if (nI 24) ≤ x3 then (some (.inr (x1))) else (gI ((nI 293) + x3) 637 (some (.inl ((((lN 31) * x1) + (Int32.toInt64 ((gM_nw s) (Int32.toNatClampNeg ((nI 293) + x3))))), (x3 + (nI 1))))))
set_option maxRecDepth 100000 in
theorem H_X3_digest_227 {d : Nat} {x1 : Int64} {x3 : Int32} {s : ModS} {q : (Int64 × Int32) ⊕ (Int64)} {r0 : Option Value} {mu0 : MMe} (h : B_X3_digest_227 x1 x3 s = some q) (hk : Sum.elim (fun x : Int64 × Int32 => mEv (d + 3) m_X3_digest none (227, [], [some (.ref 0), some (.long x.1), none, some (.int x.2), none], [], memM s) r0 mu0) (fun z : Int64 => mEv (d + 3) m_X3_digest none (257, [], [some (.ref 0), some (.long z), none, none, none], [], memM s) r0 mu0) q) : mEv (d + 3) m_X3_digest none (227, [], [some (.ref 0), some (.long x1), none, some (.int x3), none], [], memM s) r0 mu0 := by
  unfold B_X3_digest_227 at h
  refine mEv.br 4 (S1 := (257, [], [some (.ref 0), some (.long x1), none, some (.int x3), none], [], memM s)) (S2 := (233, _, [some (.ref 0), some (.long x1), none, some (.int x3), none], [], memM s)) rfl (fun c29 => ?_) (fun c29 => ?_)
  · have h := (if_pos c29).symm.trans h
    refine mEv.fg [3] (z' := [some (.ref 0), some (.long x1), none, none, none]) rfl ?_
    obtain rfl := Option.some.inj h
    exact hk
  · have h := (if_neg c29).symm.trans h
    obtain ⟨g30, h⟩ := gI_some h
    refine mEv.gd 9 (S' := (248, _, [some (.ref 0), some (.long x1), none, some (.int x3), none], [.int ((gM_nw s) (Int32.toNatClampNeg ((nI 293) + x3))), .long ((lN 31) * x1)], memM s)) rfl g30 ?_
    refine mEv.stp 5 (S' := (227, [], [some (.ref 0), some (.long (((lN 31) * x1) + (Int32.toInt64 ((gM_nw s) (Int32.toNatClampNeg ((nI 293) + x3)))))), none, some (.int (x3 + (nI 1))), none], [], memM s)) rfl ?_
    obtain rfl := Option.some.inj h
    exact hk
def B_X3_digest_259 (x1 : Int64) (x3 : Int32) (s : ModS) : Option ((Int64 × Int32) ⊕ (Int64)) := gI (nI 4) 637 (if ((nI 4) * ((gM_nw s) (Int32.toNatClampNeg (nI 4)))) ≤ x3 then (some (.inr (x1))) else (gI ((nI 317) + x3) 637 (some (.inl ((((lN 31) * x1) + (Int32.toInt64 ((gM_nw s) (Int32.toNatClampNeg ((nI 317) + x3))))), (x3 + (nI 1)))))))
set_option maxRecDepth 100000 in
theorem H_X3_digest_259 {d : Nat} {x1 : Int64} {x3 : Int32} {s : ModS} {q : (Int64 × Int32) ⊕ (Int64)} {r0 : Option Value} {mu0 : MMe} (h : B_X3_digest_259 x1 x3 s = some q) (hk : Sum.elim (fun x : Int64 × Int32 => mEv (d + 3) m_X3_digest none (259, [], [some (.ref 0), some (.long x.1), none, some (.int x.2), none], [], memM s) r0 mu0) (fun z : Int64 => mEv (d + 3) m_X3_digest none (295, [], [none, some (.long z), none, none, none], [], memM s) r0 mu0) q) : mEv (d + 3) m_X3_digest none (259, [], [some (.ref 0), some (.long x1), none, some (.int x3), none], [], memM s) r0 mu0 := by
  unfold B_X3_digest_259 at h
  obtain ⟨g33, h⟩ := gI_some h
  refine mEv.gd 7 (S' := (267, _, [some (.ref 0), some (.long x1), none, some (.int x3), none], [.int ((gM_nw s) (Int32.toNatClampNeg (nI 4))), .int (nI 4), .int x3], memM s)) rfl g33 ?_
  refine mEv.br 2 (S1 := (295, [], [some (.ref 0), some (.long x1), none, some (.int x3), none], [], memM s)) (S2 := (271, _, [some (.ref 0), some (.long x1), none, some (.int x3), none], [], memM s)) rfl (fun c34 => ?_) (fun c34 => ?_)
  · have h := (if_pos c34).symm.trans h
    refine mEv.fg [0, 3] (z' := [none, some (.long x1), none, none, none]) rfl ?_
    obtain rfl := Option.some.inj h
    exact hk
  · have h := (if_neg c34).symm.trans h
    obtain ⟨g35, h⟩ := gI_some h
    refine mEv.gd 9 (S' := (286, _, [some (.ref 0), some (.long x1), none, some (.int x3), none], [.int ((gM_nw s) (Int32.toNatClampNeg ((nI 317) + x3))), .long ((lN 31) * x1)], memM s)) rfl g35 ?_
    refine mEv.stp 5 (S' := (259, [], [some (.ref 0), some (.long (((lN 31) * x1) + (Int32.toInt64 ((gM_nw s) (Int32.toNatClampNeg ((nI 317) + x3)))))), none, some (.int (x3 + (nI 1))), none], [], memM s)) rfl ?_
    obtain rfl := Option.some.inj h
    exact hk
def F_X3_digest  (s : ModS) : Option (Int64 × ModS) := (mWh (fun x => B_X3_digest_6 x.1 x.2.1 x.2.2) fuel0 ((lN 2129), (nI 0), s)).bind (fun z4 => (mWh (fun x => B_X3_digest_33 x.1 x.2 z4.2) fuel0 (z4.1, (nI 0))).bind (fun z16 => (mWh (fun x => B_X3_digest_133 x.1 x.2 z4.2) fuel0 (z16, (nI 0))).bind (fun z27 => (mWh (fun x => B_X3_digest_227 x.1 x.2 z4.2) fuel0 (z27, (nI 0))).bind (fun z31 => (mWh (fun x => B_X3_digest_259 x.1 x.2 z4.2) fuel0 (z31, (nI 0))).bind (fun z36 => some ((z36, z4.2)))))))
set_option maxRecDepth 100000 in
theorem E_X3_digest {d : Nat}  {s : ModS} {q : Int64 × ModS} (h : F_X3_digest s = some q) : mEv (d + 3) m_X3_digest none (0, [], [some (.ref 0), none, none, none, none], [], memM s) (some (Value.long q.1)) (memM q.2) := by
  unfold F_X3_digest at h
  refine mEv.stp 5 (S' := (6, [], [some (.ref 0), some (.long (lN 2129)), none, some (.int (nI 0)), none], [], memM s)) rfl ?_
  obtain ⟨z4, e5, h⟩ := bnd h
  refine mWh_ind (b := (fun x => B_X3_digest_6 x.1 x.2.1 x.2.2)) (P := fun x : Int64 × Int32 × ModS => mEv (d + 3) m_X3_digest none (6, [], [some (.ref 0), some (.long x.1), none, some (.int x.2.1), none], [], memM x.2.2) (some (Value.long q.1)) (memM q.2)) (K := fun z : Int64 × ModS => mEv (d + 3) m_X3_digest none (31, [], [some (.ref 0), some (.long z.1), none, none, none], [], memM z.2) (some (Value.long q.1)) (memM q.2)) (fun x u hq hk => H_X3_digest_6 (d := d) (x1 := x.1) (x3 := x.2.1) (s := x.2.2) (q := u) (r0 := (some (Value.long q.1))) (mu0 := (memM q.2)) hq hk) fuel0 ((lN 2129), (nI 0), s) z4 e5 ?_
  refine mEv.stp 0 (S' := (31, [], [some (.ref 0), some (.long z4.1), none, none, none], [], memM z4.2)) rfl ?_
  refine mEv.stp 3 (S' := (33, [], [some (.ref 0), some (.long z4.1), none, some (.int (nI 0)), none], [], memM z4.2)) rfl ?_
  obtain ⟨z16, e17, h⟩ := bnd h
  refine mWh_ind (b := (fun x => B_X3_digest_33 x.1 x.2 z4.2)) (P := fun x : Int64 × Int32 => mEv (d + 3) m_X3_digest none (33, [], [some (.ref 0), some (.long x.1), none, some (.int x.2), none], [], memM z4.2) (some (Value.long q.1)) (memM q.2)) (K := fun z : Int64 => mEv (d + 3) m_X3_digest none (131, [], [some (.ref 0), some (.long z), none, none, none], [], memM z4.2) (some (Value.long q.1)) (memM q.2)) (fun x u hq hk => H_X3_digest_33 (d := d) (x1 := x.1) (x3 := x.2) (s := z4.2) (q := u) (r0 := (some (Value.long q.1))) (mu0 := (memM q.2)) hq hk) fuel0 (z4.1, (nI 0)) z16 e17 ?_
  refine mEv.stp 0 (S' := (131, [], [some (.ref 0), some (.long z16), none, none, none], [], memM z4.2)) rfl ?_
  refine mEv.stp 3 (S' := (133, [], [some (.ref 0), some (.long z16), none, some (.int (nI 0)), none], [], memM z4.2)) rfl ?_
  obtain ⟨z27, e28, h⟩ := bnd h
  refine mWh_ind (b := (fun x => B_X3_digest_133 x.1 x.2 z4.2)) (P := fun x : Int64 × Int32 => mEv (d + 3) m_X3_digest none (133, [], [some (.ref 0), some (.long x.1), none, some (.int x.2), none], [], memM z4.2) (some (Value.long q.1)) (memM q.2)) (K := fun z : Int64 => mEv (d + 3) m_X3_digest none (225, [], [some (.ref 0), some (.long z), none, none, none], [], memM z4.2) (some (Value.long q.1)) (memM q.2)) (fun x u hq hk => H_X3_digest_133 (d := d) (x1 := x.1) (x3 := x.2) (s := z4.2) (q := u) (r0 := (some (Value.long q.1))) (mu0 := (memM q.2)) hq hk) fuel0 (z16, (nI 0)) z27 e28 ?_
  refine mEv.stp 0 (S' := (225, [], [some (.ref 0), some (.long z27), none, none, none], [], memM z4.2)) rfl ?_
  refine mEv.stp 3 (S' := (227, [], [some (.ref 0), some (.long z27), none, some (.int (nI 0)), none], [], memM z4.2)) rfl ?_
  obtain ⟨z31, e32, h⟩ := bnd h
  refine mWh_ind (b := (fun x => B_X3_digest_227 x.1 x.2 z4.2)) (P := fun x : Int64 × Int32 => mEv (d + 3) m_X3_digest none (227, [], [some (.ref 0), some (.long x.1), none, some (.int x.2), none], [], memM z4.2) (some (Value.long q.1)) (memM q.2)) (K := fun z : Int64 => mEv (d + 3) m_X3_digest none (257, [], [some (.ref 0), some (.long z), none, none, none], [], memM z4.2) (some (Value.long q.1)) (memM q.2)) (fun x u hq hk => H_X3_digest_227 (d := d) (x1 := x.1) (x3 := x.2) (s := z4.2) (q := u) (r0 := (some (Value.long q.1))) (mu0 := (memM q.2)) hq hk) fuel0 (z27, (nI 0)) z31 e32 ?_
  refine mEv.stp 0 (S' := (257, [], [some (.ref 0), some (.long z31), none, none, none], [], memM z4.2)) rfl ?_
  refine mEv.stp 3 (S' := (259, [], [some (.ref 0), some (.long z31), none, some (.int (nI 0)), none], [], memM z4.2)) rfl ?_
  obtain ⟨z36, e37, h⟩ := bnd h
  refine mWh_ind (b := (fun x => B_X3_digest_259 x.1 x.2 z4.2)) (P := fun x : Int64 × Int32 => mEv (d + 3) m_X3_digest none (259, [], [some (.ref 0), some (.long x.1), none, some (.int x.2), none], [], memM z4.2) (some (Value.long q.1)) (memM q.2)) (K := fun z : Int64 => mEv (d + 3) m_X3_digest none (295, [], [none, some (.long z), none, none, none], [], memM z4.2) (some (Value.long q.1)) (memM q.2)) (fun x u hq hk => H_X3_digest_259 (d := d) (x1 := x.1) (x3 := x.2) (s := z4.2) (q := u) (r0 := (some (Value.long q.1))) (mu0 := (memM q.2)) hq hk) fuel0 (z31, (nI 0)) z36 e37 ?_
  refine mEv.stp 0 (S' := (295, [], [none, some (.long z36), none, none, none], [], memM z4.2)) rfl ?_
  obtain rfl := Option.some.inj h
  exact mEv.stp 2 (S' := (296, _, [none, some (.long z36), none, none, none], [.long z36], memM z4.2)) rfl (mEv.retl rfl)
theorem A_X3_digest {d : Nat}  {s : ModS} {q : Int64 × ModS} (h : F_X3_digest s = some q) : mCall (d + 3) m_X3_digest [.ref 0] (memM s) (some (Value.long q.1)) (memM q.2) := mCall.intro ok_X3_digest pl_X3_digest rfl (E_X3_digest (d := d) h)
