def F_J9_floorMod_7cf53 (p0 : Int32) (p1 : Int32)  : Option (Int32) := gZ p1 (if (nI 0) ≤ (p0 ^^^ p1) then (some ((p0 - p0 / p1 * p1))) else (if (p0 - p0 / p1 * p1) = (nI 0) then (some ((p0 - p0 / p1 * p1))) else (some (((p0 - p0 / p1 * p1) + p1)))))
set_option maxRecDepth 100000 in
theorem E_J9_floorMod_7cf53 {d : Nat} {p0 : Int32} {p1 : Int32} {μ : MMe} {q : Int32} (h : F_J9_floorMod_7cf53 p0 p1 = some q) : mEv d m_J9_floorMod_7cf53 none (0, [], [some (.int p0), some (.int p1), none], [], μ) (some (Value.int q)) (μ) := by
  unfold F_J9_floorMod_7cf53 at h
  obtain ⟨g1, h⟩ := gZ_some h
  refine mEv.gd 4 (S' := (3, _, [some (.int p0), some (.int p1), none], [.int (p0 - p0 / p1 * p1)], μ)) rfl g1 ?_
  refine mEv.br 5 (S1 := (18, [], [some (.int p0), some (.int p1), some (.int (p0 - p0 / p1 * p1))], [], μ)) (S2 := (10, _, [some (.int p0), some (.int p1), some (.int (p0 - p0 / p1 * p1))], [], μ)) rfl (fun c2 => ?_) (fun c2 => ?_)
  · have h := (if_pos c2).symm.trans h
    obtain rfl := Option.some.inj h
    exact mEv.stp 2 (S' := (19, _, [some (.int p0), some (.int p1), some (.int (p0 - p0 / p1 * p1))], [.int (p0 - p0 / p1 * p1)], μ)) rfl (mEv.reti ⟨_, rfl, rfl⟩)
  · have h := (if_neg c2).symm.trans h
    refine mEv.br 2 (S1 := (18, [], [some (.int p0), some (.int p1), some (.int (p0 - p0 / p1 * p1))], [], μ)) (S2 := (14, _, [some (.int p0), some (.int p1), some (.int (p0 - p0 / p1 * p1))], [], μ)) rfl (fun c3 => ?_) (fun c3 => ?_)
    · have h := (if_pos c3).symm.trans h
      obtain rfl := Option.some.inj h
      exact mEv.stp 2 (S' := (19, _, [some (.int p0), some (.int p1), some (.int (p0 - p0 / p1 * p1))], [.int (p0 - p0 / p1 * p1)], μ)) rfl (mEv.reti ⟨_, rfl, rfl⟩)
    · have h := (if_neg c3).symm.trans h
      obtain rfl := Option.some.inj h
      exact mEv.stp 3 (S' := (17, _, [some (.int p0), some (.int p1), some (.int (p0 - p0 / p1 * p1))], [.int ((p0 - p0 / p1 * p1) + p1)], μ)) rfl (mEv.reti ⟨_, rfl, rfl⟩)
theorem A_J9_floorMod_7cf53 {d : Nat} {p0 : Int32} {p1 : Int32} {μ : MMe} {q : Int32} (h : F_J9_floorMod_7cf53 p0 p1 = some q) : mCall d m_J9_floorMod_7cf53 [.int p0, .int p1] (μ) (some (Value.int q)) (μ) := mCall.intro ok_J9_floorMod_7cf53 pl_J9_floorMod_7cf53 rfl (E_J9_floorMod_7cf53 (d := d) h)
def F_J9_max_7cf53 (p0 : Int32) (p1 : Int32)  : Option (Int32) := if p0 < p1 then (some (p1)) else (some (p0))
set_option maxRecDepth 100000 in
theorem E_J9_max_7cf53 {d : Nat} {p0 : Int32} {p1 : Int32} {μ : MMe} {q : Int32} (h : F_J9_max_7cf53 p0 p1 = some q) : mEv d m_J9_max_7cf53 none (0, [], [some (.int p0), some (.int p1)], [], μ) (some (Value.int q)) (μ) := by
  unfold F_J9_max_7cf53 at h
  refine mEv.br 4 (S1 := (9, [], [some (.int p0), some (.int p1)], [], μ)) (S2 := (5, _, [some (.int p0), some (.int p1)], [], μ)) rfl (fun c1 => ?_) (fun c1 => ?_)
  · have h := (if_pos c1).symm.trans h
    obtain rfl := Option.some.inj h
    exact mEv.stp 3 (S' := (10, _, [some (.int p0), some (.int p1)], [.int p1], μ)) rfl (mEv.reti ⟨_, rfl, rfl⟩)
  · have h := (if_neg c1).symm.trans h
    obtain rfl := Option.some.inj h
    exact mEv.stp 3 (S' := (10, _, [some (.int p0), some (.int p1)], [.int p0], μ)) rfl (mEv.reti ⟨_, rfl, rfl⟩)
theorem A_J9_max_7cf53 {d : Nat} {p0 : Int32} {p1 : Int32} {μ : MMe} {q : Int32} (h : F_J9_max_7cf53 p0 p1 = some q) : mCall d m_J9_max_7cf53 [.int p0, .int p1] (μ) (some (Value.int q)) (μ) := mCall.intro ok_J9_max_7cf53 pl_J9_max_7cf53 rfl (E_J9_max_7cf53 (d := d) h)
def F_J9_min_7cf53 (p0 : Int32) (p1 : Int32)  : Option (Int32) := if p1 < p0 then (some (p1)) else (some (p0))
set_option maxRecDepth 100000 in
theorem E_J9_min_7cf53 {d : Nat} {p0 : Int32} {p1 : Int32} {μ : MMe} {q : Int32} (h : F_J9_min_7cf53 p0 p1 = some q) : mEv d m_J9_min_7cf53 none (0, [], [some (.int p0), some (.int p1)], [], μ) (some (Value.int q)) (μ) := by
  unfold F_J9_min_7cf53 at h
  refine mEv.br 4 (S1 := (9, [], [some (.int p0), some (.int p1)], [], μ)) (S2 := (5, _, [some (.int p0), some (.int p1)], [], μ)) rfl (fun c1 => ?_) (fun c1 => ?_)
  · have h := (if_pos c1).symm.trans h
    obtain rfl := Option.some.inj h
    exact mEv.stp 3 (S' := (10, _, [some (.int p0), some (.int p1)], [.int p1], μ)) rfl (mEv.reti ⟨_, rfl, rfl⟩)
  · have h := (if_neg c1).symm.trans h
    obtain rfl := Option.some.inj h
    exact mEv.stp 3 (S' := (10, _, [some (.int p0), some (.int p1)], [.int p0], μ)) rfl (mEv.reti ⟨_, rfl, rfl⟩)
theorem A_J9_min_7cf53 {d : Nat} {p0 : Int32} {p1 : Int32} {μ : MMe} {q : Int32} (h : F_J9_min_7cf53 p0 p1 = some q) : mCall d m_J9_min_7cf53 [.int p0, .int p1] (μ) (some (Value.int q)) (μ) := mCall.intro ok_J9_min_7cf53 pl_J9_min_7cf53 rfl (E_J9_min_7cf53 (d := d) h)
def F_X0_pairCell (p0 : Int32) (p1 : Int32)  : Option (Int32) := some (((p0 * (nI 6)) + p1))
set_option maxRecDepth 100000 in
theorem E_X0_pairCell {d : Nat} {p0 : Int32} {p1 : Int32} {μ : MMe} {q : Int32} (h : F_X0_pairCell p0 p1 = some q) : mEv d m_X0_pairCell none (0, [], [some (.int p0), some (.int p1)], [], μ) (some (Value.int q)) (μ) := by
  unfold F_X0_pairCell at h
  obtain rfl := Option.some.inj h
  exact mEv.stp 6 (S' := (6, _, [some (.int p0), some (.int p1)], [.int ((p0 * (nI 6)) + p1)], μ)) rfl (mEv.reti ⟨_, rfl, rfl⟩)
theorem A_X0_pairCell {d : Nat} {p0 : Int32} {p1 : Int32} {μ : MMe} {q : Int32} (h : F_X0_pairCell p0 p1 = some q) : mCall d m_X0_pairCell [.int p0, .int p1] (μ) (some (Value.int q)) (μ) := mCall.intro ok_X0_pairCell pl_X0_pairCell rfl (E_X0_pairCell (d := d) h)
def F_X0_linkCell (p0 : Int32) (p1 : Int32)  : Option (Int32) := if p1 ≤ p0 then (some (((p1 * (nI 6)) + p0))) else (some (((p0 * (nI 6)) + p1)))
set_option maxRecDepth 100000 in
theorem E_X0_linkCell {d : Nat} {p0 : Int32} {p1 : Int32} {μ : MMe} {q : Int32} (h : F_X0_linkCell p0 p1 = some q) : mEv d m_X0_linkCell none (0, [], [some (.int p0), some (.int p1)], [], μ) (some (Value.int q)) (μ) := by
  unfold F_X0_linkCell at h
  refine mEv.br 4 (S1 := (14, [], [some (.int p0), some (.int p1)], [], μ)) (S2 := (5, _, [some (.int p0), some (.int p1)], [], μ)) rfl (fun c1 => ?_) (fun c1 => ?_)
  · have h := (if_pos c1).symm.trans h
    obtain rfl := Option.some.inj h
    exact mEv.stp 7 (S' := (20, _, [some (.int p0), some (.int p1)], [.int ((p1 * (nI 6)) + p0)], μ)) rfl (mEv.reti ⟨_, rfl, rfl⟩)
  · have h := (if_neg c1).symm.trans h
    obtain rfl := Option.some.inj h
    exact mEv.stp 7 (S' := (20, _, [some (.int p0), some (.int p1)], [.int ((p0 * (nI 6)) + p1)], μ)) rfl (mEv.reti ⟨_, rfl, rfl⟩)
theorem A_X0_linkCell {d : Nat} {p0 : Int32} {p1 : Int32} {μ : MMe} {q : Int32} (h : F_X0_linkCell p0 p1 = some q) : mCall d m_X0_linkCell [.int p0, .int p1] (μ) (some (Value.int q)) (μ) := mCall.intro ok_X0_linkCell pl_X0_linkCell rfl (E_X0_linkCell (d := d) h)
def B_X0_fill_2 (x1 : Int32) (x2 : Int32) (n : Nat) (s : Nat → Int32) : Option ((Int32 × (Nat → Int32)) ⊕ ((Nat → Int32))) := if (nI n) ≤ x2 then (some (.inr (s))) else (gI x2 n (some (.inl ((x2 + (nI 1)), (upd s (Int32.toNatClampNeg x2) x1)))))
set_option maxRecDepth 100000 in
theorem H_X0_fill_2 {d : Nat} {x1 : Int32} {x2 : Int32} {n : Nat} {s : Nat → Int32} {q : (Int32 × (Nat → Int32)) ⊕ ((Nat → Int32))} {r0 : Option Value} {mu0 : MMe} (h : B_X0_fill_2 x1 x2 n s = some q) (hk : Sum.elim (fun x : Int32 × (Nat → Int32) => mEv d m_X0_fill none (2, [], [some (.ref 0), some (.int x1), some (.int x.1)], [], memF n x.2) r0 mu0) (fun z : (Nat → Int32) => mEv d m_X0_fill none (18, [], [none, none, none], [], memF n z) r0 mu0) q) : mEv d m_X0_fill none (2, [], [some (.ref 0), some (.int x1), some (.int x2)], [], memF n s) r0 mu0 := by
  unfold B_X0_fill_2 at h
  refine mEv.br 5 (S1 := (18, [], [some (.ref 0), some (.int x1), some (.int x2)], [], memF n s)) (S2 := (8, _, [some (.ref 0), some (.int x1), some (.int x2)], [], memF n s)) rfl (fun c1 => ?_) (fun c1 => ?_)
  · have h := (if_pos c1).symm.trans h
    refine mEv.fg [0, 1, 2] (z' := [none, none, none]) rfl ?_
    obtain rfl := Option.some.inj h
    exact hk
  · have h := (if_neg c1).symm.trans h
    obtain ⟨g2, h⟩ := gI_some h
    refine mEv.gd 4 (S' := (12, _, [some (.ref 0), some (.int x1), some (.int x2)], [], memF n (upd s (Int32.toNatClampNeg x2) x1))) rfl g2 ?_
    refine mEv.stp 2 (S' := (2, [], [some (.ref 0), some (.int x1), some (.int (x2 + (nI 1)))], [], memF n (upd s (Int32.toNatClampNeg x2) x1))) rfl ?_
    obtain rfl := Option.some.inj h
    exact hk
def F_X0_fill (p1 : Int32) (n : Nat) (s : Nat → Int32) : Option ((Nat → Int32)) := (mWh (fun x => B_X0_fill_2 p1 x.1 n x.2) fuel0 ((nI 0), s)).bind (fun z3 => some (z3))
set_option maxRecDepth 100000 in
theorem E_X0_fill {d : Nat} {p1 : Int32} {n : Nat} {s : Nat → Int32} {q : (Nat → Int32)} (h : F_X0_fill p1 n s = some q) : mEv d m_X0_fill none (0, [], [some (.ref 0), some (.int p1), none], [], memF n s) none (memF n q) := by
  unfold F_X0_fill at h
  refine mEv.stp 3 (S' := (2, [], [some (.ref 0), some (.int p1), some (.int (nI 0))], [], memF n s)) rfl ?_
  obtain ⟨z3, e4, h⟩ := bnd h
  refine mWh_ind (b := (fun x => B_X0_fill_2 p1 x.1 n x.2)) (P := fun x : Int32 × (Nat → Int32) => mEv d m_X0_fill none (2, [], [some (.ref 0), some (.int p1), some (.int x.1)], [], memF n x.2) none (memF n q)) (K := fun z : (Nat → Int32) => mEv d m_X0_fill none (18, [], [none, none, none], [], memF n z) none (memF n q)) (fun x u hq hk => H_X0_fill_2 (d := d) (x1 := p1) (x2 := x.1) (s := x.2) (n := n) (q := u) (r0 := none) (mu0 := (memF n q)) hq hk) fuel0 ((nI 0), s) z3 e4 ?_
  refine mEv.stp 0 (S' := (18, [], [none, none, none], [], memF n z3)) rfl ?_
  obtain rfl := Option.some.inj h
  exact mEv.stp 1 (S' := (18, _, [none, none, none], [], memF n z3)) rfl (mEv.retv rfl)
theorem A_X0_fill {d : Nat} {p1 : Int32} {n : Nat} {s : Nat → Int32} {q : (Nat → Int32)} (h : F_X0_fill p1 n s = some q) : mCall d m_X0_fill [.ref 0, .int p1] (memF n s) none (memF n q) := mCall.intro ok_X0_fill pl_X0_fill rfl (E_X0_fill (d := d) h)
def J_X0_leastOther_10 (x0 : Int32) (x1 : Int32)  : Option (Int32) := if x0 = (nI 1) then (some ((nI 2))) else (if x1 = (nI 1) then (some ((nI 2))) else (some ((nI 1))))
set_option maxRecDepth 100000 in
theorem K_X0_leastOther_10 {d : Nat} {x0 : Int32} {x1 : Int32} {μ : MMe} {q : Int32} (h : J_X0_leastOther_10 x0 x1 = some q) : mEv d m_X0_leastOther none (10, [], [some (.int x0), some (.int x1)], [], μ) (some (Value.int q)) (μ) := by
  unfold J_X0_leastOther_10 at h
  refine mEv.br 4 (S1 := (24, [], [some (.int x0), some (.int x1)], [], μ)) (S2 := (15, _, [some (.int x0), some (.int x1)], [], μ)) rfl (fun c2 => ?_) (fun c2 => ?_)
  · have h := (if_pos c2).symm.trans h
    obtain rfl := Option.some.inj h
    exact mEv.stp 3 (S' := (25, _, [some (.int x0), some (.int x1)], [.int (nI 2)], μ)) rfl (mEv.reti ⟨_, rfl, rfl⟩)
  · have h := (if_neg c2).symm.trans h
    refine mEv.br 3 (S1 := (24, [], [some (.int x0), some (.int x1)], [], μ)) (S2 := (20, _, [some (.int x0), some (.int x1)], [], μ)) rfl (fun c3 => ?_) (fun c3 => ?_)
    · have h := (if_pos c3).symm.trans h
      obtain rfl := Option.some.inj h
      exact mEv.stp 3 (S' := (25, _, [some (.int x0), some (.int x1)], [.int (nI 2)], μ)) rfl (mEv.reti ⟨_, rfl, rfl⟩)
    · have h := (if_neg c3).symm.trans h
      obtain rfl := Option.some.inj h
      exact mEv.stp 3 (S' := (25, _, [some (.int x0), some (.int x1)], [.int (nI 1)], μ)) rfl (mEv.reti ⟨_, rfl, rfl⟩)
def F_X0_leastOther (p0 : Int32) (p1 : Int32)  : Option (Int32) := if p0 = (nI 0) then (J_X0_leastOther_10 p0 p1) else (if p1 = (nI 0) then (J_X0_leastOther_10 p0 p1) else (some ((nI 0))))
set_option maxRecDepth 100000 in
theorem E_X0_leastOther {d : Nat} {p0 : Int32} {p1 : Int32} {μ : MMe} {q : Int32} (h : F_X0_leastOther p0 p1 = some q) : mEv d m_X0_leastOther none (0, [], [some (.int p0), some (.int p1)], [], μ) (some (Value.int q)) (μ) := by
  unfold F_X0_leastOther at h
  refine mEv.br 3 (S1 := (10, [], [some (.int p0), some (.int p1)], [], μ)) (S2 := (4, _, [some (.int p0), some (.int p1)], [], μ)) rfl (fun c1 => ?_) (fun c1 => ?_)
  · have h := (if_pos c1).symm.trans h
    exact K_X0_leastOther_10 (d := d) h
  · have h := (if_neg c1).symm.trans h
    refine mEv.br 2 (S1 := (10, [], [some (.int p0), some (.int p1)], [], μ)) (S2 := (8, _, [some (.int p0), some (.int p1)], [], μ)) rfl (fun c4 => ?_) (fun c4 => ?_)
    · have h := (if_pos c4).symm.trans h
      exact K_X0_leastOther_10 (d := d) h
    · have h := (if_neg c4).symm.trans h
      obtain rfl := Option.some.inj h
      exact mEv.stp 1 (S' := (9, _, [some (.int p0), some (.int p1)], [.int (nI 0)], μ)) rfl (mEv.reti ⟨_, rfl, rfl⟩)
theorem A_X0_leastOther {d : Nat} {p0 : Int32} {p1 : Int32} {μ : MMe} {q : Int32} (h : F_X0_leastOther p0 p1 = some q) : mCall d m_X0_leastOther [.int p0, .int p1] (μ) (some (Value.int q)) (μ) := mCall.intro ok_X0_leastOther pl_X0_leastOther rfl (E_X0_leastOther (d := d) h)
def B_X0_begin_83 (x2 : Int32) (x3 : Int32) (s : NetS) : Option ((Int32 × NetS) ⊕ (NetS)) := if (nI 6) ≤ x3 then (some (.inr (s))) else ((F_X0_pairCell x2 x3).bind (fun v15 => (F_X0_leastOther x2 x3).bind (fun v17 => gI v15 36 (some (.inl ((x3 + (nI 1)), (mkN (gN_tc s) (gN_hb s) (gN_x s) (gN_hg s) (gN_cc s) (gN_w s) (gN_r s) (gN_hd s) (upd (gN_st s) (Int32.toNatClampNeg v15) v17) (gN_ct s) (gN_tt s) (gN_ld s) (gN_ca s))))))))
set_option maxRecDepth 100000 in
theorem H_X0_begin_83 {d : Nat} {x2 : Int32} {x3 : Int32} {s : NetS} {q : (Int32 × NetS) ⊕ (NetS)} {r0 : Option Value} {mu0 : MMe} (h : B_X0_begin_83 x2 x3 s = some q) (hk : Sum.elim (fun x : Int32 × NetS => mEv (d + 1) m_X0_begin none (83, [], [some (.ref 0), none, some (.int x2), some (.int x.1)], [], memN x.2) r0 mu0) (fun z : NetS => mEv (d + 1) m_X0_begin none (110, [], [some (.ref 0), none, some (.int x2), none], [], memN z) r0 mu0) q) : mEv (d + 1) m_X0_begin none (83, [], [some (.ref 0), none, some (.int x2), some (.int x3)], [], memN s) r0 mu0 := by
  unfold B_X0_begin_83 at h
  refine mEv.br 4 (S1 := (110, [], [some (.ref 0), none, some (.int x2), some (.int x3)], [], memN s)) (S2 := (89, _, [some (.ref 0), none, some (.int x2), some (.int x3)], [], memN s)) rfl (fun c14 => ?_) (fun c14 => ?_)
  · have h := (if_pos c14).symm.trans h
    refine mEv.fg [3] (z' := [some (.ref 0), none, some (.int x2), none]) rfl ?_
    obtain rfl := Option.some.inj h
    exact hk
  · have h := (if_neg c14).symm.trans h
    refine mEv.stp 4 (S' := (95, _, [some (.ref 0), none, some (.int x2), some (.int x3)], [.int x3, .int x2, .ref 4], memN s)) rfl ?_
    obtain ⟨v15, e16, h⟩ := bnd h
    refine mEv.callS (As := [.int x2, .int x3]) (st := [.ref 4]) (r := (some (.int v15))) (μ1 := memN s) lk_X0_60 rfl rfl rfl (A_X0_pairCell (d := d + 0) e16) ?_
    refine mEv.stp 0 (S' := (98, _, [some (.ref 0), none, some (.int x2), some (.int x3)], [.int v15, .ref 4], memN s)) rfl ?_
    refine mEv.stp 2 (S' := (100, _, [some (.ref 0), none, some (.int x2), some (.int x3)], [.int x3, .int x2, .int v15, .ref 4], memN s)) rfl ?_
    obtain ⟨v17, e18, h⟩ := bnd h
    refine mEv.callS (As := [.int x2, .int x3]) (st := [.int v15, .ref 4]) (r := (some (.int v17))) (μ1 := memN s) lk_X0_64 rfl rfl rfl (A_X0_leastOther (d := d + 0) e18) ?_
    refine mEv.stp 0 (S' := (103, _, [some (.ref 0), none, some (.int x2), some (.int x3)], [.int v17, .int v15, .ref 4], memN s)) rfl ?_
    obtain ⟨g19, h⟩ := gI_some h
    refine mEv.gd 1 (S' := (104, _, [some (.ref 0), none, some (.int x2), some (.int x3)], [], memNx (gN_tc s) (gN_hb s) (gN_x s) (gN_hg s) (gN_cc s) (gN_w s) (gN_r s) (gN_hd s) (upd (gN_st s) (Int32.toNatClampNeg v15) v17) (gN_ct s) (gN_tt s) (gN_ld s) (gN_ca s))) rfl g19 ?_
    refine mEv.stp 2 (S' := (83, [], [some (.ref 0), none, some (.int x2), some (.int (x3 + (nI 1)))], [], memNx (gN_tc s) (gN_hb s) (gN_x s) (gN_hg s) (gN_cc s) (gN_w s) (gN_r s) (gN_hd s) (upd (gN_st s) (Int32.toNatClampNeg v15) v17) (gN_ct s) (gN_tt s) (gN_ld s) (gN_ca s))) rfl ?_
    refine mEv.mem memN_mk ?_
    obtain rfl := Option.some.inj h
    exact hk
def B_X0_begin_75 (x2 : Int32) (s : NetS) : Option ((Int32 × NetS) ⊕ (NetS)) := if (nI 6) ≤ x2 then (some (.inr (s))) else ((mWh (fun x => B_X0_begin_83 x2 x.1 x.2) fuel0 ((nI 0), s)).bind (fun z20 => some (.inl ((x2 + (nI 1)), z20))))
set_option maxRecDepth 100000 in
theorem H_X0_begin_75 {d : Nat} {x2 : Int32} {s : NetS} {q : (Int32 × NetS) ⊕ (NetS)} {r0 : Option Value} {mu0 : MMe} (h : B_X0_begin_75 x2 s = some q) (hk : Sum.elim (fun x : Int32 × NetS => mEv (d + 1) m_X0_begin none (75, [], [some (.ref 0), none, some (.int x.1), none], [], memN x.2) r0 mu0) (fun z : NetS => mEv (d + 1) m_X0_begin none (116, [], [none, none, none, none], [], memN z) r0 mu0) q) : mEv (d + 1) m_X0_begin none (75, [], [some (.ref 0), none, some (.int x2), none], [], memN s) r0 mu0 := by
  unfold B_X0_begin_75 at h
  refine mEv.br 4 (S1 := (116, [], [some (.ref 0), none, some (.int x2), none], [], memN s)) (S2 := (81, _, [some (.ref 0), none, some (.int x2), none], [], memN s)) rfl (fun c13 => ?_) (fun c13 => ?_)
  · have h := (if_pos c13).symm.trans h
    refine mEv.fg [0, 2] (z' := [none, none, none, none]) rfl ?_
    obtain rfl := Option.some.inj h
    exact hk
  · have h := (if_neg c13).symm.trans h
    refine mEv.stp 2 (S' := (83, [], [some (.ref 0), none, some (.int x2), some (.int (nI 0))], [], memN s)) rfl ?_
    obtain ⟨z20, e21, h⟩ := bnd h
    refine mWh_ind (b := (fun x => B_X0_begin_83 x2 x.1 x.2)) (P := fun x : Int32 × NetS => mEv (d + 1) m_X0_begin none (83, [], [some (.ref 0), none, some (.int x2), some (.int x.1)], [], memN x.2) r0 mu0) (K := fun z : NetS => mEv (d + 1) m_X0_begin none (110, [], [some (.ref 0), none, some (.int x2), none], [], memN z) r0 mu0) (fun x u hq hk => H_X0_begin_83 (d := d) (x2 := x2) (x3 := x.1) (s := x.2) (q := u) (r0 := r0) (mu0 := mu0) hq hk) fuel0 ((nI 0), s) z20 e21 ?_
    refine mEv.stp 0 (S' := (110, [], [some (.ref 0), none, some (.int x2), none], [], memN z20)) rfl ?_
    refine mEv.stp 3 (S' := (75, [], [some (.ref 0), none, some (.int (x2 + (nI 1))), none], [], memN z20)) rfl ?_
    obtain rfl := Option.some.inj h
    exact hk
def F_X0_begin (p1 : Int32) (s : NetS) : Option (NetS) := (F_X0_fill (nI 5) 36 (gN_w s)).bind (fun v1 => (F_X0_fill (nI 0) 36 (gN_r s)).bind (fun v3 => (F_X0_fill (nI 0) 36 (gN_hd s)).bind (fun v5 => (F_X0_fill (nI 0) 180 (gN_ct s)).bind (fun v7 => (F_X0_fill (nI 0) 5 (gN_tt s)).bind (fun v9 => (F_X0_fill (nI 0) 24 (gN_ld s)).bind (fun v11 => (mWh (fun x => B_X0_begin_75 x.1 x.2) fuel0 ((nI 0), (mkN p1 (nI 0) (nI 1) (nI 0) (nI 0) v1 v3 v5 (gN_st s) v7 v9 v11 (gN_ca s)))).bind (fun z22 => some (z22))))))))
set_option maxRecDepth 100000 in
theorem E_X0_begin {d : Nat} {p1 : Int32} {s : NetS} {q : NetS} (h : F_X0_begin p1 s = some q) : mEv (d + 1) m_X0_begin none (0, [], [some (.ref 0), some (.int p1), none, none], [], memN s) none (memN q) := by
  unfold F_X0_begin at h
  refine mEv.stp 19 (S' := (30, _, [some (.ref 0), some (.int p1), none, none], [.int (nI 5), .ref 1], memNx p1 (nI 0) (nI 1) (nI 0) (nI 0) (gN_w s) (gN_r s) (gN_hd s) (gN_st s) (gN_ct s) (gN_tt s) (gN_ld s) (gN_ca s))) rfl ?_
  obtain ⟨v1, e2, h⟩ := bnd h
  refine mEv.callS (As := [.ref 1, .int (nI 5)]) (st := []) (r := none) (μ1 := memNx p1 (nI 0) (nI 1) (nI 0) (nI 0) v1 (gN_r s) (gN_hd s) (gN_st s) (gN_ct s) (gN_tt s) (gN_ld s) (gN_ca s)) lk_X0_56 rfl rfl rfl (mCall.lift [1] (A_X0_fill (d := d + 0) e2) rfl rfl rfl) ?_
  refine mEv.stp 0 (S' := (33, _, [some (.ref 0), some (.int p1), none, none], [], memNx p1 (nI 0) (nI 1) (nI 0) (nI 0) v1 (gN_r s) (gN_hd s) (gN_st s) (gN_ct s) (gN_tt s) (gN_ld s) (gN_ca s))) rfl ?_
  refine mEv.stp 3 (S' := (38, _, [some (.ref 0), some (.int p1), none, none], [.int (nI 0), .ref 2], memNx p1 (nI 0) (nI 1) (nI 0) (nI 0) v1 (gN_r s) (gN_hd s) (gN_st s) (gN_ct s) (gN_tt s) (gN_ld s) (gN_ca s))) rfl ?_
  obtain ⟨v3, e4, h⟩ := bnd h
  refine mEv.callS (As := [.ref 2, .int (nI 0)]) (st := []) (r := none) (μ1 := memNx p1 (nI 0) (nI 1) (nI 0) (nI 0) v1 v3 (gN_hd s) (gN_st s) (gN_ct s) (gN_tt s) (gN_ld s) (gN_ca s)) lk_X0_56 rfl rfl rfl (mCall.lift [2] (A_X0_fill (d := d + 0) e4) rfl rfl rfl) ?_
  refine mEv.stp 0 (S' := (41, _, [some (.ref 0), some (.int p1), none, none], [], memNx p1 (nI 0) (nI 1) (nI 0) (nI 0) v1 v3 (gN_hd s) (gN_st s) (gN_ct s) (gN_tt s) (gN_ld s) (gN_ca s))) rfl ?_
  refine mEv.stp 3 (S' := (46, _, [some (.ref 0), some (.int p1), none, none], [.int (nI 0), .ref 3], memNx p1 (nI 0) (nI 1) (nI 0) (nI 0) v1 v3 (gN_hd s) (gN_st s) (gN_ct s) (gN_tt s) (gN_ld s) (gN_ca s))) rfl ?_
  obtain ⟨v5, e6, h⟩ := bnd h
  refine mEv.callS (As := [.ref 3, .int (nI 0)]) (st := []) (r := none) (μ1 := memNx p1 (nI 0) (nI 1) (nI 0) (nI 0) v1 v3 v5 (gN_st s) (gN_ct s) (gN_tt s) (gN_ld s) (gN_ca s)) lk_X0_56 rfl rfl rfl (mCall.lift [3] (A_X0_fill (d := d + 0) e6) rfl rfl rfl) ?_
  refine mEv.stp 0 (S' := (49, _, [some (.ref 0), some (.int p1), none, none], [], memNx p1 (nI 0) (nI 1) (nI 0) (nI 0) v1 v3 v5 (gN_st s) (gN_ct s) (gN_tt s) (gN_ld s) (gN_ca s))) rfl ?_
  refine mEv.stp 3 (S' := (54, _, [some (.ref 0), some (.int p1), none, none], [.int (nI 0), .ref 5], memNx p1 (nI 0) (nI 1) (nI 0) (nI 0) v1 v3 v5 (gN_st s) (gN_ct s) (gN_tt s) (gN_ld s) (gN_ca s))) rfl ?_
  obtain ⟨v7, e8, h⟩ := bnd h
  refine mEv.callS (As := [.ref 5, .int (nI 0)]) (st := []) (r := none) (μ1 := memNx p1 (nI 0) (nI 1) (nI 0) (nI 0) v1 v3 v5 (gN_st s) v7 (gN_tt s) (gN_ld s) (gN_ca s)) lk_X0_56 rfl rfl rfl (mCall.lift [5] (A_X0_fill (d := d + 0) e8) rfl rfl rfl) ?_
  refine mEv.stp 0 (S' := (57, _, [some (.ref 0), some (.int p1), none, none], [], memNx p1 (nI 0) (nI 1) (nI 0) (nI 0) v1 v3 v5 (gN_st s) v7 (gN_tt s) (gN_ld s) (gN_ca s))) rfl ?_
  refine mEv.stp 3 (S' := (62, _, [some (.ref 0), some (.int p1), none, none], [.int (nI 0), .ref 6], memNx p1 (nI 0) (nI 1) (nI 0) (nI 0) v1 v3 v5 (gN_st s) v7 (gN_tt s) (gN_ld s) (gN_ca s))) rfl ?_
  obtain ⟨v9, e10, h⟩ := bnd h
  refine mEv.callS (As := [.ref 6, .int (nI 0)]) (st := []) (r := none) (μ1 := memNx p1 (nI 0) (nI 1) (nI 0) (nI 0) v1 v3 v5 (gN_st s) v7 v9 (gN_ld s) (gN_ca s)) lk_X0_56 rfl rfl rfl (mCall.lift [6] (A_X0_fill (d := d + 0) e10) rfl rfl rfl) ?_
  refine mEv.stp 0 (S' := (65, _, [some (.ref 0), some (.int p1), none, none], [], memNx p1 (nI 0) (nI 1) (nI 0) (nI 0) v1 v3 v5 (gN_st s) v7 v9 (gN_ld s) (gN_ca s))) rfl ?_
  refine mEv.stp 3 (S' := (70, _, [some (.ref 0), some (.int p1), none, none], [.int (nI 0), .ref 7], memNx p1 (nI 0) (nI 1) (nI 0) (nI 0) v1 v3 v5 (gN_st s) v7 v9 (gN_ld s) (gN_ca s))) rfl ?_
  obtain ⟨v11, e12, h⟩ := bnd h
  refine mEv.callS (As := [.ref 7, .int (nI 0)]) (st := []) (r := none) (μ1 := memNx p1 (nI 0) (nI 1) (nI 0) (nI 0) v1 v3 v5 (gN_st s) v7 v9 v11 (gN_ca s)) lk_X0_56 rfl rfl rfl (mCall.lift [7] (A_X0_fill (d := d + 0) e12) rfl rfl rfl) ?_
  refine mEv.stp 0 (S' := (73, _, [some (.ref 0), some (.int p1), none, none], [], memNx p1 (nI 0) (nI 1) (nI 0) (nI 0) v1 v3 v5 (gN_st s) v7 v9 v11 (gN_ca s))) rfl ?_
  refine mEv.stp 2 (S' := (75, [], [some (.ref 0), some (.int p1), some (.int (nI 0)), none], [], memNx p1 (nI 0) (nI 1) (nI 0) (nI 0) v1 v3 v5 (gN_st s) v7 v9 v11 (gN_ca s))) rfl ?_
  refine mEv.fg [1] (z' := [some (.ref 0), none, some (.int (nI 0)), none]) rfl ?_
  refine mEv.mem memN_mk ?_
  obtain ⟨z22, e23, h⟩ := bnd h
  refine mWh_ind (b := (fun x => B_X0_begin_75 x.1 x.2)) (P := fun x : Int32 × NetS => mEv (d + 1) m_X0_begin none (75, [], [some (.ref 0), none, some (.int x.1), none], [], memN x.2) none (memN q)) (K := fun z : NetS => mEv (d + 1) m_X0_begin none (116, [], [none, none, none, none], [], memN z) none (memN q)) (fun x u hq hk => H_X0_begin_75 (d := d) (x2 := x.1) (s := x.2) (q := u) (r0 := none) (mu0 := (memN q)) hq hk) fuel0 ((nI 0), (mkN p1 (nI 0) (nI 1) (nI 0) (nI 0) v1 v3 v5 (gN_st s) v7 v9 v11 (gN_ca s))) z22 e23 ?_
  refine mEv.stp 0 (S' := (116, [], [none, none, none, none], [], memN z22)) rfl ?_
  obtain rfl := Option.some.inj h
  exact mEv.stp 1 (S' := (116, _, [none, none, none, none], [], memN z22)) rfl (mEv.retv rfl)
theorem A_X0_begin {d : Nat} {p1 : Int32} {s : NetS} {q : NetS} (h : F_X0_begin p1 s = some q) : mCall (d + 1) m_X0_begin [.ref 0, .int p1] (memN s) none (memN q) := mCall.intro ok_X0_begin pl_X0_begin rfl (E_X0_begin (d := d) h)
def F_X0_copyFrom  (t s : NetS) : Option (NetS) := gC (nI 0) (nI 0) (nI 36) 36 36 (gC (nI 0) (nI 0) (nI 36) 36 36 (gC (nI 0) (nI 0) (nI 36) 36 36 (gC (nI 0) (nI 0) (nI 36) 36 36 (gC (nI 0) (nI 0) (nI 180) 180 180 (gC (nI 0) (nI 0) (nI 5) 5 5 (gC (nI 0) (nI 0) (nI 24) 24 24 (gC (nI 0) (nI 0) ((gN_cc t) * (nI 4)) 320 320 (some ((mkN (gN_tc t) (gN_hb t) (gN_x t) (gN_hg t) (gN_cc t) (va_cpy (gN_w t) (gN_w s) (Int32.toNatClampNeg (nI 0)) (Int32.toNatClampNeg (nI 0)) (Int32.toNatClampNeg (nI 36))) (va_cpy (gN_r t) (gN_r s) (Int32.toNatClampNeg (nI 0)) (Int32.toNatClampNeg (nI 0)) (Int32.toNatClampNeg (nI 36))) (va_cpy (gN_hd t) (gN_hd s) (Int32.toNatClampNeg (nI 0)) (Int32.toNatClampNeg (nI 0)) (Int32.toNatClampNeg (nI 36))) (va_cpy (gN_st t) (gN_st s) (Int32.toNatClampNeg (nI 0)) (Int32.toNatClampNeg (nI 0)) (Int32.toNatClampNeg (nI 36))) (va_cpy (gN_ct t) (gN_ct s) (Int32.toNatClampNeg (nI 0)) (Int32.toNatClampNeg (nI 0)) (Int32.toNatClampNeg (nI 180))) (va_cpy (gN_tt t) (gN_tt s) (Int32.toNatClampNeg (nI 0)) (Int32.toNatClampNeg (nI 0)) (Int32.toNatClampNeg (nI 5))) (va_cpy (gN_ld t) (gN_ld s) (Int32.toNatClampNeg (nI 0)) (Int32.toNatClampNeg (nI 0)) (Int32.toNatClampNeg (nI 24))) (va_cpy (gN_ca t) (gN_ca s) (Int32.toNatClampNeg (nI 0)) (Int32.toNatClampNeg (nI 0)) (Int32.toNatClampNeg ((gN_cc t) * (nI 4))))))))))))))
set_option maxRecDepth 100000 in
theorem E_X0_copyFrom {d : Nat}  {t s : NetS} {q : NetS} (h : F_X0_copyFrom t s = some q) : mEv (d + 1) m_X0_copyFrom none (0, [], [some (.ref 0), some (.ref 9)], [], memNN s t) none (memNN q t) := by
  unfold F_X0_copyFrom at h
  refine mEv.stp 28 (S' := (52, _, [some (.ref 0), some (.ref 9)], [.int (nI 36), .int (nI 0), .ref 1, .int (nI 0), .ref 10], memNNx (gN_tc t) (gN_hb t) (gN_x t) (gN_hg t) (gN_cc t) (gN_w s) (gN_r s) (gN_hd s) (gN_st s) (gN_ct s) (gN_tt s) (gN_ld s) (gN_ca s) t)) rfl ?_
  obtain ⟨g1, h⟩ := gC_some h
  refine mEv.copy (st := []) lk_X0_67 rfl rfl rfl rfl g1 ?_
  refine mEv.stp 0 (S' := (55, _, [some (.ref 0), some (.ref 9)], [], memNNx (gN_tc t) (gN_hb t) (gN_x t) (gN_hg t) (gN_cc t) (va_cpy (gN_w t) (gN_w s) (Int32.toNatClampNeg (nI 0)) (Int32.toNatClampNeg (nI 0)) (Int32.toNatClampNeg (nI 36))) (gN_r s) (gN_hd s) (gN_st s) (gN_ct s) (gN_tt s) (gN_ld s) (gN_ca s) t)) rfl ?_
  refine mEv.stp 7 (S' := (67, _, [some (.ref 0), some (.ref 9)], [.int (nI 36), .int (nI 0), .ref 2, .int (nI 0), .ref 11], memNNx (gN_tc t) (gN_hb t) (gN_x t) (gN_hg t) (gN_cc t) (va_cpy (gN_w t) (gN_w s) (Int32.toNatClampNeg (nI 0)) (Int32.toNatClampNeg (nI 0)) (Int32.toNatClampNeg (nI 36))) (gN_r s) (gN_hd s) (gN_st s) (gN_ct s) (gN_tt s) (gN_ld s) (gN_ca s) t)) rfl ?_
  obtain ⟨g2, h⟩ := gC_some h
  refine mEv.copy (st := []) lk_X0_67 rfl rfl rfl rfl g2 ?_
  refine mEv.stp 0 (S' := (70, _, [some (.ref 0), some (.ref 9)], [], memNNx (gN_tc t) (gN_hb t) (gN_x t) (gN_hg t) (gN_cc t) (va_cpy (gN_w t) (gN_w s) (Int32.toNatClampNeg (nI 0)) (Int32.toNatClampNeg (nI 0)) (Int32.toNatClampNeg (nI 36))) (va_cpy (gN_r t) (gN_r s) (Int32.toNatClampNeg (nI 0)) (Int32.toNatClampNeg (nI 0)) (Int32.toNatClampNeg (nI 36))) (gN_hd s) (gN_st s) (gN_ct s) (gN_tt s) (gN_ld s) (gN_ca s) t)) rfl ?_
  refine mEv.stp 7 (S' := (82, _, [some (.ref 0), some (.ref 9)], [.int (nI 36), .int (nI 0), .ref 3, .int (nI 0), .ref 12], memNNx (gN_tc t) (gN_hb t) (gN_x t) (gN_hg t) (gN_cc t) (va_cpy (gN_w t) (gN_w s) (Int32.toNatClampNeg (nI 0)) (Int32.toNatClampNeg (nI 0)) (Int32.toNatClampNeg (nI 36))) (va_cpy (gN_r t) (gN_r s) (Int32.toNatClampNeg (nI 0)) (Int32.toNatClampNeg (nI 0)) (Int32.toNatClampNeg (nI 36))) (gN_hd s) (gN_st s) (gN_ct s) (gN_tt s) (gN_ld s) (gN_ca s) t)) rfl ?_
  obtain ⟨g3, h⟩ := gC_some h
  refine mEv.copy (st := []) lk_X0_67 rfl rfl rfl rfl g3 ?_
  refine mEv.stp 0 (S' := (85, _, [some (.ref 0), some (.ref 9)], [], memNNx (gN_tc t) (gN_hb t) (gN_x t) (gN_hg t) (gN_cc t) (va_cpy (gN_w t) (gN_w s) (Int32.toNatClampNeg (nI 0)) (Int32.toNatClampNeg (nI 0)) (Int32.toNatClampNeg (nI 36))) (va_cpy (gN_r t) (gN_r s) (Int32.toNatClampNeg (nI 0)) (Int32.toNatClampNeg (nI 0)) (Int32.toNatClampNeg (nI 36))) (va_cpy (gN_hd t) (gN_hd s) (Int32.toNatClampNeg (nI 0)) (Int32.toNatClampNeg (nI 0)) (Int32.toNatClampNeg (nI 36))) (gN_st s) (gN_ct s) (gN_tt s) (gN_ld s) (gN_ca s) t)) rfl ?_
  refine mEv.stp 7 (S' := (97, _, [some (.ref 0), some (.ref 9)], [.int (nI 36), .int (nI 0), .ref 4, .int (nI 0), .ref 13], memNNx (gN_tc t) (gN_hb t) (gN_x t) (gN_hg t) (gN_cc t) (va_cpy (gN_w t) (gN_w s) (Int32.toNatClampNeg (nI 0)) (Int32.toNatClampNeg (nI 0)) (Int32.toNatClampNeg (nI 36))) (va_cpy (gN_r t) (gN_r s) (Int32.toNatClampNeg (nI 0)) (Int32.toNatClampNeg (nI 0)) (Int32.toNatClampNeg (nI 36))) (va_cpy (gN_hd t) (gN_hd s) (Int32.toNatClampNeg (nI 0)) (Int32.toNatClampNeg (nI 0)) (Int32.toNatClampNeg (nI 36))) (gN_st s) (gN_ct s) (gN_tt s) (gN_ld s) (gN_ca s) t)) rfl ?_
  obtain ⟨g4, h⟩ := gC_some h
  refine mEv.copy (st := []) lk_X0_67 rfl rfl rfl rfl g4 ?_
  refine mEv.stp 0 (S' := (100, _, [some (.ref 0), some (.ref 9)], [], memNNx (gN_tc t) (gN_hb t) (gN_x t) (gN_hg t) (gN_cc t) (va_cpy (gN_w t) (gN_w s) (Int32.toNatClampNeg (nI 0)) (Int32.toNatClampNeg (nI 0)) (Int32.toNatClampNeg (nI 36))) (va_cpy (gN_r t) (gN_r s) (Int32.toNatClampNeg (nI 0)) (Int32.toNatClampNeg (nI 0)) (Int32.toNatClampNeg (nI 36))) (va_cpy (gN_hd t) (gN_hd s) (Int32.toNatClampNeg (nI 0)) (Int32.toNatClampNeg (nI 0)) (Int32.toNatClampNeg (nI 36))) (va_cpy (gN_st t) (gN_st s) (Int32.toNatClampNeg (nI 0)) (Int32.toNatClampNeg (nI 0)) (Int32.toNatClampNeg (nI 36))) (gN_ct s) (gN_tt s) (gN_ld s) (gN_ca s) t)) rfl ?_
  refine mEv.stp 7 (S' := (113, _, [some (.ref 0), some (.ref 9)], [.int (nI 180), .int (nI 0), .ref 5, .int (nI 0), .ref 14], memNNx (gN_tc t) (gN_hb t) (gN_x t) (gN_hg t) (gN_cc t) (va_cpy (gN_w t) (gN_w s) (Int32.toNatClampNeg (nI 0)) (Int32.toNatClampNeg (nI 0)) (Int32.toNatClampNeg (nI 36))) (va_cpy (gN_r t) (gN_r s) (Int32.toNatClampNeg (nI 0)) (Int32.toNatClampNeg (nI 0)) (Int32.toNatClampNeg (nI 36))) (va_cpy (gN_hd t) (gN_hd s) (Int32.toNatClampNeg (nI 0)) (Int32.toNatClampNeg (nI 0)) (Int32.toNatClampNeg (nI 36))) (va_cpy (gN_st t) (gN_st s) (Int32.toNatClampNeg (nI 0)) (Int32.toNatClampNeg (nI 0)) (Int32.toNatClampNeg (nI 36))) (gN_ct s) (gN_tt s) (gN_ld s) (gN_ca s) t)) rfl ?_
  obtain ⟨g5, h⟩ := gC_some h
  refine mEv.copy (st := []) lk_X0_67 rfl rfl rfl rfl g5 ?_
  refine mEv.stp 0 (S' := (116, _, [some (.ref 0), some (.ref 9)], [], memNNx (gN_tc t) (gN_hb t) (gN_x t) (gN_hg t) (gN_cc t) (va_cpy (gN_w t) (gN_w s) (Int32.toNatClampNeg (nI 0)) (Int32.toNatClampNeg (nI 0)) (Int32.toNatClampNeg (nI 36))) (va_cpy (gN_r t) (gN_r s) (Int32.toNatClampNeg (nI 0)) (Int32.toNatClampNeg (nI 0)) (Int32.toNatClampNeg (nI 36))) (va_cpy (gN_hd t) (gN_hd s) (Int32.toNatClampNeg (nI 0)) (Int32.toNatClampNeg (nI 0)) (Int32.toNatClampNeg (nI 36))) (va_cpy (gN_st t) (gN_st s) (Int32.toNatClampNeg (nI 0)) (Int32.toNatClampNeg (nI 0)) (Int32.toNatClampNeg (nI 36))) (va_cpy (gN_ct t) (gN_ct s) (Int32.toNatClampNeg (nI 0)) (Int32.toNatClampNeg (nI 0)) (Int32.toNatClampNeg (nI 180))) (gN_tt s) (gN_ld s) (gN_ca s) t)) rfl ?_
  refine mEv.stp 7 (S' := (127, _, [some (.ref 0), some (.ref 9)], [.int (nI 5), .int (nI 0), .ref 6, .int (nI 0), .ref 15], memNNx (gN_tc t) (gN_hb t) (gN_x t) (gN_hg t) (gN_cc t) (va_cpy (gN_w t) (gN_w s) (Int32.toNatClampNeg (nI 0)) (Int32.toNatClampNeg (nI 0)) (Int32.toNatClampNeg (nI 36))) (va_cpy (gN_r t) (gN_r s) (Int32.toNatClampNeg (nI 0)) (Int32.toNatClampNeg (nI 0)) (Int32.toNatClampNeg (nI 36))) (va_cpy (gN_hd t) (gN_hd s) (Int32.toNatClampNeg (nI 0)) (Int32.toNatClampNeg (nI 0)) (Int32.toNatClampNeg (nI 36))) (va_cpy (gN_st t) (gN_st s) (Int32.toNatClampNeg (nI 0)) (Int32.toNatClampNeg (nI 0)) (Int32.toNatClampNeg (nI 36))) (va_cpy (gN_ct t) (gN_ct s) (Int32.toNatClampNeg (nI 0)) (Int32.toNatClampNeg (nI 0)) (Int32.toNatClampNeg (nI 180))) (gN_tt s) (gN_ld s) (gN_ca s) t)) rfl ?_
  obtain ⟨g6, h⟩ := gC_some h
  refine mEv.copy (st := []) lk_X0_67 rfl rfl rfl rfl g6 ?_
  refine mEv.stp 0 (S' := (130, _, [some (.ref 0), some (.ref 9)], [], memNNx (gN_tc t) (gN_hb t) (gN_x t) (gN_hg t) (gN_cc t) (va_cpy (gN_w t) (gN_w s) (Int32.toNatClampNeg (nI 0)) (Int32.toNatClampNeg (nI 0)) (Int32.toNatClampNeg (nI 36))) (va_cpy (gN_r t) (gN_r s) (Int32.toNatClampNeg (nI 0)) (Int32.toNatClampNeg (nI 0)) (Int32.toNatClampNeg (nI 36))) (va_cpy (gN_hd t) (gN_hd s) (Int32.toNatClampNeg (nI 0)) (Int32.toNatClampNeg (nI 0)) (Int32.toNatClampNeg (nI 36))) (va_cpy (gN_st t) (gN_st s) (Int32.toNatClampNeg (nI 0)) (Int32.toNatClampNeg (nI 0)) (Int32.toNatClampNeg (nI 36))) (va_cpy (gN_ct t) (gN_ct s) (Int32.toNatClampNeg (nI 0)) (Int32.toNatClampNeg (nI 0)) (Int32.toNatClampNeg (nI 180))) (va_cpy (gN_tt t) (gN_tt s) (Int32.toNatClampNeg (nI 0)) (Int32.toNatClampNeg (nI 0)) (Int32.toNatClampNeg (nI 5))) (gN_ld s) (gN_ca s) t)) rfl ?_
  refine mEv.stp 7 (S' := (142, _, [some (.ref 0), some (.ref 9)], [.int (nI 24), .int (nI 0), .ref 7, .int (nI 0), .ref 16], memNNx (gN_tc t) (gN_hb t) (gN_x t) (gN_hg t) (gN_cc t) (va_cpy (gN_w t) (gN_w s) (Int32.toNatClampNeg (nI 0)) (Int32.toNatClampNeg (nI 0)) (Int32.toNatClampNeg (nI 36))) (va_cpy (gN_r t) (gN_r s) (Int32.toNatClampNeg (nI 0)) (Int32.toNatClampNeg (nI 0)) (Int32.toNatClampNeg (nI 36))) (va_cpy (gN_hd t) (gN_hd s) (Int32.toNatClampNeg (nI 0)) (Int32.toNatClampNeg (nI 0)) (Int32.toNatClampNeg (nI 36))) (va_cpy (gN_st t) (gN_st s) (Int32.toNatClampNeg (nI 0)) (Int32.toNatClampNeg (nI 0)) (Int32.toNatClampNeg (nI 36))) (va_cpy (gN_ct t) (gN_ct s) (Int32.toNatClampNeg (nI 0)) (Int32.toNatClampNeg (nI 0)) (Int32.toNatClampNeg (nI 180))) (va_cpy (gN_tt t) (gN_tt s) (Int32.toNatClampNeg (nI 0)) (Int32.toNatClampNeg (nI 0)) (Int32.toNatClampNeg (nI 5))) (gN_ld s) (gN_ca s) t)) rfl ?_
  obtain ⟨g7, h⟩ := gC_some h
  refine mEv.copy (st := []) lk_X0_67 rfl rfl rfl rfl g7 ?_
  refine mEv.stp 0 (S' := (145, _, [some (.ref 0), some (.ref 9)], [], memNNx (gN_tc t) (gN_hb t) (gN_x t) (gN_hg t) (gN_cc t) (va_cpy (gN_w t) (gN_w s) (Int32.toNatClampNeg (nI 0)) (Int32.toNatClampNeg (nI 0)) (Int32.toNatClampNeg (nI 36))) (va_cpy (gN_r t) (gN_r s) (Int32.toNatClampNeg (nI 0)) (Int32.toNatClampNeg (nI 0)) (Int32.toNatClampNeg (nI 36))) (va_cpy (gN_hd t) (gN_hd s) (Int32.toNatClampNeg (nI 0)) (Int32.toNatClampNeg (nI 0)) (Int32.toNatClampNeg (nI 36))) (va_cpy (gN_st t) (gN_st s) (Int32.toNatClampNeg (nI 0)) (Int32.toNatClampNeg (nI 0)) (Int32.toNatClampNeg (nI 36))) (va_cpy (gN_ct t) (gN_ct s) (Int32.toNatClampNeg (nI 0)) (Int32.toNatClampNeg (nI 0)) (Int32.toNatClampNeg (nI 180))) (va_cpy (gN_tt t) (gN_tt s) (Int32.toNatClampNeg (nI 0)) (Int32.toNatClampNeg (nI 0)) (Int32.toNatClampNeg (nI 5))) (va_cpy (gN_ld t) (gN_ld s) (Int32.toNatClampNeg (nI 0)) (Int32.toNatClampNeg (nI 0)) (Int32.toNatClampNeg (nI 24))) (gN_ca s) t)) rfl ?_
  refine mEv.stp 10 (S' := (161, _, [some (.ref 0), some (.ref 9)], [.int ((gN_cc t) * (nI 4)), .int (nI 0), .ref 8, .int (nI 0), .ref 17], memNNx (gN_tc t) (gN_hb t) (gN_x t) (gN_hg t) (gN_cc t) (va_cpy (gN_w t) (gN_w s) (Int32.toNatClampNeg (nI 0)) (Int32.toNatClampNeg (nI 0)) (Int32.toNatClampNeg (nI 36))) (va_cpy (gN_r t) (gN_r s) (Int32.toNatClampNeg (nI 0)) (Int32.toNatClampNeg (nI 0)) (Int32.toNatClampNeg (nI 36))) (va_cpy (gN_hd t) (gN_hd s) (Int32.toNatClampNeg (nI 0)) (Int32.toNatClampNeg (nI 0)) (Int32.toNatClampNeg (nI 36))) (va_cpy (gN_st t) (gN_st s) (Int32.toNatClampNeg (nI 0)) (Int32.toNatClampNeg (nI 0)) (Int32.toNatClampNeg (nI 36))) (va_cpy (gN_ct t) (gN_ct s) (Int32.toNatClampNeg (nI 0)) (Int32.toNatClampNeg (nI 0)) (Int32.toNatClampNeg (nI 180))) (va_cpy (gN_tt t) (gN_tt s) (Int32.toNatClampNeg (nI 0)) (Int32.toNatClampNeg (nI 0)) (Int32.toNatClampNeg (nI 5))) (va_cpy (gN_ld t) (gN_ld s) (Int32.toNatClampNeg (nI 0)) (Int32.toNatClampNeg (nI 0)) (Int32.toNatClampNeg (nI 24))) (gN_ca s) t)) rfl ?_
  obtain ⟨g8, h⟩ := gC_some h
  refine mEv.copy (st := []) lk_X0_67 rfl rfl rfl rfl g8 ?_
  refine mEv.stp 0 (S' := (164, _, [some (.ref 0), some (.ref 9)], [], memNNx (gN_tc t) (gN_hb t) (gN_x t) (gN_hg t) (gN_cc t) (va_cpy (gN_w t) (gN_w s) (Int32.toNatClampNeg (nI 0)) (Int32.toNatClampNeg (nI 0)) (Int32.toNatClampNeg (nI 36))) (va_cpy (gN_r t) (gN_r s) (Int32.toNatClampNeg (nI 0)) (Int32.toNatClampNeg (nI 0)) (Int32.toNatClampNeg (nI 36))) (va_cpy (gN_hd t) (gN_hd s) (Int32.toNatClampNeg (nI 0)) (Int32.toNatClampNeg (nI 0)) (Int32.toNatClampNeg (nI 36))) (va_cpy (gN_st t) (gN_st s) (Int32.toNatClampNeg (nI 0)) (Int32.toNatClampNeg (nI 0)) (Int32.toNatClampNeg (nI 36))) (va_cpy (gN_ct t) (gN_ct s) (Int32.toNatClampNeg (nI 0)) (Int32.toNatClampNeg (nI 0)) (Int32.toNatClampNeg (nI 180))) (va_cpy (gN_tt t) (gN_tt s) (Int32.toNatClampNeg (nI 0)) (Int32.toNatClampNeg (nI 0)) (Int32.toNatClampNeg (nI 5))) (va_cpy (gN_ld t) (gN_ld s) (Int32.toNatClampNeg (nI 0)) (Int32.toNatClampNeg (nI 0)) (Int32.toNatClampNeg (nI 24))) (va_cpy (gN_ca t) (gN_ca s) (Int32.toNatClampNeg (nI 0)) (Int32.toNatClampNeg (nI 0)) (Int32.toNatClampNeg ((gN_cc t) * (nI 4)))) t)) rfl ?_
  obtain rfl := Option.some.inj h
  exact mEv.tgt memNN_mk (mEv.retv rfl)
theorem A_X0_copyFrom {d : Nat}  {t s : NetS} {q : NetS} (h : F_X0_copyFrom t s = some q) : mCall (d + 1) m_X0_copyFrom [.ref 0, .ref 9] (memNN s t) none (memNN q t) := mCall.intro ok_X0_copyFrom pl_X0_copyFrom rfl (E_X0_copyFrom (d := d) h)
def F_X0_freeWires (p1 : Int32) (s : NetS) : Option (Int32) := gI p1 36 (gI p1 36 (if (nI 0) ≤ (((gN_w s) (Int32.toNatClampNeg p1)) - ((gN_hd s) (Int32.toNatClampNeg p1))) then (some ((((gN_w s) (Int32.toNatClampNeg p1)) - ((gN_hd s) (Int32.toNatClampNeg p1))))) else (some ((nI 0)))))
set_option maxRecDepth 100000 in
theorem E_X0_freeWires {d : Nat} {p1 : Int32} {s : NetS} {q : Int32} (h : F_X0_freeWires p1 s = some q) : mEv d m_X0_freeWires none (0, [], [some (.ref 0), some (.int p1), none], [], memN s) (some (Value.int q)) (memN s) := by
  unfold F_X0_freeWires at h
  obtain ⟨g1, h⟩ := gI_some h
  refine mEv.gd 5 (S' := (6, _, [some (.ref 0), some (.int p1), none], [.int ((gN_w s) (Int32.toNatClampNeg p1))], memN s)) rfl g1 ?_
  obtain ⟨g2, h⟩ := gI_some h
  refine mEv.gd 4 (S' := (12, _, [some (.ref 0), some (.int p1), none], [.int ((gN_hd s) (Int32.toNatClampNeg p1)), .int ((gN_w s) (Int32.toNatClampNeg p1))], memN s)) rfl g2 ?_
  refine mEv.br 4 (S1 := (22, [], [some (.ref 0), some (.int p1), some (.int (((gN_w s) (Int32.toNatClampNeg p1)) - ((gN_hd s) (Int32.toNatClampNeg p1))))], [], memN s)) (S2 := (18, _, [some (.ref 0), some (.int p1), some (.int (((gN_w s) (Int32.toNatClampNeg p1)) - ((gN_hd s) (Int32.toNatClampNeg p1))))], [], memN s)) rfl (fun c3 => ?_) (fun c3 => ?_)
  · have h := (if_pos c3).symm.trans h
    obtain rfl := Option.some.inj h
    exact mEv.stp 3 (S' := (23, _, [some (.ref 0), some (.int p1), some (.int (((gN_w s) (Int32.toNatClampNeg p1)) - ((gN_hd s) (Int32.toNatClampNeg p1))))], [.int (((gN_w s) (Int32.toNatClampNeg p1)) - ((gN_hd s) (Int32.toNatClampNeg p1)))], memN s)) rfl (mEv.reti ⟨_, rfl, rfl⟩)
  · have h := (if_neg c3).symm.trans h
    obtain rfl := Option.some.inj h
    exact mEv.stp 3 (S' := (23, _, [some (.ref 0), some (.int p1), some (.int (((gN_w s) (Int32.toNatClampNeg p1)) - ((gN_hd s) (Int32.toNatClampNeg p1))))], [.int (nI 0)], memN s)) rfl (mEv.reti ⟨_, rfl, rfl⟩)
theorem A_X0_freeWires {d : Nat} {p1 : Int32} {s : NetS} {q : Int32} (h : F_X0_freeWires p1 s = some q) : mCall d m_X0_freeWires [.ref 0, .int p1] (memN s) (some (Value.int q)) (memN s) := mCall.intro ok_X0_freeWires pl_X0_freeWires rfl (E_X0_freeWires (d := d) h)
def F_X0_servesOver (p1 : Int32) (s : NetS) : Option (Int32) := gI p1 36 (gI p1 36 (gI p1 36 (if (((gN_w s) (Int32.toNatClampNeg p1)) - ((gN_hd s) (Int32.toNatClampNeg p1))) ≤ ((gN_r s) (Int32.toNatClampNeg p1)) then (some ((nI 0))) else (some ((nI 1))))))
set_option maxRecDepth 100000 in
theorem E_X0_servesOver {d : Nat} {p1 : Int32} {s : NetS} {q : Int32} (h : F_X0_servesOver p1 s = some q) : mEv d m_X0_servesOver none (0, [], [some (.ref 0), some (.int p1)], [], memN s) (some (Value.int q)) (memN s) := by
  unfold F_X0_servesOver at h
  obtain ⟨g1, h⟩ := gI_some h
  refine mEv.gd 5 (S' := (6, _, [some (.ref 0), some (.int p1)], [.int ((gN_w s) (Int32.toNatClampNeg p1))], memN s)) rfl g1 ?_
  obtain ⟨g2, h⟩ := gI_some h
  refine mEv.gd 4 (S' := (12, _, [some (.ref 0), some (.int p1)], [.int ((gN_hd s) (Int32.toNatClampNeg p1)), .int ((gN_w s) (Int32.toNatClampNeg p1))], memN s)) rfl g2 ?_
  obtain ⟨g3, h⟩ := gI_some h
  refine mEv.gd 5 (S' := (19, _, [some (.ref 0), some (.int p1)], [.int ((gN_r s) (Int32.toNatClampNeg p1)), .int (((gN_w s) (Int32.toNatClampNeg p1)) - ((gN_hd s) (Int32.toNatClampNeg p1)))], memN s)) rfl g3 ?_
  refine mEv.br 1 (S1 := (26, [], [some (.ref 0), some (.int p1)], [], memN s)) (S2 := (22, _, [some (.ref 0), some (.int p1)], [], memN s)) rfl (fun c4 => ?_) (fun c4 => ?_)
  · have h := (if_pos c4).symm.trans h
    obtain rfl := Option.some.inj h
    exact mEv.stp 3 (S' := (27, _, [some (.ref 0), some (.int p1)], [.int (nI 0)], memN s)) rfl (mEv.reti ⟨_, rfl, rfl⟩)
  · have h := (if_neg c4).symm.trans h
    obtain rfl := Option.some.inj h
    exact mEv.stp 3 (S' := (27, _, [some (.ref 0), some (.int p1)], [.int (nI 1)], memN s)) rfl (mEv.reti ⟨_, rfl, rfl⟩)
theorem A_X0_servesOver {d : Nat} {p1 : Int32} {s : NetS} {q : Int32} (h : F_X0_servesOver p1 s = some q) : mCall d m_X0_servesOver [.ref 0, .int p1] (memN s) (some (Value.int q)) (memN s) := mCall.intro ok_X0_servesOver pl_X0_servesOver rfl (E_X0_servesOver (d := d) h)
def F_X0_wayNow (p1 : Int32) (p2 : Int32) (s : NetS) : Option (Int32) := (F_X0_linkCell p1 p2).bind (fun v1 => (F_X0_freeWires v1 s).bind (fun v3 => if v3 ≤ (nI 0) then ((F_X0_pairCell p1 p2).bind (fun v6 => gI v6 36 ((F_X0_linkCell p1 ((gN_st s) (Int32.toNatClampNeg v6))).bind (fun v9 => (F_X0_servesOver v9 s).bind (fun v11 => if v11 = (nI 0) then (some ((-nI 5))) else ((F_X0_linkCell ((gN_st s) (Int32.toNatClampNeg v6)) p2).bind (fun v14 => (F_X0_servesOver v14 s).bind (fun v16 => if v16 = (nI 0) then (some ((-nI 5))) else (some (((gN_st s) (Int32.toNatClampNeg v6)))))))))))) else (some ((-nI 1)))))
set_option maxRecDepth 100000 in
theorem E_X0_wayNow {d : Nat} {p1 : Int32} {p2 : Int32} {s : NetS} {q : Int32} (h : F_X0_wayNow p1 p2 s = some q) : mEv (d + 1) m_X0_wayNow none (0, [], [some (.ref 0), some (.int p1), some (.int p2), none], [], memN s) (some (Value.int q)) (memN s) := by
  unfold F_X0_wayNow at h
  refine mEv.stp 4 (S' := (3, _, [some (.ref 0), some (.int p1), some (.int p2), none], [.int p2, .int p1, .ref 0], memN s)) rfl ?_
  obtain ⟨v1, e2, h⟩ := bnd h
  refine mEv.callS (As := [.int p1, .int p2]) (st := [.ref 0]) (r := (some (.int v1))) (μ1 := memN s) lk_X0_73 rfl rfl rfl (A_X0_linkCell (d := d + 0) e2) ?_
  refine mEv.stp 0 (S' := (6, _, [some (.ref 0), some (.int p1), some (.int p2), none], [.int v1, .ref 0], memN s)) rfl ?_
  obtain ⟨v3, e4, h⟩ := bnd h
  refine mEv.callV (As := [.int v1]) (st := []) (h := 0) (r := (some (.int v3))) (μ1 := memN s) lk_X0_76 rfl rfl rfl rfl rfl (A_X0_freeWires (d := d + 0) e4) ?_
  refine mEv.stp 0 (S' := (9, _, [some (.ref 0), some (.int p1), some (.int p2), none], [.int v3], memN s)) rfl ?_
  refine mEv.br 1 (S1 := (14, [], [some (.ref 0), some (.int p1), some (.int p2), none], [], memN s)) (S2 := (12, _, [some (.ref 0), some (.int p1), some (.int p2), none], [], memN s)) rfl (fun c5 => ?_) (fun c5 => ?_)
  · have h := (if_pos c5).symm.trans h
    refine mEv.stp 5 (S' := (20, _, [some (.ref 0), some (.int p1), some (.int p2), none], [.int p2, .int p1, .ref 4], memN s)) rfl ?_
    obtain ⟨v6, e7, h⟩ := bnd h
    refine mEv.callS (As := [.int p1, .int p2]) (st := [.ref 4]) (r := (some (.int v6))) (μ1 := memN s) lk_X0_60 rfl rfl rfl (A_X0_pairCell (d := d + 0) e7) ?_
    refine mEv.stp 0 (S' := (23, _, [some (.ref 0), some (.int p1), some (.int p2), none], [.int v6, .ref 4], memN s)) rfl ?_
    obtain ⟨g8, h⟩ := gI_some h
    refine mEv.gd 1 (S' := (24, _, [some (.ref 0), some (.int p1), some (.int p2), none], [.int ((gN_st s) (Int32.toNatClampNeg v6))], memN s)) rfl g8 ?_
    refine mEv.stp 4 (S' := (28, _, [some (.ref 0), some (.int p1), some (.int p2), some (.int ((gN_st s) (Int32.toNatClampNeg v6)))], [.int ((gN_st s) (Int32.toNatClampNeg v6)), .int p1, .ref 0], memN s)) rfl ?_
    obtain ⟨v9, e10, h⟩ := bnd h
    refine mEv.callS (As := [.int p1, .int ((gN_st s) (Int32.toNatClampNeg v6))]) (st := [.ref 0]) (r := (some (.int v9))) (μ1 := memN s) lk_X0_73 rfl rfl rfl (A_X0_linkCell (d := d + 0) e10) ?_
    refine mEv.stp 0 (S' := (31, _, [some (.ref 0), some (.int p1), some (.int p2), some (.int ((gN_st s) (Int32.toNatClampNeg v6)))], [.int v9, .ref 0], memN s)) rfl ?_
    obtain ⟨v11, e12, h⟩ := bnd h
    refine mEv.callV (As := [.int v9]) (st := []) (h := 0) (r := (some (.int v11))) (μ1 := memN s) lk_X0_80 rfl rfl rfl rfl rfl (A_X0_servesOver (d := d + 0) e12) ?_
    refine mEv.stp 0 (S' := (34, _, [some (.ref 0), some (.int p1), some (.int p2), some (.int ((gN_st s) (Int32.toNatClampNeg v6)))], [.int v11], memN s)) rfl ?_
    refine mEv.br 1 (S1 := (53, [], [some (.ref 0), some (.int p1), some (.int p2), some (.int ((gN_st s) (Int32.toNatClampNeg v6)))], [], memN s)) (S2 := (37, _, [some (.ref 0), some (.int p1), some (.int p2), some (.int ((gN_st s) (Int32.toNatClampNeg v6)))], [], memN s)) rfl (fun c13 => ?_) (fun c13 => ?_)
    · have h := (if_pos c13).symm.trans h
      obtain rfl := Option.some.inj h
      exact mEv.stp 3 (S' := (55, _, [some (.ref 0), some (.int p1), some (.int p2), some (.int ((gN_st s) (Int32.toNatClampNeg v6)))], [.int (-nI 5)], memN s)) rfl (mEv.reti ⟨_, rfl, rfl⟩)
    · have h := (if_neg c13).symm.trans h
      refine mEv.stp 3 (S' := (40, _, [some (.ref 0), some (.int p1), some (.int p2), some (.int ((gN_st s) (Int32.toNatClampNeg v6)))], [.int p2, .int ((gN_st s) (Int32.toNatClampNeg v6)), .ref 0], memN s)) rfl ?_
      obtain ⟨v14, e15, h⟩ := bnd h
      refine mEv.callS (As := [.int ((gN_st s) (Int32.toNatClampNeg v6)), .int p2]) (st := [.ref 0]) (r := (some (.int v14))) (μ1 := memN s) lk_X0_73 rfl rfl rfl (A_X0_linkCell (d := d + 0) e15) ?_
      refine mEv.stp 0 (S' := (43, _, [some (.ref 0), some (.int p1), some (.int p2), some (.int ((gN_st s) (Int32.toNatClampNeg v6)))], [.int v14, .ref 0], memN s)) rfl ?_
      obtain ⟨v16, e17, h⟩ := bnd h
      refine mEv.callV (As := [.int v14]) (st := []) (h := 0) (r := (some (.int v16))) (μ1 := memN s) lk_X0_80 rfl rfl rfl rfl rfl (A_X0_servesOver (d := d + 0) e17) ?_
      refine mEv.stp 0 (S' := (46, _, [some (.ref 0), some (.int p1), some (.int p2), some (.int ((gN_st s) (Int32.toNatClampNeg v6)))], [.int v16], memN s)) rfl ?_
      refine mEv.br 1 (S1 := (53, [], [some (.ref 0), some (.int p1), some (.int p2), some (.int ((gN_st s) (Int32.toNatClampNeg v6)))], [], memN s)) (S2 := (49, _, [some (.ref 0), some (.int p1), some (.int p2), some (.int ((gN_st s) (Int32.toNatClampNeg v6)))], [], memN s)) rfl (fun c18 => ?_) (fun c18 => ?_)
      · have h := (if_pos c18).symm.trans h
        obtain rfl := Option.some.inj h
        exact mEv.stp 3 (S' := (55, _, [some (.ref 0), some (.int p1), some (.int p2), some (.int ((gN_st s) (Int32.toNatClampNeg v6)))], [.int (-nI 5)], memN s)) rfl (mEv.reti ⟨_, rfl, rfl⟩)
      · have h := (if_neg c18).symm.trans h
        obtain rfl := Option.some.inj h
        exact mEv.stp 3 (S' := (55, _, [some (.ref 0), some (.int p1), some (.int p2), some (.int ((gN_st s) (Int32.toNatClampNeg v6)))], [.int ((gN_st s) (Int32.toNatClampNeg v6))], memN s)) rfl (mEv.reti ⟨_, rfl, rfl⟩)
  · have h := (if_neg c5).symm.trans h
    obtain rfl := Option.some.inj h
    exact mEv.stp 1 (S' := (13, _, [some (.ref 0), some (.int p1), some (.int p2), none], [.int (-nI 1)], memN s)) rfl (mEv.reti ⟨_, rfl, rfl⟩)
theorem A_X0_wayNow {d : Nat} {p1 : Int32} {p2 : Int32} {s : NetS} {q : Int32} (h : F_X0_wayNow p1 p2 s = some q) : mCall (d + 1) m_X0_wayNow [.ref 0, .int p1, .int p2] (memN s) (some (Value.int q)) (memN s) := mCall.intro ok_X0_wayNow pl_X0_wayNow rfl (E_X0_wayNow (d := d) h)
def B_X0_hasAnyWay_21 (x1 : Int32) (x2 : Int32) (x3 : Int32) (x4 : Int32) (s : NetS) : Option ((Int32 × Int32) ⊕ (Int32)) := if (gN_tc s) ≤ x4 then (some (.inr (x3))) else (if ¬ x3 = (nI 0) then (some (.inr (x3))) else (if x4 = x1 then (some (.inl ((nI 0), (x4 + (nI 1))))) else (if x4 = x2 then (some (.inl ((nI 0), (x4 + (nI 1))))) else ((F_X0_linkCell x1 x4).bind (fun v10 => (F_X0_servesOver v10 s).bind (fun v12 => if v12 = (nI 0) then (some (.inl ((nI 0), (x4 + (nI 1))))) else ((F_X0_linkCell x4 x2).bind (fun v15 => (F_X0_servesOver v15 s).bind (fun v17 => if v17 = (nI 0) then (some (.inl ((nI 0), (x4 + (nI 1))))) else (some (.inl ((nI 1), (x4 + (nI 1))))))))))))))
set_option maxRecDepth 100000 in
theorem H_X0_hasAnyWay_21 {d : Nat} {x1 : Int32} {x2 : Int32} {x3 : Int32} {x4 : Int32} {s : NetS} {q : (Int32 × Int32) ⊕ (Int32)} {r0 : Option Value} {mu0 : MMe} (h : B_X0_hasAnyWay_21 x1 x2 x3 x4 s = some q) (hk : Sum.elim (fun x : Int32 × Int32 => mEv (d + 1) m_X0_hasAnyWay none (21, [], [some (.ref 0), some (.int x1), some (.int x2), some (.int x.1), some (.int x.2)], [], memN s) r0 mu0) (fun z : Int32 => mEv (d + 1) m_X0_hasAnyWay none (84, [], [none, none, none, some (.int z), none], [], memN s) r0 mu0) q) : mEv (d + 1) m_X0_hasAnyWay none (21, [], [some (.ref 0), some (.int x1), some (.int x2), some (.int x3), some (.int x4)], [], memN s) r0 mu0 := by
  unfold B_X0_hasAnyWay_21 at h
  refine mEv.br 5 (S1 := (84, [], [some (.ref 0), some (.int x1), some (.int x2), some (.int x3), some (.int x4)], [], memN s)) (S2 := (30, _, [some (.ref 0), some (.int x1), some (.int x2), some (.int x3), some (.int x4)], [], memN s)) rfl (fun c6 => ?_) (fun c6 => ?_)
  · have h := (if_pos c6).symm.trans h
    refine mEv.fg [0, 1, 2, 4] (z' := [none, none, none, some (.int x3), none]) rfl ?_
    obtain rfl := Option.some.inj h
    exact hk
  · have h := (if_neg c6).symm.trans h
    refine mEv.br 2 (S1 := (84, [], [some (.ref 0), some (.int x1), some (.int x2), some (.int x3), some (.int x4)], [], memN s)) (S2 := (34, _, [some (.ref 0), some (.int x1), some (.int x2), some (.int x3), some (.int x4)], [], memN s)) rfl (fun c7 => ?_) (fun c7 => ?_)
    · have h := (if_pos c7).symm.trans h
      refine mEv.fg [0, 1, 2, 4] (z' := [none, none, none, some (.int x3), none]) rfl ?_
      obtain rfl := Option.some.inj h
      exact hk
    · have h := (if_neg c7).symm.trans h
      refine mEv.br 3 (S1 := (76, [], [some (.ref 0), some (.int x1), some (.int x2), some (.int x3), some (.int x4)], [], memN s)) (S2 := (40, _, [some (.ref 0), some (.int x1), some (.int x2), some (.int x3), some (.int x4)], [], memN s)) rfl (fun c8 => ?_) (fun c8 => ?_)
      · have h := (if_pos c8).symm.trans h
        refine mEv.stp 6 (S' := (21, [], [some (.ref 0), some (.int x1), some (.int x2), some (.int (nI 0)), some (.int (x4 + (nI 1)))], [], memN s)) rfl ?_
        obtain rfl := Option.some.inj h
        exact hk
      · have h := (if_neg c8).symm.trans h
        refine mEv.br 3 (S1 := (76, [], [some (.ref 0), some (.int x1), some (.int x2), some (.int x3), some (.int x4)], [], memN s)) (S2 := (46, _, [some (.ref 0), some (.int x1), some (.int x2), some (.int x3), some (.int x4)], [], memN s)) rfl (fun c9 => ?_) (fun c9 => ?_)
        · have h := (if_pos c9).symm.trans h
          refine mEv.stp 6 (S' := (21, [], [some (.ref 0), some (.int x1), some (.int x2), some (.int (nI 0)), some (.int (x4 + (nI 1)))], [], memN s)) rfl ?_
          obtain rfl := Option.some.inj h
          exact hk
        · have h := (if_neg c9).symm.trans h
          refine mEv.stp 3 (S' := (50, _, [some (.ref 0), some (.int x1), some (.int x2), some (.int x3), some (.int x4)], [.int x4, .int x1, .ref 0], memN s)) rfl ?_
          obtain ⟨v10, e11, h⟩ := bnd h
          refine mEv.callS (As := [.int x1, .int x4]) (st := [.ref 0]) (r := (some (.int v10))) (μ1 := memN s) lk_X0_73 rfl rfl rfl (A_X0_linkCell (d := d + 0) e11) ?_
          refine mEv.stp 0 (S' := (53, _, [some (.ref 0), some (.int x1), some (.int x2), some (.int x3), some (.int x4)], [.int v10, .ref 0], memN s)) rfl ?_
          obtain ⟨v12, e13, h⟩ := bnd h
          refine mEv.callV (As := [.int v10]) (st := []) (h := 0) (r := (some (.int v12))) (μ1 := memN s) lk_X0_80 rfl rfl rfl rfl rfl (A_X0_servesOver (d := d + 0) e13) ?_
          refine mEv.stp 0 (S' := (56, _, [some (.ref 0), some (.int x1), some (.int x2), some (.int x3), some (.int x4)], [.int v12], memN s)) rfl ?_
          refine mEv.br 1 (S1 := (76, [], [some (.ref 0), some (.int x1), some (.int x2), some (.int x3), some (.int x4)], [], memN s)) (S2 := (59, _, [some (.ref 0), some (.int x1), some (.int x2), some (.int x3), some (.int x4)], [], memN s)) rfl (fun c14 => ?_) (fun c14 => ?_)
          · have h := (if_pos c14).symm.trans h
            refine mEv.stp 6 (S' := (21, [], [some (.ref 0), some (.int x1), some (.int x2), some (.int (nI 0)), some (.int (x4 + (nI 1)))], [], memN s)) rfl ?_
            obtain rfl := Option.some.inj h
            exact hk
          · have h := (if_neg c14).symm.trans h
            refine mEv.stp 3 (S' := (63, _, [some (.ref 0), some (.int x1), some (.int x2), some (.int x3), some (.int x4)], [.int x2, .int x4, .ref 0], memN s)) rfl ?_
            obtain ⟨v15, e16, h⟩ := bnd h
            refine mEv.callS (As := [.int x4, .int x2]) (st := [.ref 0]) (r := (some (.int v15))) (μ1 := memN s) lk_X0_73 rfl rfl rfl (A_X0_linkCell (d := d + 0) e16) ?_
            refine mEv.stp 0 (S' := (66, _, [some (.ref 0), some (.int x1), some (.int x2), some (.int x3), some (.int x4)], [.int v15, .ref 0], memN s)) rfl ?_
            obtain ⟨v17, e18, h⟩ := bnd h
            refine mEv.callV (As := [.int v15]) (st := []) (h := 0) (r := (some (.int v17))) (μ1 := memN s) lk_X0_80 rfl rfl rfl rfl rfl (A_X0_servesOver (d := d + 0) e18) ?_
            refine mEv.stp 0 (S' := (69, _, [some (.ref 0), some (.int x1), some (.int x2), some (.int x3), some (.int x4)], [.int v17], memN s)) rfl ?_
            refine mEv.br 1 (S1 := (76, [], [some (.ref 0), some (.int x1), some (.int x2), some (.int x3), some (.int x4)], [], memN s)) (S2 := (72, _, [some (.ref 0), some (.int x1), some (.int x2), some (.int x3), some (.int x4)], [], memN s)) rfl (fun c19 => ?_) (fun c19 => ?_)
            · have h := (if_pos c19).symm.trans h
              refine mEv.stp 6 (S' := (21, [], [some (.ref 0), some (.int x1), some (.int x2), some (.int (nI 0)), some (.int (x4 + (nI 1)))], [], memN s)) rfl ?_
              obtain rfl := Option.some.inj h
              exact hk
            · have h := (if_neg c19).symm.trans h
              refine mEv.stp 6 (S' := (21, [], [some (.ref 0), some (.int x1), some (.int x2), some (.int (nI 1)), some (.int (x4 + (nI 1)))], [], memN s)) rfl ?_
              obtain rfl := Option.some.inj h
              exact hk
def J_X0_hasAnyWay_17 (x1 : Int32) (x2 : Int32) (y0 : Int32) (s : NetS) : Option (Int32) := (mWh (fun x => B_X0_hasAnyWay_21 x1 x2 x.1 x.2 s) fuel0 (y0, (nI 0))).bind (fun z20 => gB z20 (some (z20)))
set_option maxRecDepth 100000 in
theorem K_X0_hasAnyWay_17 {d : Nat} {x1 : Int32} {x2 : Int32} {y0 : Int32} {s : NetS} {q : Int32} (h : J_X0_hasAnyWay_17 x1 x2 y0 s = some q) : mEv (d + 1) m_X0_hasAnyWay none (17, [], [some (.ref 0), some (.int x1), some (.int x2), none, none], [.int y0], memN s) (some (Value.int q)) (memN s) := by
  unfold J_X0_hasAnyWay_17 at h
  refine mEv.stp 4 (S' := (21, [], [some (.ref 0), some (.int x1), some (.int x2), some (.int y0), some (.int (nI 0))], [], memN s)) rfl ?_
  obtain ⟨z20, e21, h⟩ := bnd h
  refine mWh_ind (b := (fun x => B_X0_hasAnyWay_21 x1 x2 x.1 x.2 s)) (P := fun x : Int32 × Int32 => mEv (d + 1) m_X0_hasAnyWay none (21, [], [some (.ref 0), some (.int x1), some (.int x2), some (.int x.1), some (.int x.2)], [], memN s) (some (Value.int q)) (memN s)) (K := fun z : Int32 => mEv (d + 1) m_X0_hasAnyWay none (84, [], [none, none, none, some (.int z), none], [], memN s) (some (Value.int q)) (memN s)) (fun x u hq hk => H_X0_hasAnyWay_21 (d := d) (x1 := x1) (x2 := x2) (x3 := x.1) (x4 := x.2) (s := s) (q := u) (r0 := (some (Value.int q))) (mu0 := (memN s)) hq hk) fuel0 (y0, (nI 0)) z20 e21 ?_
  refine mEv.stp 0 (S' := (84, [], [none, none, none, some (.int z20), none], [], memN s)) rfl ?_
  obtain ⟨hB, h⟩ := gB_some h
  obtain rfl := Option.some.inj h
  exact mEv.stp 2 (S' := (85, _, [none, none, none, some (.int z20), none], [.int z20], memN s)) rfl (mEv.reti ⟨_, rfl, hB⟩)
def F_X0_hasAnyWay (p1 : Int32) (p2 : Int32) (s : NetS) : Option (Int32) := (F_X0_linkCell p1 p2).bind (fun v1 => (F_X0_freeWires v1 s).bind (fun v3 => if v3 ≤ (nI 0) then (J_X0_hasAnyWay_17 p1 p2 (nI 0) s) else (J_X0_hasAnyWay_17 p1 p2 (nI 1) s)))
set_option maxRecDepth 100000 in
theorem E_X0_hasAnyWay {d : Nat} {p1 : Int32} {p2 : Int32} {s : NetS} {q : Int32} (h : F_X0_hasAnyWay p1 p2 s = some q) : mEv (d + 1) m_X0_hasAnyWay none (0, [], [some (.ref 0), some (.int p1), some (.int p2), none, none], [], memN s) (some (Value.int q)) (memN s) := by
  unfold F_X0_hasAnyWay at h
  refine mEv.stp 4 (S' := (3, _, [some (.ref 0), some (.int p1), some (.int p2), none, none], [.int p2, .int p1, .ref 0], memN s)) rfl ?_
  obtain ⟨v1, e2, h⟩ := bnd h
  refine mEv.callS (As := [.int p1, .int p2]) (st := [.ref 0]) (r := (some (.int v1))) (μ1 := memN s) lk_X0_73 rfl rfl rfl (A_X0_linkCell (d := d + 0) e2) ?_
  refine mEv.stp 0 (S' := (6, _, [some (.ref 0), some (.int p1), some (.int p2), none, none], [.int v1, .ref 0], memN s)) rfl ?_
  obtain ⟨v3, e4, h⟩ := bnd h
  refine mEv.callV (As := [.int v1]) (st := []) (h := 0) (r := (some (.int v3))) (μ1 := memN s) lk_X0_76 rfl rfl rfl rfl rfl (A_X0_freeWires (d := d + 0) e4) ?_
  refine mEv.stp 0 (S' := (9, _, [some (.ref 0), some (.int p1), some (.int p2), none, none], [.int v3], memN s)) rfl ?_
  refine mEv.br 1 (S1 := (16, [], [some (.ref 0), some (.int p1), some (.int p2), none, none], [], memN s)) (S2 := (12, _, [some (.ref 0), some (.int p1), some (.int p2), none, none], [], memN s)) rfl (fun c5 => ?_) (fun c5 => ?_)
  · have h := (if_pos c5).symm.trans h
    refine mEv.stp 2 (S' := (17, [], [some (.ref 0), some (.int p1), some (.int p2), none, none], [.int (nI 0)], memN s)) rfl ?_
    exact K_X0_hasAnyWay_17 (d := d) h
  · have h := (if_neg c5).symm.trans h
    refine mEv.stp 2 (S' := (17, [], [some (.ref 0), some (.int p1), some (.int p2), none, none], [.int (nI 1)], memN s)) rfl ?_
    exact K_X0_hasAnyWay_17 (d := d) h
theorem A_X0_hasAnyWay {d : Nat} {p1 : Int32} {p2 : Int32} {s : NetS} {q : Int32} (h : F_X0_hasAnyWay p1 p2 s = some q) : mCall (d + 1) m_X0_hasAnyWay [.ref 0, .int p1, .int p2] (memN s) (some (Value.int q)) (memN s) := mCall.intro ok_X0_hasAnyWay pl_X0_hasAnyWay rfl (E_X0_hasAnyWay (d := d) h)
def F_X0_count (p1 : Int32) (p2 : Int32) (s : NetS) : Option (NetS) := gI p1 5 (gI p1 5 (gI ((p1 * (nI 36)) + p2) 180 (gI ((p1 * (nI 36)) + p2) 180 (some ((mkN (gN_tc s) (gN_hb s) (gN_x s) (gN_hg s) (gN_cc s) (gN_w s) (gN_r s) (gN_hd s) (gN_st s) (upd (gN_ct s) (Int32.toNatClampNeg ((p1 * (nI 36)) + p2)) (((gN_ct s) (Int32.toNatClampNeg ((p1 * (nI 36)) + p2))) + (nI 1))) (upd (gN_tt s) (Int32.toNatClampNeg p1) (((gN_tt s) (Int32.toNatClampNeg p1)) + (nI 1))) (gN_ld s) (gN_ca s)))))))
set_option maxRecDepth 100000 in
theorem E_X0_count {d : Nat} {p1 : Int32} {p2 : Int32} {s : NetS} {q : NetS} (h : F_X0_count p1 p2 s = some q) : mEv d m_X0_count none (0, [], [some (.ref 0), some (.int p1), some (.int p2)], [], memN s) none (memN q) := by
  unfold F_X0_count at h
  obtain ⟨g1, h⟩ := gI_some h
  refine mEv.gd 6 (S' := (7, _, [some (.ref 0), some (.int p1), some (.int p2)], [.int ((gN_tt s) (Int32.toNatClampNeg p1)), .int p1, .ref 6], memN s)) rfl g1 ?_
  obtain ⟨g2, h⟩ := gI_some h
  refine mEv.gd 3 (S' := (10, _, [some (.ref 0), some (.int p1), some (.int p2)], [], memNx (gN_tc s) (gN_hb s) (gN_x s) (gN_hg s) (gN_cc s) (gN_w s) (gN_r s) (gN_hd s) (gN_st s) (gN_ct s) (upd (gN_tt s) (Int32.toNatClampNeg p1) (((gN_tt s) (Int32.toNatClampNeg p1)) + (nI 1))) (gN_ld s) (gN_ca s))) rfl g2 ?_
  obtain ⟨g3, h⟩ := gI_some h
  refine mEv.gd 9 (S' := (22, _, [some (.ref 0), some (.int p1), some (.int p2)], [.int ((gN_ct s) (Int32.toNatClampNeg ((p1 * (nI 36)) + p2))), .int ((p1 * (nI 36)) + p2), .ref 5], memNx (gN_tc s) (gN_hb s) (gN_x s) (gN_hg s) (gN_cc s) (gN_w s) (gN_r s) (gN_hd s) (gN_st s) (gN_ct s) (upd (gN_tt s) (Int32.toNatClampNeg p1) (((gN_tt s) (Int32.toNatClampNeg p1)) + (nI 1))) (gN_ld s) (gN_ca s))) rfl g3 ?_
  obtain ⟨g4, h⟩ := gI_some h
  refine mEv.gd 3 (S' := (25, _, [some (.ref 0), some (.int p1), some (.int p2)], [], memNx (gN_tc s) (gN_hb s) (gN_x s) (gN_hg s) (gN_cc s) (gN_w s) (gN_r s) (gN_hd s) (gN_st s) (upd (gN_ct s) (Int32.toNatClampNeg ((p1 * (nI 36)) + p2)) (((gN_ct s) (Int32.toNatClampNeg ((p1 * (nI 36)) + p2))) + (nI 1))) (upd (gN_tt s) (Int32.toNatClampNeg p1) (((gN_tt s) (Int32.toNatClampNeg p1)) + (nI 1))) (gN_ld s) (gN_ca s))) rfl g4 ?_
  obtain rfl := Option.some.inj h
  exact mEv.tgt memN_mk (mEv.retv rfl)
theorem A_X0_count {d : Nat} {p1 : Int32} {p2 : Int32} {s : NetS} {q : NetS} (h : F_X0_count p1 p2 s = some q) : mCall d m_X0_count [.ref 0, .int p1, .int p2] (memN s) none (memN q) := mCall.intro ok_X0_count pl_X0_count rfl (E_X0_count (d := d) h)
def F_X0_advanceX  (s : NetS) : Option (NetS) := gZL (lN 2147483648) (some ((mkN (gN_tc s) (gN_hb s) (Int64.toInt32 ((((Int32.toInt64 (gN_x s)) * (lN 1103515245)) + (lN 12345)) - (((Int32.toInt64 (gN_x s)) * (lN 1103515245)) + (lN 12345)) / (lN 2147483648) * (lN 2147483648))) (gN_hg s) (gN_cc s) (gN_w s) (gN_r s) (gN_hd s) (gN_st s) (gN_ct s) (gN_tt s) (gN_ld s) (gN_ca s))))
set_option maxRecDepth 100000 in
theorem E_X0_advanceX {d : Nat}  {s : NetS} {q : NetS} (h : F_X0_advanceX s = some q) : mEv d m_X0_advanceX none (0, [], [some (.ref 0)], [], memN s) none (memN q) := by
  unfold F_X0_advanceX at h
  obtain ⟨g1, h⟩ := gZL_some h
  refine mEv.gd 11 (S' := (18, _, [some (.ref 0)], [.long ((((Int32.toInt64 (gN_x s)) * (lN 1103515245)) + (lN 12345)) - (((Int32.toInt64 (gN_x s)) * (lN 1103515245)) + (lN 12345)) / (lN 2147483648) * (lN 2147483648)), .ref 0], memN s)) rfl g1 ?_
  obtain rfl := Option.some.inj h
  exact mEv.tgt memN_mk (mEv.stp 2 (S' := (22, _, [some (.ref 0)], [], memNx (gN_tc s) (gN_hb s) (Int64.toInt32 ((((Int32.toInt64 (gN_x s)) * (lN 1103515245)) + (lN 12345)) - (((Int32.toInt64 (gN_x s)) * (lN 1103515245)) + (lN 12345)) / (lN 2147483648) * (lN 2147483648))) (gN_hg s) (gN_cc s) (gN_w s) (gN_r s) (gN_hd s) (gN_st s) (gN_ct s) (gN_tt s) (gN_ld s) (gN_ca s))) rfl (mEv.retv rfl))
theorem A_X0_advanceX {d : Nat}  {s : NetS} {q : NetS} (h : F_X0_advanceX s = some q) : mCall d m_X0_advanceX [.ref 0] (memN s) none (memN q) := mCall.intro ok_X0_advanceX pl_X0_advanceX rfl (E_X0_advanceX (d := d) h)
def J_X0_redraw_43 (x1 : Int32) (x2 : Int32) (x3 : Int32) (s : NetS) : Option (NetS) := (F_X0_pairCell x1 x2).bind (fun v11 => gI v11 36 (some ((mkN (gN_tc s) (gN_hb s) (gN_x s) (gN_hg s) (gN_cc s) (gN_w s) (gN_r s) (gN_hd s) (upd (gN_st s) (Int32.toNatClampNeg v11) x3) (gN_ct s) (gN_tt s) (gN_ld s) (gN_ca s)))))
set_option maxRecDepth 100000 in
theorem K_X0_redraw_43 {d : Nat} {x1 : Int32} {x2 : Int32} {x3 : Int32} {s : NetS} {q : NetS} (h : J_X0_redraw_43 x1 x2 x3 s = some q) : mEv (d + 1) m_X0_redraw none (43, [], [some (.ref 0), some (.int x1), some (.int x2), some (.int x3)], [], memN s) none (memN q) := by
  unfold J_X0_redraw_43 at h
  refine mEv.stp 5 (S' := (49, _, [some (.ref 0), some (.int x1), some (.int x2), some (.int x3)], [.int x2, .int x1, .ref 4], memN s)) rfl ?_
  obtain ⟨v11, e12, h⟩ := bnd h
  refine mEv.callS (As := [.int x1, .int x2]) (st := [.ref 4]) (r := (some (.int v11))) (μ1 := memN s) lk_X0_60 rfl rfl rfl (A_X0_pairCell (d := d + 0) e12) ?_
  refine mEv.stp 0 (S' := (52, _, [some (.ref 0), some (.int x1), some (.int x2), some (.int x3)], [.int v11, .ref 4], memN s)) rfl ?_
  obtain ⟨g13, h⟩ := gI_some h
  refine mEv.gd 2 (S' := (54, _, [some (.ref 0), some (.int x1), some (.int x2), some (.int x3)], [], memNx (gN_tc s) (gN_hb s) (gN_x s) (gN_hg s) (gN_cc s) (gN_w s) (gN_r s) (gN_hd s) (upd (gN_st s) (Int32.toNatClampNeg v11) x3) (gN_ct s) (gN_tt s) (gN_ld s) (gN_ca s))) rfl g13 ?_
  obtain rfl := Option.some.inj h
  exact mEv.tgt memN_mk (mEv.retv rfl)
def J_X0_redraw_31 (x1 : Int32) (x2 : Int32) (x3 : Int32) (s : NetS) : Option (NetS) := (F_J9_max_7cf53 x1 x2).bind (fun v8 => if x3 < v8 then (J_X0_redraw_43 x1 x2 x3 s) else (J_X0_redraw_43 x1 x2 (x3 + (nI 1)) s))
set_option maxRecDepth 100000 in
theorem K_X0_redraw_31 {d : Nat} {x1 : Int32} {x2 : Int32} {x3 : Int32} {s : NetS} {q : NetS} (h : J_X0_redraw_31 x1 x2 x3 s = some q) : mEv (d + 1) m_X0_redraw none (31, [], [some (.ref 0), some (.int x1), some (.int x2), some (.int x3)], [], memN s) none (memN q) := by
  unfold J_X0_redraw_31 at h
  refine mEv.stp 4 (S' := (34, _, [some (.ref 0), some (.int x1), some (.int x2), some (.int x3)], [.int x2, .int x1, .int x3], memN s)) rfl ?_
  obtain ⟨v8, e9, h⟩ := bnd h
  refine mEv.callS (As := [.int x1, .int x2]) (st := [.int x3]) (r := (some (.int v8))) (μ1 := memN s) lk_X0_116 rfl rfl rfl (A_J9_max_7cf53 (d := d + 0) e9) ?_
  refine mEv.stp 0 (S' := (37, _, [some (.ref 0), some (.int x1), some (.int x2), some (.int x3)], [.int v8, .int x3], memN s)) rfl ?_
  refine mEv.br 1 (S1 := (43, [], [some (.ref 0), some (.int x1), some (.int x2), some (.int x3)], [], memN s)) (S2 := (40, _, [some (.ref 0), some (.int x1), some (.int x2), some (.int x3)], [], memN s)) rfl (fun c10 => ?_) (fun c10 => ?_)
  · have h := (if_pos c10).symm.trans h
    exact K_X0_redraw_43 (d := d) h
  · have h := (if_neg c10).symm.trans h
    refine mEv.stp 1 (S' := (43, [], [some (.ref 0), some (.int x1), some (.int x2), some (.int (x3 + (nI 1)))], [], memN s)) rfl ?_
    exact K_X0_redraw_43 (d := d) h
def F_X0_redraw (p1 : Int32) (p2 : Int32) (s : NetS) : Option (NetS) := (F_X0_advanceX s).bind (fun v1 => gZ (nI 65536) (gZ ((gN_tc v1) - (nI 2)) ((F_J9_min_7cf53 p1 p2).bind (fun v5 => if (((gN_x v1) / (nI 65536)) - ((gN_x v1) / (nI 65536)) / ((gN_tc v1) - (nI 2)) * ((gN_tc v1) - (nI 2))) < v5 then (J_X0_redraw_31 p1 p2 (((gN_x v1) / (nI 65536)) - ((gN_x v1) / (nI 65536)) / ((gN_tc v1) - (nI 2)) * ((gN_tc v1) - (nI 2))) v1) else (J_X0_redraw_31 p1 p2 ((((gN_x v1) / (nI 65536)) - ((gN_x v1) / (nI 65536)) / ((gN_tc v1) - (nI 2)) * ((gN_tc v1) - (nI 2))) + (nI 1)) v1)))))
set_option maxRecDepth 100000 in
theorem E_X0_redraw {d : Nat} {p1 : Int32} {p2 : Int32} {s : NetS} {q : NetS} (h : F_X0_redraw p1 p2 s = some q) : mEv (d + 1) m_X0_redraw none (0, [], [some (.ref 0), some (.int p1), some (.int p2), none], [], memN s) none (memN q) := by
  unfold F_X0_redraw at h
  refine mEv.stp 2 (S' := (1, _, [some (.ref 0), some (.int p1), some (.int p2), none], [.ref 0], memN s)) rfl ?_
  obtain ⟨v1, e2, h⟩ := bnd h
  refine mEv.callV (As := []) (st := []) (h := 0) (r := none) (μ1 := memN v1) lk_X0_107 rfl rfl rfl rfl rfl (A_X0_advanceX (d := d + 0) e2) ?_
  refine mEv.stp 0 (S' := (4, _, [some (.ref 0), some (.int p1), some (.int p2), none], [], memN v1)) rfl ?_
  obtain ⟨g3, h⟩ := gZ_some h
  refine mEv.gd 4 (S' := (11, _, [some (.ref 0), some (.int p1), some (.int p2), none], [.int ((gN_x v1) / (nI 65536))], memN v1)) rfl g3 ?_
  obtain ⟨g4, h⟩ := gZ_some h
  refine mEv.gd 5 (S' := (18, _, [some (.ref 0), some (.int p1), some (.int p2), none], [.int (((gN_x v1) / (nI 65536)) - ((gN_x v1) / (nI 65536)) / ((gN_tc v1) - (nI 2)) * ((gN_tc v1) - (nI 2)))], memN v1)) rfl g4 ?_
  refine mEv.stp 4 (S' := (22, _, [some (.ref 0), some (.int p1), some (.int p2), some (.int (((gN_x v1) / (nI 65536)) - ((gN_x v1) / (nI 65536)) / ((gN_tc v1) - (nI 2)) * ((gN_tc v1) - (nI 2))))], [.int p2, .int p1, .int (((gN_x v1) / (nI 65536)) - ((gN_x v1) / (nI 65536)) / ((gN_tc v1) - (nI 2)) * ((gN_tc v1) - (nI 2)))], memN v1)) rfl ?_
  obtain ⟨v5, e6, h⟩ := bnd h
  refine mEv.callS (As := [.int p1, .int p2]) (st := [.int (((gN_x v1) / (nI 65536)) - ((gN_x v1) / (nI 65536)) / ((gN_tc v1) - (nI 2)) * ((gN_tc v1) - (nI 2)))]) (r := (some (.int v5))) (μ1 := memN v1) lk_X0_111 rfl rfl rfl (A_J9_min_7cf53 (d := d + 0) e6) ?_
  refine mEv.stp 0 (S' := (25, _, [some (.ref 0), some (.int p1), some (.int p2), some (.int (((gN_x v1) / (nI 65536)) - ((gN_x v1) / (nI 65536)) / ((gN_tc v1) - (nI 2)) * ((gN_tc v1) - (nI 2))))], [.int v5, .int (((gN_x v1) / (nI 65536)) - ((gN_x v1) / (nI 65536)) / ((gN_tc v1) - (nI 2)) * ((gN_tc v1) - (nI 2)))], memN v1)) rfl ?_
  refine mEv.br 1 (S1 := (31, [], [some (.ref 0), some (.int p1), some (.int p2), some (.int (((gN_x v1) / (nI 65536)) - ((gN_x v1) / (nI 65536)) / ((gN_tc v1) - (nI 2)) * ((gN_tc v1) - (nI 2))))], [], memN v1)) (S2 := (28, _, [some (.ref 0), some (.int p1), some (.int p2), some (.int (((gN_x v1) / (nI 65536)) - ((gN_x v1) / (nI 65536)) / ((gN_tc v1) - (nI 2)) * ((gN_tc v1) - (nI 2))))], [], memN v1)) rfl (fun c7 => ?_) (fun c7 => ?_)
  · have h := (if_pos c7).symm.trans h
    exact K_X0_redraw_31 (d := d) h
  · have h := (if_neg c7).symm.trans h
    refine mEv.stp 1 (S' := (31, [], [some (.ref 0), some (.int p1), some (.int p2), some (.int ((((gN_x v1) / (nI 65536)) - ((gN_x v1) / (nI 65536)) / ((gN_tc v1) - (nI 2)) * ((gN_tc v1) - (nI 2))) + (nI 1)))], [], memN v1)) rfl ?_
    exact K_X0_redraw_31 (d := d) h
theorem A_X0_redraw {d : Nat} {p1 : Int32} {p2 : Int32} {s : NetS} {q : NetS} (h : F_X0_redraw p1 p2 s = some q) : mCall (d + 1) m_X0_redraw [.ref 0, .int p1, .int p2] (memN s) none (memN q) := mCall.intro ok_X0_redraw pl_X0_redraw rfl (E_X0_redraw (d := d) h)
def F_X0_addCall (p1 : Int32) (p2 : Int32) (p3 : Int32) (p4 : Int32) (s : NetS) : Option (Int32 × NetS) := gI (((gN_cc s) * (nI 4)) + (nI 0)) 320 (gI (((gN_cc s) * (nI 4)) + (nI 1)) 320 (gI (((gN_cc s) * (nI 4)) + (nI 2)) 320 (gI (((gN_cc s) * (nI 4)) + (nI 3)) 320 (some ((((gN_cc s) * (nI 4)), (mkN (gN_tc s) (gN_hb s) (gN_x s) (gN_hg s) ((gN_cc s) + (nI 1)) (gN_w s) (gN_r s) (gN_hd s) (gN_st s) (gN_ct s) (gN_tt s) (gN_ld s) (upd (upd (upd (upd (gN_ca s) (Int32.toNatClampNeg (((gN_cc s) * (nI 4)) + (nI 0))) p1) (Int32.toNatClampNeg (((gN_cc s) * (nI 4)) + (nI 1))) p2) (Int32.toNatClampNeg (((gN_cc s) * (nI 4)) + (nI 2))) p3) (Int32.toNatClampNeg (((gN_cc s) * (nI 4)) + (nI 3))) p4))))))))
set_option maxRecDepth 100000 in
theorem E_X0_addCall {d : Nat} {p1 : Int32} {p2 : Int32} {p3 : Int32} {p4 : Int32} {s : NetS} {q : Int32 × NetS} (h : F_X0_addCall p1 p2 p3 p4 s = some q) : mEv d m_X0_addCall none (0, [], [some (.ref 0), some (.int p1), some (.int p2), some (.int p3), some (.int p4), none], [], memN s) (some (Value.int q.1)) (memN q.2) := by
  unfold F_X0_addCall at h
  obtain ⟨g1, h⟩ := gI_some h
  refine mEv.gd 13 (S' := (18, _, [some (.ref 0), some (.int p1), some (.int p2), some (.int p3), some (.int p4), some (.int ((gN_cc s) * (nI 4)))], [], memNx (gN_tc s) (gN_hb s) (gN_x s) (gN_hg s) (gN_cc s) (gN_w s) (gN_r s) (gN_hd s) (gN_st s) (gN_ct s) (gN_tt s) (gN_ld s) (upd (gN_ca s) (Int32.toNatClampNeg (((gN_cc s) * (nI 4)) + (nI 0))) p1))) rfl g1 ?_
  obtain ⟨g2, h⟩ := gI_some h
  refine mEv.gd 7 (S' := (28, _, [some (.ref 0), some (.int p1), some (.int p2), some (.int p3), some (.int p4), some (.int ((gN_cc s) * (nI 4)))], [], memNx (gN_tc s) (gN_hb s) (gN_x s) (gN_hg s) (gN_cc s) (gN_w s) (gN_r s) (gN_hd s) (gN_st s) (gN_ct s) (gN_tt s) (gN_ld s) (upd (upd (gN_ca s) (Int32.toNatClampNeg (((gN_cc s) * (nI 4)) + (nI 0))) p1) (Int32.toNatClampNeg (((gN_cc s) * (nI 4)) + (nI 1))) p2))) rfl g2 ?_
  obtain ⟨g3, h⟩ := gI_some h
  refine mEv.gd 7 (S' := (38, _, [some (.ref 0), some (.int p1), some (.int p2), some (.int p3), some (.int p4), some (.int ((gN_cc s) * (nI 4)))], [], memNx (gN_tc s) (gN_hb s) (gN_x s) (gN_hg s) (gN_cc s) (gN_w s) (gN_r s) (gN_hd s) (gN_st s) (gN_ct s) (gN_tt s) (gN_ld s) (upd (upd (upd (gN_ca s) (Int32.toNatClampNeg (((gN_cc s) * (nI 4)) + (nI 0))) p1) (Int32.toNatClampNeg (((gN_cc s) * (nI 4)) + (nI 1))) p2) (Int32.toNatClampNeg (((gN_cc s) * (nI 4)) + (nI 2))) p3))) rfl g3 ?_
  obtain ⟨g4, h⟩ := gI_some h
  refine mEv.gd 7 (S' := (49, _, [some (.ref 0), some (.int p1), some (.int p2), some (.int p3), some (.int p4), some (.int ((gN_cc s) * (nI 4)))], [], memNx (gN_tc s) (gN_hb s) (gN_x s) (gN_hg s) (gN_cc s) (gN_w s) (gN_r s) (gN_hd s) (gN_st s) (gN_ct s) (gN_tt s) (gN_ld s) (upd (upd (upd (upd (gN_ca s) (Int32.toNatClampNeg (((gN_cc s) * (nI 4)) + (nI 0))) p1) (Int32.toNatClampNeg (((gN_cc s) * (nI 4)) + (nI 1))) p2) (Int32.toNatClampNeg (((gN_cc s) * (nI 4)) + (nI 2))) p3) (Int32.toNatClampNeg (((gN_cc s) * (nI 4)) + (nI 3))) p4))) rfl g4 ?_
  obtain rfl := Option.some.inj h
  exact mEv.tgt memN_mk (mEv.stp 7 (S' := (61, _, [some (.ref 0), some (.int p1), some (.int p2), some (.int p3), some (.int p4), some (.int ((gN_cc s) * (nI 4)))], [.int ((gN_cc s) * (nI 4))], memNx (gN_tc s) (gN_hb s) (gN_x s) (gN_hg s) ((gN_cc s) + (nI 1)) (gN_w s) (gN_r s) (gN_hd s) (gN_st s) (gN_ct s) (gN_tt s) (gN_ld s) (upd (upd (upd (upd (gN_ca s) (Int32.toNatClampNeg (((gN_cc s) * (nI 4)) + (nI 0))) p1) (Int32.toNatClampNeg (((gN_cc s) * (nI 4)) + (nI 1))) p2) (Int32.toNatClampNeg (((gN_cc s) * (nI 4)) + (nI 2))) p3) (Int32.toNatClampNeg (((gN_cc s) * (nI 4)) + (nI 3))) p4))) rfl (mEv.reti ⟨_, rfl, rfl⟩))
theorem A_X0_addCall {d : Nat} {p1 : Int32} {p2 : Int32} {p3 : Int32} {p4 : Int32} {s : NetS} {q : Int32 × NetS} (h : F_X0_addCall p1 p2 p3 p4 s = some q) : mCall d m_X0_addCall [.ref 0, .int p1, .int p2, .int p3, .int p4] (memN s) (some (Value.int q.1)) (memN q.2) := mCall.intro ok_X0_addCall pl_X0_addCall rfl (E_X0_addCall (d := d) h)
def F_X0_hold (p1 : Int32) (p2 : Int32) (s : NetS) : Option (NetS) := gI (p1 + (nI 0)) 320 (gI (p1 + (nI 1)) 320 (gI (p1 + (nI 2)) 320 (if ¬ ((gN_ca s) (Int32.toNatClampNeg (p1 + (nI 2)))) = (-nI 1) then ((F_X0_linkCell ((gN_ca s) (Int32.toNatClampNeg (p1 + (nI 0)))) ((gN_ca s) (Int32.toNatClampNeg (p1 + (nI 2))))).bind (fun v5 => gI v5 36 (gI v5 36 ((F_X0_linkCell ((gN_ca s) (Int32.toNatClampNeg (p1 + (nI 2)))) ((gN_ca s) (Int32.toNatClampNeg (p1 + (nI 1))))).bind (fun v9 => gI v9 36 (gI v9 36 (some ((mkN (gN_tc s) (gN_hb s) (gN_x s) (gN_hg s) (gN_cc s) (gN_w s) (gN_r s) (upd (upd (gN_hd s) (Int32.toNatClampNeg v5) (((gN_hd s) (Int32.toNatClampNeg v5)) + p2)) (Int32.toNatClampNeg v9) (((upd (gN_hd s) (Int32.toNatClampNeg v5) (((gN_hd s) (Int32.toNatClampNeg v5)) + p2)) (Int32.toNatClampNeg v9)) + p2)) (gN_st s) (gN_ct s) (gN_tt s) (gN_ld s) (gN_ca s)))))))))) else ((F_X0_linkCell ((gN_ca s) (Int32.toNatClampNeg (p1 + (nI 0)))) ((gN_ca s) (Int32.toNatClampNeg (p1 + (nI 1))))).bind (fun v13 => gI v13 36 (gI v13 36 (some ((mkN (gN_tc s) (gN_hb s) (gN_x s) (gN_hg s) (gN_cc s) (gN_w s) (gN_r s) (upd (gN_hd s) (Int32.toNatClampNeg v13) (((gN_hd s) (Int32.toNatClampNeg v13)) + p2)) (gN_st s) (gN_ct s) (gN_tt s) (gN_ld s) (gN_ca s))))))))))
set_option maxRecDepth 100000 in
theorem E_X0_hold {d : Nat} {p1 : Int32} {p2 : Int32} {s : NetS} {q : NetS} (h : F_X0_hold p1 p2 s = some q) : mEv (d + 1) m_X0_hold none (0, [], [some (.ref 0), some (.int p1), some (.int p2), none, none, none], [], memN s) none (memN q) := by
  unfold F_X0_hold at h
  obtain ⟨g1, h⟩ := gI_some h
  refine mEv.gd 7 (S' := (8, _, [some (.ref 0), some (.int p1), some (.int p2), none, none, none], [.int ((gN_ca s) (Int32.toNatClampNeg (p1 + (nI 0))))], memN s)) rfl g1 ?_
  obtain ⟨g2, h⟩ := gI_some h
  refine mEv.gd 7 (S' := (17, _, [some (.ref 0), some (.int p1), some (.int p2), some (.int ((gN_ca s) (Int32.toNatClampNeg (p1 + (nI 0))))), none, none], [.int ((gN_ca s) (Int32.toNatClampNeg (p1 + (nI 1))))], memN s)) rfl g2 ?_
  obtain ⟨g3, h⟩ := gI_some h
  refine mEv.gd 7 (S' := (27, _, [some (.ref 0), some (.int p1), some (.int p2), some (.int ((gN_ca s) (Int32.toNatClampNeg (p1 + (nI 0))))), some (.int ((gN_ca s) (Int32.toNatClampNeg (p1 + (nI 1))))), none], [.int ((gN_ca s) (Int32.toNatClampNeg (p1 + (nI 2))))], memN s)) rfl g3 ?_
  refine mEv.br 4 (S1 := (53, [], [some (.ref 0), some (.int p1), some (.int p2), some (.int ((gN_ca s) (Int32.toNatClampNeg (p1 + (nI 0))))), some (.int ((gN_ca s) (Int32.toNatClampNeg (p1 + (nI 1))))), some (.int ((gN_ca s) (Int32.toNatClampNeg (p1 + (nI 2)))))], [], memN s)) (S2 := (35, _, [some (.ref 0), some (.int p1), some (.int p2), some (.int ((gN_ca s) (Int32.toNatClampNeg (p1 + (nI 0))))), some (.int ((gN_ca s) (Int32.toNatClampNeg (p1 + (nI 1))))), some (.int ((gN_ca s) (Int32.toNatClampNeg (p1 + (nI 2)))))], [], memN s)) rfl (fun c4 => ?_) (fun c4 => ?_)
  · have h := (if_pos c4).symm.trans h
    refine mEv.stp 5 (S' := (60, _, [some (.ref 0), some (.int p1), some (.int p2), some (.int ((gN_ca s) (Int32.toNatClampNeg (p1 + (nI 0))))), some (.int ((gN_ca s) (Int32.toNatClampNeg (p1 + (nI 1))))), some (.int ((gN_ca s) (Int32.toNatClampNeg (p1 + (nI 2)))))], [.int ((gN_ca s) (Int32.toNatClampNeg (p1 + (nI 2)))), .int ((gN_ca s) (Int32.toNatClampNeg (p1 + (nI 0)))), .ref 3], memN s)) rfl ?_
    obtain ⟨v5, e6, h⟩ := bnd h
    refine mEv.callS (As := [.int ((gN_ca s) (Int32.toNatClampNeg (p1 + (nI 0)))), .int ((gN_ca s) (Int32.toNatClampNeg (p1 + (nI 2))))]) (st := [.ref 3]) (r := (some (.int v5))) (μ1 := memN s) lk_X0_73 rfl rfl rfl (A_X0_linkCell (d := d + 0) e6) ?_
    refine mEv.stp 0 (S' := (63, _, [some (.ref 0), some (.int p1), some (.int p2), some (.int ((gN_ca s) (Int32.toNatClampNeg (p1 + (nI 0))))), some (.int ((gN_ca s) (Int32.toNatClampNeg (p1 + (nI 1))))), some (.int ((gN_ca s) (Int32.toNatClampNeg (p1 + (nI 2)))))], [.int v5, .ref 3], memN s)) rfl ?_
    obtain ⟨g7, h⟩ := gI_some h
    refine mEv.gd 2 (S' := (65, _, [some (.ref 0), some (.int p1), some (.int p2), some (.int ((gN_ca s) (Int32.toNatClampNeg (p1 + (nI 0))))), some (.int ((gN_ca s) (Int32.toNatClampNeg (p1 + (nI 1))))), some (.int ((gN_ca s) (Int32.toNatClampNeg (p1 + (nI 2)))))], [.int ((gN_hd s) (Int32.toNatClampNeg v5)), .int v5, .ref 3], memN s)) rfl g7 ?_
    obtain ⟨g8, h⟩ := gI_some h
    refine mEv.gd 3 (S' := (68, _, [some (.ref 0), some (.int p1), some (.int p2), some (.int ((gN_ca s) (Int32.toNatClampNeg (p1 + (nI 0))))), some (.int ((gN_ca s) (Int32.toNatClampNeg (p1 + (nI 1))))), some (.int ((gN_ca s) (Int32.toNatClampNeg (p1 + (nI 2)))))], [], memNx (gN_tc s) (gN_hb s) (gN_x s) (gN_hg s) (gN_cc s) (gN_w s) (gN_r s) (upd (gN_hd s) (Int32.toNatClampNeg v5) (((gN_hd s) (Int32.toNatClampNeg v5)) + p2)) (gN_st s) (gN_ct s) (gN_tt s) (gN_ld s) (gN_ca s))) rfl g8 ?_
    refine mEv.stp 4 (S' := (76, _, [some (.ref 0), some (.int p1), some (.int p2), some (.int ((gN_ca s) (Int32.toNatClampNeg (p1 + (nI 0))))), some (.int ((gN_ca s) (Int32.toNatClampNeg (p1 + (nI 1))))), some (.int ((gN_ca s) (Int32.toNatClampNeg (p1 + (nI 2)))))], [.int ((gN_ca s) (Int32.toNatClampNeg (p1 + (nI 1)))), .int ((gN_ca s) (Int32.toNatClampNeg (p1 + (nI 2)))), .ref 3], memNx (gN_tc s) (gN_hb s) (gN_x s) (gN_hg s) (gN_cc s) (gN_w s) (gN_r s) (upd (gN_hd s) (Int32.toNatClampNeg v5) (((gN_hd s) (Int32.toNatClampNeg v5)) + p2)) (gN_st s) (gN_ct s) (gN_tt s) (gN_ld s) (gN_ca s))) rfl ?_
    obtain ⟨v9, e10, h⟩ := bnd h
    refine mEv.callS (As := [.int ((gN_ca s) (Int32.toNatClampNeg (p1 + (nI 2)))), .int ((gN_ca s) (Int32.toNatClampNeg (p1 + (nI 1))))]) (st := [.ref 3]) (r := (some (.int v9))) (μ1 := memNx (gN_tc s) (gN_hb s) (gN_x s) (gN_hg s) (gN_cc s) (gN_w s) (gN_r s) (upd (gN_hd s) (Int32.toNatClampNeg v5) (((gN_hd s) (Int32.toNatClampNeg v5)) + p2)) (gN_st s) (gN_ct s) (gN_tt s) (gN_ld s) (gN_ca s)) lk_X0_73 rfl rfl rfl (A_X0_linkCell (d := d + 0) e10) ?_
    refine mEv.stp 0 (S' := (79, _, [some (.ref 0), some (.int p1), some (.int p2), some (.int ((gN_ca s) (Int32.toNatClampNeg (p1 + (nI 0))))), some (.int ((gN_ca s) (Int32.toNatClampNeg (p1 + (nI 1))))), some (.int ((gN_ca s) (Int32.toNatClampNeg (p1 + (nI 2)))))], [.int v9, .ref 3], memNx (gN_tc s) (gN_hb s) (gN_x s) (gN_hg s) (gN_cc s) (gN_w s) (gN_r s) (upd (gN_hd s) (Int32.toNatClampNeg v5) (((gN_hd s) (Int32.toNatClampNeg v5)) + p2)) (gN_st s) (gN_ct s) (gN_tt s) (gN_ld s) (gN_ca s))) rfl ?_
    obtain ⟨g11, h⟩ := gI_some h
    refine mEv.gd 2 (S' := (81, _, [some (.ref 0), some (.int p1), some (.int p2), some (.int ((gN_ca s) (Int32.toNatClampNeg (p1 + (nI 0))))), some (.int ((gN_ca s) (Int32.toNatClampNeg (p1 + (nI 1))))), some (.int ((gN_ca s) (Int32.toNatClampNeg (p1 + (nI 2)))))], [.int ((upd (gN_hd s) (Int32.toNatClampNeg v5) (((gN_hd s) (Int32.toNatClampNeg v5)) + p2)) (Int32.toNatClampNeg v9)), .int v9, .ref 3], memNx (gN_tc s) (gN_hb s) (gN_x s) (gN_hg s) (gN_cc s) (gN_w s) (gN_r s) (upd (gN_hd s) (Int32.toNatClampNeg v5) (((gN_hd s) (Int32.toNatClampNeg v5)) + p2)) (gN_st s) (gN_ct s) (gN_tt s) (gN_ld s) (gN_ca s))) rfl g11 ?_
    obtain ⟨g12, h⟩ := gI_some h
    refine mEv.gd 3 (S' := (84, [], [some (.ref 0), some (.int p1), some (.int p2), some (.int ((gN_ca s) (Int32.toNatClampNeg (p1 + (nI 0))))), some (.int ((gN_ca s) (Int32.toNatClampNeg (p1 + (nI 1))))), some (.int ((gN_ca s) (Int32.toNatClampNeg (p1 + (nI 2)))))], [], memNx (gN_tc s) (gN_hb s) (gN_x s) (gN_hg s) (gN_cc s) (gN_w s) (gN_r s) (upd (upd (gN_hd s) (Int32.toNatClampNeg v5) (((gN_hd s) (Int32.toNatClampNeg v5)) + p2)) (Int32.toNatClampNeg v9) (((upd (gN_hd s) (Int32.toNatClampNeg v5) (((gN_hd s) (Int32.toNatClampNeg v5)) + p2)) (Int32.toNatClampNeg v9)) + p2)) (gN_st s) (gN_ct s) (gN_tt s) (gN_ld s) (gN_ca s))) rfl g12 ?_
    obtain rfl := Option.some.inj h
    exact mEv.tgt memN_mk (mEv.stp 1 (S' := (84, _, [some (.ref 0), some (.int p1), some (.int p2), some (.int ((gN_ca s) (Int32.toNatClampNeg (p1 + (nI 0))))), some (.int ((gN_ca s) (Int32.toNatClampNeg (p1 + (nI 1))))), some (.int ((gN_ca s) (Int32.toNatClampNeg (p1 + (nI 2)))))], [], memNx (gN_tc s) (gN_hb s) (gN_x s) (gN_hg s) (gN_cc s) (gN_w s) (gN_r s) (upd (upd (gN_hd s) (Int32.toNatClampNeg v5) (((gN_hd s) (Int32.toNatClampNeg v5)) + p2)) (Int32.toNatClampNeg v9) (((upd (gN_hd s) (Int32.toNatClampNeg v5) (((gN_hd s) (Int32.toNatClampNeg v5)) + p2)) (Int32.toNatClampNeg v9)) + p2)) (gN_st s) (gN_ct s) (gN_tt s) (gN_ld s) (gN_ca s))) rfl (mEv.retv rfl))
  · have h := (if_neg c4).symm.trans h
    refine mEv.stp 4 (S' := (42, _, [some (.ref 0), some (.int p1), some (.int p2), some (.int ((gN_ca s) (Int32.toNatClampNeg (p1 + (nI 0))))), some (.int ((gN_ca s) (Int32.toNatClampNeg (p1 + (nI 1))))), some (.int ((gN_ca s) (Int32.toNatClampNeg (p1 + (nI 2)))))], [.int ((gN_ca s) (Int32.toNatClampNeg (p1 + (nI 1)))), .int ((gN_ca s) (Int32.toNatClampNeg (p1 + (nI 0)))), .ref 3], memN s)) rfl ?_
    obtain ⟨v13, e14, h⟩ := bnd h
    refine mEv.callS (As := [.int ((gN_ca s) (Int32.toNatClampNeg (p1 + (nI 0)))), .int ((gN_ca s) (Int32.toNatClampNeg (p1 + (nI 1))))]) (st := [.ref 3]) (r := (some (.int v13))) (μ1 := memN s) lk_X0_73 rfl rfl rfl (A_X0_linkCell (d := d + 0) e14) ?_
    refine mEv.stp 0 (S' := (45, _, [some (.ref 0), some (.int p1), some (.int p2), some (.int ((gN_ca s) (Int32.toNatClampNeg (p1 + (nI 0))))), some (.int ((gN_ca s) (Int32.toNatClampNeg (p1 + (nI 1))))), some (.int ((gN_ca s) (Int32.toNatClampNeg (p1 + (nI 2)))))], [.int v13, .ref 3], memN s)) rfl ?_
    obtain ⟨g15, h⟩ := gI_some h
    refine mEv.gd 2 (S' := (47, _, [some (.ref 0), some (.int p1), some (.int p2), some (.int ((gN_ca s) (Int32.toNatClampNeg (p1 + (nI 0))))), some (.int ((gN_ca s) (Int32.toNatClampNeg (p1 + (nI 1))))), some (.int ((gN_ca s) (Int32.toNatClampNeg (p1 + (nI 2)))))], [.int ((gN_hd s) (Int32.toNatClampNeg v13)), .int v13, .ref 3], memN s)) rfl g15 ?_
    obtain ⟨g16, h⟩ := gI_some h
    refine mEv.gd 3 (S' := (50, _, [some (.ref 0), some (.int p1), some (.int p2), some (.int ((gN_ca s) (Int32.toNatClampNeg (p1 + (nI 0))))), some (.int ((gN_ca s) (Int32.toNatClampNeg (p1 + (nI 1))))), some (.int ((gN_ca s) (Int32.toNatClampNeg (p1 + (nI 2)))))], [], memNx (gN_tc s) (gN_hb s) (gN_x s) (gN_hg s) (gN_cc s) (gN_w s) (gN_r s) (upd (gN_hd s) (Int32.toNatClampNeg v13) (((gN_hd s) (Int32.toNatClampNeg v13)) + p2)) (gN_st s) (gN_ct s) (gN_tt s) (gN_ld s) (gN_ca s))) rfl g16 ?_
    obtain rfl := Option.some.inj h
    exact mEv.tgt memN_mk (mEv.stp 2 (S' := (84, _, [some (.ref 0), some (.int p1), some (.int p2), some (.int ((gN_ca s) (Int32.toNatClampNeg (p1 + (nI 0))))), some (.int ((gN_ca s) (Int32.toNatClampNeg (p1 + (nI 1))))), some (.int ((gN_ca s) (Int32.toNatClampNeg (p1 + (nI 2)))))], [], memNx (gN_tc s) (gN_hb s) (gN_x s) (gN_hg s) (gN_cc s) (gN_w s) (gN_r s) (upd (gN_hd s) (Int32.toNatClampNeg v13) (((gN_hd s) (Int32.toNatClampNeg v13)) + p2)) (gN_st s) (gN_ct s) (gN_tt s) (gN_ld s) (gN_ca s))) rfl (mEv.retv rfl))
theorem A_X0_hold {d : Nat} {p1 : Int32} {p2 : Int32} {s : NetS} {q : NetS} (h : F_X0_hold p1 p2 s = some q) : mCall (d + 1) m_X0_hold [.ref 0, .int p1, .int p2] (memN s) none (memN q) := mCall.intro ok_X0_hold pl_X0_hold rfl (E_X0_hold (d := d) h)
def J_X0_ask_130 (x1 : Int32) (x2 : Int32) (x3 : Int32) (x4 : Int32) (x5 : Int32) (y0 : Int32) (s : NetS) : Option (Int32 × NetS) := (F_X0_count y0 x4 s).bind (fun v11 => (F_X0_addCall x1 x2 x5 x3 v11).bind (fun v13 => (F_X0_hold v13.1 (nI 1) v13.2).bind (fun v15 => some ((x5, v15)))))
set_option maxRecDepth 100000 in
theorem K_X0_ask_130 {d : Nat} {x1 : Int32} {x2 : Int32} {x3 : Int32} {x4 : Int32} {x5 : Int32} {y0 : Int32} {s : NetS} {q : Int32 × NetS} (h : J_X0_ask_130 x1 x2 x3 x4 x5 y0 s = some q) : mEv (d + 2) m_X0_ask none (130, [], [some (.ref 0), some (.int x1), some (.int x2), some (.int x3), some (.int x4), some (.int x5)], [.int y0, .ref 0], memN s) (some (Value.int q.1)) (memN q.2) := by
  unfold J_X0_ask_130 at h
  refine mEv.stp 2 (S' := (132, _, [some (.ref 0), some (.int x1), some (.int x2), some (.int x3), some (.int x4), some (.int x5)], [.int x4, .int y0, .ref 0], memN s)) rfl ?_
  obtain ⟨v11, e12, h⟩ := bnd h
  refine mEv.callV (As := [.int y0, .int x4]) (st := []) (h := 0) (r := none) (μ1 := memN v11) lk_X0_84 rfl rfl rfl rfl rfl (A_X0_count (d := d + 1) e12) ?_
  refine mEv.stp 0 (S' := (135, _, [some (.ref 0), some (.int x1), some (.int x2), some (.int x3), some (.int x4), some (.int x5)], [], memN v11)) rfl ?_
  refine mEv.stp 6 (S' := (142, _, [some (.ref 0), some (.int x1), some (.int x2), some (.int x3), some (.int x4), some (.int x5)], [.int x3, .int x5, .int x2, .int x1, .ref 0, .ref 0], memN v11)) rfl ?_
  obtain ⟨v13, e14, h⟩ := bnd h
  refine mEv.callV (As := [.int x1, .int x2, .int x5, .int x3]) (st := [.ref 0]) (h := 0) (r := (some (.int v13.1))) (μ1 := memN v13.2) lk_X0_94 rfl rfl rfl rfl rfl (A_X0_addCall (d := d + 1) e14) ?_
  refine mEv.stp 0 (S' := (145, _, [some (.ref 0), some (.int x1), some (.int x2), some (.int x3), some (.int x4), some (.int x5)], [.int v13.1, .ref 0], memN v13.2)) rfl ?_
  refine mEv.stp 1 (S' := (146, _, [some (.ref 0), some (.int x1), some (.int x2), some (.int x3), some (.int x4), some (.int x5)], [.int (nI 1), .int v13.1, .ref 0], memN v13.2)) rfl ?_
  obtain ⟨v15, e16, h⟩ := bnd h
  refine mEv.callV (As := [.int v13.1, .int (nI 1)]) (st := []) (h := 0) (r := none) (μ1 := memN v15) lk_X0_98 rfl rfl rfl rfl rfl (A_X0_hold (d := d + 0) e16) ?_
  refine mEv.stp 0 (S' := (149, _, [some (.ref 0), some (.int x1), some (.int x2), some (.int x3), some (.int x4), some (.int x5)], [], memN v15)) rfl ?_
  obtain rfl := Option.some.inj h
  exact mEv.stp 1 (S' := (151, _, [some (.ref 0), some (.int x1), some (.int x2), some (.int x3), some (.int x4), some (.int x5)], [.int x5], memN v15)) rfl (mEv.reti ⟨_, rfl, rfl⟩)
def J_X0_ask_95 (x1 : Int32) (x2 : Int32) (x3 : Int32) (x4 : Int32) (x5 : Int32) (s : NetS) : Option (Int32 × NetS) := if ¬ x5 = (-nI 5) then (if ¬ x5 = (-nI 1) then (J_X0_ask_130 x1 x2 x3 x4 x5 (nI 2) s) else (J_X0_ask_130 x1 x2 x3 x4 x5 (nI 1) s)) else ((F_X0_count (nI 4) x4 s).bind (fun v17 => (F_X0_redraw x1 x2 v17).bind (fun v19 => some (((-nI 5), v19)))))
set_option maxRecDepth 100000 in
theorem K_X0_ask_95 {d : Nat} {x1 : Int32} {x2 : Int32} {x3 : Int32} {x4 : Int32} {x5 : Int32} {s : NetS} {q : Int32 × NetS} (h : J_X0_ask_95 x1 x2 x3 x4 x5 s = some q) : mEv (d + 2) m_X0_ask none (95, [], [some (.ref 0), some (.int x1), some (.int x2), some (.int x3), some (.int x4), some (.int x5)], [], memN s) (some (Value.int q.1)) (memN q.2) := by
  unfold J_X0_ask_95 at h
  refine mEv.br 4 (S1 := (118, [], [some (.ref 0), some (.int x1), some (.int x2), some (.int x3), some (.int x4), some (.int x5)], [], memN s)) (S2 := (102, _, [some (.ref 0), some (.int x1), some (.int x2), some (.int x3), some (.int x4), some (.int x5)], [], memN s)) rfl (fun c9 => ?_) (fun c9 => ?_)
  · have h := (if_pos c9).symm.trans h
    refine mEv.br 5 (S1 := (129, [], [some (.ref 0), some (.int x1), some (.int x2), some (.int x3), some (.int x4), some (.int x5)], [.ref 0], memN s)) (S2 := (125, _, [some (.ref 0), some (.int x1), some (.int x2), some (.int x3), some (.int x4), some (.int x5)], [.ref 0], memN s)) rfl (fun c10 => ?_) (fun c10 => ?_)
    · have h := (if_pos c10).symm.trans h
      refine mEv.stp 2 (S' := (130, [], [some (.ref 0), some (.int x1), some (.int x2), some (.int x3), some (.int x4), some (.int x5)], [.int (nI 2), .ref 0], memN s)) rfl ?_
      exact K_X0_ask_130 (d := d) h
    · have h := (if_neg c10).symm.trans h
      refine mEv.stp 2 (S' := (130, [], [some (.ref 0), some (.int x1), some (.int x2), some (.int x3), some (.int x4), some (.int x5)], [.int (nI 1), .ref 0], memN s)) rfl ?_
      exact K_X0_ask_130 (d := d) h
  · have h := (if_neg c9).symm.trans h
    refine mEv.stp 3 (S' := (106, _, [some (.ref 0), some (.int x1), some (.int x2), some (.int x3), some (.int x4), some (.int x5)], [.int x4, .int (nI 4), .ref 0], memN s)) rfl ?_
    obtain ⟨v17, e18, h⟩ := bnd h
    refine mEv.callV (As := [.int (nI 4), .int x4]) (st := []) (h := 0) (r := none) (μ1 := memN v17) lk_X0_84 rfl rfl rfl rfl rfl (A_X0_count (d := d + 1) e18) ?_
    refine mEv.stp 0 (S' := (109, _, [some (.ref 0), some (.int x1), some (.int x2), some (.int x3), some (.int x4), some (.int x5)], [], memN v17)) rfl ?_
    refine mEv.stp 3 (S' := (112, _, [some (.ref 0), some (.int x1), some (.int x2), some (.int x3), some (.int x4), some (.int x5)], [.int x2, .int x1, .ref 0], memN v17)) rfl ?_
    obtain ⟨v19, e20, h⟩ := bnd h
    refine mEv.callV (As := [.int x1, .int x2]) (st := []) (h := 0) (r := none) (μ1 := memN v19) lk_X0_91 rfl rfl rfl rfl rfl (A_X0_redraw (d := d + 0) e20) ?_
    refine mEv.stp 0 (S' := (115, _, [some (.ref 0), some (.int x1), some (.int x2), some (.int x3), some (.int x4), some (.int x5)], [], memN v19)) rfl ?_
    obtain rfl := Option.some.inj h
    exact mEv.stp 1 (S' := (117, _, [some (.ref 0), some (.int x1), some (.int x2), some (.int x3), some (.int x4), some (.int x5)], [.int (-nI 5)], memN v19)) rfl (mEv.reti ⟨_, rfl, rfl⟩)
def F_X0_ask (p1 : Int32) (p2 : Int32) (p3 : Int32) (s : NetS) : Option (Int32 × NetS) := (F_X0_pairCell p1 p2).bind (fun v1 => (F_X0_count (nI 0) v1 s).bind (fun v3 => if (gN_cc v3) < (nI 80) then ((F_X0_wayNow p1 p2 v3).bind (fun v6 => if ¬ v6 = (-nI 5) then (J_X0_ask_95 p1 p2 p3 v1 v6 v3) else (if ¬ (gN_hb v3) = (nI 1) then (J_X0_ask_95 p1 p2 p3 v1 v6 v3) else (gI v1 36 ((F_X0_linkCell p1 ((gN_st v3) (Int32.toNatClampNeg v1))).bind (fun v23 => (F_X0_servesOver v23 v3).bind (fun v25 => if v25 = (nI 0) then (J_X0_ask_95 p1 p2 p3 v1 v6 v3) else ((F_X0_count (nI 3) v1 v3).bind (fun v28 => (F_X0_redraw p1 p2 v28).bind (fun v30 => (F_X0_wayNow p1 p2 v30).bind (fun v32 => J_X0_ask_95 p1 p2 p3 v1 v32 v30))))))))))) else ((F_X0_count (nI 4) v1 v3).bind (fun v34 => some (((-nI 5), v34))))))
set_option maxRecDepth 100000 in
theorem E_X0_ask {d : Nat} {p1 : Int32} {p2 : Int32} {p3 : Int32} {s : NetS} {q : Int32 × NetS} (h : F_X0_ask p1 p2 p3 s = some q) : mEv (d + 2) m_X0_ask none (0, [], [some (.ref 0), some (.int p1), some (.int p2), some (.int p3), none, none], [], memN s) (some (Value.int q.1)) (memN q.2) := by
  unfold F_X0_ask at h
  refine mEv.stp 3 (S' := (2, _, [some (.ref 0), some (.int p1), some (.int p2), some (.int p3), none, none], [.int p2, .int p1], memN s)) rfl ?_
  obtain ⟨v1, e2, h⟩ := bnd h
  refine mEv.callS (As := [.int p1, .int p2]) (st := []) (r := (some (.int v1))) (μ1 := memN s) lk_X0_60 rfl rfl rfl (A_X0_pairCell (d := d + 1) e2) ?_
  refine mEv.stp 0 (S' := (5, _, [some (.ref 0), some (.int p1), some (.int p2), some (.int p3), none, none], [.int v1], memN s)) rfl ?_
  refine mEv.stp 4 (S' := (11, _, [some (.ref 0), some (.int p1), some (.int p2), some (.int p3), some (.int v1), none], [.int v1, .int (nI 0), .ref 0], memN s)) rfl ?_
  obtain ⟨v3, e4, h⟩ := bnd h
  refine mEv.callV (As := [.int (nI 0), .int v1]) (st := []) (h := 0) (r := none) (μ1 := memN v3) lk_X0_84 rfl rfl rfl rfl rfl (A_X0_count (d := d + 1) e4) ?_
  refine mEv.stp 0 (S' := (14, _, [some (.ref 0), some (.int p1), some (.int p2), some (.int p3), some (.int v1), none], [], memN v3)) rfl ?_
  refine mEv.br 4 (S1 := (33, [], [some (.ref 0), some (.int p1), some (.int p2), some (.int p3), some (.int v1), none], [], memN v3)) (S2 := (23, _, [some (.ref 0), some (.int p1), some (.int p2), some (.int p3), some (.int v1), none], [], memN v3)) rfl (fun c5 => ?_) (fun c5 => ?_)
  · have h := (if_pos c5).symm.trans h
    refine mEv.stp 4 (S' := (36, _, [some (.ref 0), some (.int p1), some (.int p2), some (.int p3), some (.int v1), none], [.int p2, .int p1, .ref 0], memN v3)) rfl ?_
    obtain ⟨v6, e7, h⟩ := bnd h
    refine mEv.callV (As := [.int p1, .int p2]) (st := []) (h := 0) (r := (some (.int v6))) (μ1 := memN v3) lk_X0_88 rfl rfl rfl rfl rfl (A_X0_wayNow (d := d + 0) e7) ?_
    refine mEv.stp 0 (S' := (39, _, [some (.ref 0), some (.int p1), some (.int p2), some (.int p3), some (.int v1), none], [.int v6], memN v3)) rfl ?_
    refine mEv.br 4 (S1 := (95, [], [some (.ref 0), some (.int p1), some (.int p2), some (.int p3), some (.int v1), some (.int v6)], [], memN v3)) (S2 := (48, _, [some (.ref 0), some (.int p1), some (.int p2), some (.int p3), some (.int v1), some (.int v6)], [], memN v3)) rfl (fun c8 => ?_) (fun c8 => ?_)
    · have h := (if_pos c8).symm.trans h
      exact K_X0_ask_95 (d := d) h
    · have h := (if_neg c8).symm.trans h
      refine mEv.br 4 (S1 := (95, [], [some (.ref 0), some (.int p1), some (.int p2), some (.int p3), some (.int v1), some (.int v6)], [], memN v3)) (S2 := (56, _, [some (.ref 0), some (.int p1), some (.int p2), some (.int p3), some (.int v1), some (.int v6)], [], memN v3)) rfl (fun c21 => ?_) (fun c21 => ?_)
      · have h := (if_pos c21).symm.trans h
        exact K_X0_ask_95 (d := d) h
      · have h := (if_neg c21).symm.trans h
        obtain ⟨g22, h⟩ := gI_some h
        refine mEv.gd 6 (S' := (65, _, [some (.ref 0), some (.int p1), some (.int p2), some (.int p3), some (.int v1), some (.int v6)], [.int ((gN_st v3) (Int32.toNatClampNeg v1)), .int p1, .ref 0], memN v3)) rfl g22 ?_
        obtain ⟨v23, e24, h⟩ := bnd h
        refine mEv.callS (As := [.int p1, .int ((gN_st v3) (Int32.toNatClampNeg v1))]) (st := [.ref 0]) (r := (some (.int v23))) (μ1 := memN v3) lk_X0_73 rfl rfl rfl (A_X0_linkCell (d := d + 1) e24) ?_
        refine mEv.stp 0 (S' := (68, _, [some (.ref 0), some (.int p1), some (.int p2), some (.int p3), some (.int v1), some (.int v6)], [.int v23, .ref 0], memN v3)) rfl ?_
        obtain ⟨v25, e26, h⟩ := bnd h
        refine mEv.callV (As := [.int v23]) (st := []) (h := 0) (r := (some (.int v25))) (μ1 := memN v3) lk_X0_80 rfl rfl rfl rfl rfl (A_X0_servesOver (d := d + 1) e26) ?_
        refine mEv.stp 0 (S' := (71, _, [some (.ref 0), some (.int p1), some (.int p2), some (.int p3), some (.int v1), some (.int v6)], [.int v25], memN v3)) rfl ?_
        refine mEv.br 1 (S1 := (95, [], [some (.ref 0), some (.int p1), some (.int p2), some (.int p3), some (.int v1), some (.int v6)], [], memN v3)) (S2 := (74, _, [some (.ref 0), some (.int p1), some (.int p2), some (.int p3), some (.int v1), some (.int v6)], [], memN v3)) rfl (fun c27 => ?_) (fun c27 => ?_)
        · have h := (if_pos c27).symm.trans h
          exact K_X0_ask_95 (d := d) h
        · have h := (if_neg c27).symm.trans h
          refine mEv.stp 3 (S' := (78, _, [some (.ref 0), some (.int p1), some (.int p2), some (.int p3), some (.int v1), some (.int v6)], [.int v1, .int (nI 3), .ref 0], memN v3)) rfl ?_
          obtain ⟨v28, e29, h⟩ := bnd h
          refine mEv.callV (As := [.int (nI 3), .int v1]) (st := []) (h := 0) (r := none) (μ1 := memN v28) lk_X0_84 rfl rfl rfl rfl rfl (A_X0_count (d := d + 1) e29) ?_
          refine mEv.stp 0 (S' := (81, _, [some (.ref 0), some (.int p1), some (.int p2), some (.int p3), some (.int v1), some (.int v6)], [], memN v28)) rfl ?_
          refine mEv.stp 3 (S' := (84, _, [some (.ref 0), some (.int p1), some (.int p2), some (.int p3), some (.int v1), some (.int v6)], [.int p2, .int p1, .ref 0], memN v28)) rfl ?_
          obtain ⟨v30, e31, h⟩ := bnd h
          refine mEv.callV (As := [.int p1, .int p2]) (st := []) (h := 0) (r := none) (μ1 := memN v30) lk_X0_91 rfl rfl rfl rfl rfl (A_X0_redraw (d := d + 0) e31) ?_
          refine mEv.stp 0 (S' := (87, _, [some (.ref 0), some (.int p1), some (.int p2), some (.int p3), some (.int v1), some (.int v6)], [], memN v30)) rfl ?_
          refine mEv.stp 3 (S' := (90, _, [some (.ref 0), some (.int p1), some (.int p2), some (.int p3), some (.int v1), some (.int v6)], [.int p2, .int p1, .ref 0], memN v30)) rfl ?_
          obtain ⟨v32, e33, h⟩ := bnd h
          refine mEv.callV (As := [.int p1, .int p2]) (st := []) (h := 0) (r := (some (.int v32))) (μ1 := memN v30) lk_X0_88 rfl rfl rfl rfl rfl (A_X0_wayNow (d := d + 0) e33) ?_
          refine mEv.stp 0 (S' := (93, _, [some (.ref 0), some (.int p1), some (.int p2), some (.int p3), some (.int v1), some (.int v6)], [.int v32], memN v30)) rfl ?_
          refine mEv.stp 1 (S' := (95, [], [some (.ref 0), some (.int p1), some (.int p2), some (.int p3), some (.int v1), some (.int v32)], [], memN v30)) rfl ?_
          exact K_X0_ask_95 (d := d) h
  · have h := (if_neg c5).symm.trans h
    refine mEv.stp 3 (S' := (27, _, [some (.ref 0), some (.int p1), some (.int p2), some (.int p3), some (.int v1), none], [.int v1, .int (nI 4), .ref 0], memN v3)) rfl ?_
    obtain ⟨v34, e35, h⟩ := bnd h
    refine mEv.callV (As := [.int (nI 4), .int v1]) (st := []) (h := 0) (r := none) (μ1 := memN v34) lk_X0_84 rfl rfl rfl rfl rfl (A_X0_count (d := d + 1) e35) ?_
    refine mEv.stp 0 (S' := (30, _, [some (.ref 0), some (.int p1), some (.int p2), some (.int p3), some (.int v1), none], [], memN v34)) rfl ?_
    obtain rfl := Option.some.inj h
    exact mEv.stp 1 (S' := (32, _, [some (.ref 0), some (.int p1), some (.int p2), some (.int p3), some (.int v1), none], [.int (-nI 5)], memN v34)) rfl (mEv.reti ⟨_, rfl, rfl⟩)
theorem A_X0_ask {d : Nat} {p1 : Int32} {p2 : Int32} {p3 : Int32} {s : NetS} {q : Int32 × NetS} (h : F_X0_ask p1 p2 p3 s = some q) : mCall (d + 2) m_X0_ask [.ref 0, .int p1, .int p2, .int p3] (memN s) (some (Value.int q.1)) (memN q.2) := mCall.intro ok_X0_ask pl_X0_ask rfl (E_X0_ask (d := d) h)
def F_X0_endCall (p1 : Int32) (s : NetS) : Option (NetS) := (F_X0_hold (p1 * (nI 4)) (-nI 1) s).bind (fun v1 => gC ((p1 * (nI 4)) + (nI 4)) (p1 * (nI 4)) ((((gN_cc s) - p1) - (nI 1)) * (nI 4)) 320 320 (some ((mkN (gN_tc v1) (gN_hb v1) (gN_x v1) (gN_hg v1) ((gN_cc v1) - (nI 1)) (gN_w v1) (gN_r v1) (gN_hd v1) (gN_st v1) (gN_ct v1) (gN_tt v1) (gN_ld v1) (va_cpy (gN_ca v1) (gN_ca v1) (Int32.toNatClampNeg ((p1 * (nI 4)) + (nI 4))) (Int32.toNatClampNeg (p1 * (nI 4))) (Int32.toNatClampNeg ((((gN_cc s) - p1) - (nI 1)) * (nI 4))))))))
set_option maxRecDepth 100000 in
theorem E_X0_endCall {d : Nat} {p1 : Int32} {s : NetS} {q : NetS} (h : F_X0_endCall p1 s = some q) : mEv (d + 2) m_X0_endCall none (0, [], [some (.ref 0), some (.int p1), none, none], [], memN s) none (memN q) := by
  unfold F_X0_endCall at h
  refine mEv.stp 17 (S' := (18, _, [some (.ref 0), some (.int p1), some (.int (p1 * (nI 4))), some (.int ((((gN_cc s) - p1) - (nI 1)) * (nI 4)))], [.int (-nI 1), .int (p1 * (nI 4)), .ref 0], memN s)) rfl ?_
  obtain ⟨v1, e2, h⟩ := bnd h
  refine mEv.callV (As := [.int (p1 * (nI 4)), .int (-nI 1)]) (st := []) (h := 0) (r := none) (μ1 := memN v1) lk_X0_98 rfl rfl rfl rfl rfl (A_X0_hold (d := d + 0) e2) ?_
  refine mEv.stp 0 (S' := (21, _, [some (.ref 0), some (.int p1), some (.int (p1 * (nI 4))), some (.int ((((gN_cc s) - p1) - (nI 1)) * (nI 4)))], [], memN v1)) rfl ?_
  refine mEv.stp 9 (S' := (34, _, [some (.ref 0), some (.int p1), some (.int (p1 * (nI 4))), some (.int ((((gN_cc s) - p1) - (nI 1)) * (nI 4)))], [.int ((((gN_cc s) - p1) - (nI 1)) * (nI 4)), .int (p1 * (nI 4)), .ref 8, .int ((p1 * (nI 4)) + (nI 4)), .ref 8], memN v1)) rfl ?_
  obtain ⟨g3, h⟩ := gC_some h
  refine mEv.copy (st := []) lk_X0_67 rfl rfl rfl rfl g3 ?_
  refine mEv.stp 0 (S' := (37, _, [some (.ref 0), some (.int p1), some (.int (p1 * (nI 4))), some (.int ((((gN_cc s) - p1) - (nI 1)) * (nI 4)))], [], memNx (gN_tc v1) (gN_hb v1) (gN_x v1) (gN_hg v1) (gN_cc v1) (gN_w v1) (gN_r v1) (gN_hd v1) (gN_st v1) (gN_ct v1) (gN_tt v1) (gN_ld v1) (va_cpy (gN_ca v1) (gN_ca v1) (Int32.toNatClampNeg ((p1 * (nI 4)) + (nI 4))) (Int32.toNatClampNeg (p1 * (nI 4))) (Int32.toNatClampNeg ((((gN_cc s) - p1) - (nI 1)) * (nI 4)))))) rfl ?_
  obtain rfl := Option.some.inj h
  exact mEv.tgt memN_mk (mEv.stp 6 (S' := (47, _, [some (.ref 0), some (.int p1), some (.int (p1 * (nI 4))), some (.int ((((gN_cc s) - p1) - (nI 1)) * (nI 4)))], [], memNx (gN_tc v1) (gN_hb v1) (gN_x v1) (gN_hg v1) ((gN_cc v1) - (nI 1)) (gN_w v1) (gN_r v1) (gN_hd v1) (gN_st v1) (gN_ct v1) (gN_tt v1) (gN_ld v1) (va_cpy (gN_ca v1) (gN_ca v1) (Int32.toNatClampNeg ((p1 * (nI 4)) + (nI 4))) (Int32.toNatClampNeg (p1 * (nI 4))) (Int32.toNatClampNeg ((((gN_cc s) - p1) - (nI 1)) * (nI 4)))))) rfl (mEv.retv rfl))
theorem A_X0_endCall {d : Nat} {p1 : Int32} {s : NetS} {q : NetS} (h : F_X0_endCall p1 s = some q) : mCall (d + 2) m_X0_endCall [.ref 0, .int p1] (memN s) none (memN q) := mCall.intro ok_X0_endCall pl_X0_endCall rfl (E_X0_endCall (d := d) h)
def F_X0_moveCall (p1 : Int32) (p2 : Int32) (s : NetS) : Option (NetS) := if p2 = p1 then (some (s)) else (gC p1 p2 (nI 4) 320 320 (some ((mkN (gN_tc s) (gN_hb s) (gN_x s) (gN_hg s) (gN_cc s) (gN_w s) (gN_r s) (gN_hd s) (gN_st s) (gN_ct s) (gN_tt s) (gN_ld s) (va_cpy (gN_ca s) (gN_ca s) (Int32.toNatClampNeg p1) (Int32.toNatClampNeg p2) (Int32.toNatClampNeg (nI 4)))))))
set_option maxRecDepth 100000 in
theorem E_X0_moveCall {d : Nat} {p1 : Int32} {p2 : Int32} {s : NetS} {q : NetS} (h : F_X0_moveCall p1 p2 s = some q) : mEv (d + 1) m_X0_moveCall none (0, [], [some (.ref 0), some (.int p1), some (.int p2)], [], memN s) none (memN q) := by
  unfold F_X0_moveCall at h
  refine mEv.br 4 (S1 := (19, [], [some (.ref 0), some (.int p1), some (.int p2)], [], memN s)) (S2 := (5, _, [some (.ref 0), some (.int p1), some (.int p2)], [], memN s)) rfl (fun c1 => ?_) (fun c1 => ?_)
  · have h := (if_pos c1).symm.trans h
    obtain rfl := Option.some.inj h
    exact mEv.stp 1 (S' := (19, _, [some (.ref 0), some (.int p1), some (.int p2)], [], memN s)) rfl (mEv.retv rfl)
  · have h := (if_neg c1).symm.trans h
    refine mEv.stp 7 (S' := (16, _, [some (.ref 0), some (.int p1), some (.int p2)], [.int (nI 4), .int p2, .ref 8, .int p1, .ref 8], memN s)) rfl ?_
    obtain ⟨g2, h⟩ := gC_some h
    refine mEv.copy (st := []) lk_X0_67 rfl rfl rfl rfl g2 ?_
    refine mEv.stp 0 (S' := (19, [], [some (.ref 0), some (.int p1), some (.int p2)], [], memNx (gN_tc s) (gN_hb s) (gN_x s) (gN_hg s) (gN_cc s) (gN_w s) (gN_r s) (gN_hd s) (gN_st s) (gN_ct s) (gN_tt s) (gN_ld s) (va_cpy (gN_ca s) (gN_ca s) (Int32.toNatClampNeg p1) (Int32.toNatClampNeg p2) (Int32.toNatClampNeg (nI 4))))) rfl ?_
    obtain rfl := Option.some.inj h
    exact mEv.tgt memN_mk (mEv.stp 1 (S' := (19, _, [some (.ref 0), some (.int p1), some (.int p2)], [], memNx (gN_tc s) (gN_hb s) (gN_x s) (gN_hg s) (gN_cc s) (gN_w s) (gN_r s) (gN_hd s) (gN_st s) (gN_ct s) (gN_tt s) (gN_ld s) (va_cpy (gN_ca s) (gN_ca s) (Int32.toNatClampNeg p1) (Int32.toNatClampNeg p2) (Int32.toNatClampNeg (nI 4))))) rfl (mEv.retv rfl))
theorem A_X0_moveCall {d : Nat} {p1 : Int32} {p2 : Int32} {s : NetS} {q : NetS} (h : F_X0_moveCall p1 p2 s = some q) : mCall (d + 1) m_X0_moveCall [.ref 0, .int p1, .int p2] (memN s) none (memN q) := mCall.intro ok_X0_moveCall pl_X0_moveCall rfl (E_X0_moveCall (d := d) h)
def B_X0_endHour_9 (x1 : Int32) (x2 : Int32) (x3 : Int32) (s : NetS) : Option ((Int32 × Int32 × NetS) ⊕ (Int32 × NetS)) := if x1 ≤ x3 then (some (.inr (x2, s))) else (gI ((x3 * (nI 4)) + (nI 3)) 320 (gI ((x3 * (nI 4)) + (nI 3)) 320 (gI ((x3 * (nI 4)) + (nI 3)) 320 (if ¬ ((upd (gN_ca s) (Int32.toNatClampNeg ((x3 * (nI 4)) + (nI 3))) (((gN_ca s) (Int32.toNatClampNeg ((x3 * (nI 4)) + (nI 3)))) - (nI 1))) (Int32.toNatClampNeg ((x3 * (nI 4)) + (nI 3)))) = (nI 0) then ((F_X0_moveCall (x3 * (nI 4)) (x2 * (nI 4)) (mkN (gN_tc s) (gN_hb s) (gN_x s) (gN_hg s) (gN_cc s) (gN_w s) (gN_r s) (gN_hd s) (gN_st s) (gN_ct s) (gN_tt s) (gN_ld s) (upd (gN_ca s) (Int32.toNatClampNeg ((x3 * (nI 4)) + (nI 3))) (((gN_ca s) (Int32.toNatClampNeg ((x3 * (nI 4)) + (nI 3)))) - (nI 1))))).bind (fun v6 => some (.inl ((x2 + (nI 1)), (x3 + (nI 1)), v6)))) else ((F_X0_hold (x3 * (nI 4)) (-nI 1) (mkN (gN_tc s) (gN_hb s) (gN_x s) (gN_hg s) (gN_cc s) (gN_w s) (gN_r s) (gN_hd s) (gN_st s) (gN_ct s) (gN_tt s) (gN_ld s) (upd (gN_ca s) (Int32.toNatClampNeg ((x3 * (nI 4)) + (nI 3))) (((gN_ca s) (Int32.toNatClampNeg ((x3 * (nI 4)) + (nI 3)))) - (nI 1))))).bind (fun v8 => some (.inl (x2, (x3 + (nI 1)), v8))))))))
set_option maxRecDepth 100000 in
theorem H_X0_endHour_9 {d : Nat} {x1 : Int32} {x2 : Int32} {x3 : Int32} {s : NetS} {q : (Int32 × Int32 × NetS) ⊕ (Int32 × NetS)} {r0 : Option Value} {mu0 : MMe} (h : B_X0_endHour_9 x1 x2 x3 s = some q) (hk : Sum.elim (fun x : Int32 × Int32 × NetS => mEv (d + 2) m_X0_endHour none (9, [], [some (.ref 0), some (.int x1), some (.int x.1), some (.int x.2.1), none], [], memN x.2.2) r0 mu0) (fun z : Int32 × NetS => mEv (d + 2) m_X0_endHour none (72, [], [some (.ref 0), some (.int x1), some (.int z.1), none, none], [], memN z.2) r0 mu0) q) : mEv (d + 2) m_X0_endHour none (9, [], [some (.ref 0), some (.int x1), some (.int x2), some (.int x3), none], [], memN s) r0 mu0 := by
  unfold B_X0_endHour_9 at h
  refine mEv.br 4 (S1 := (72, [], [some (.ref 0), some (.int x1), some (.int x2), some (.int x3), none], [], memN s)) (S2 := (14, _, [some (.ref 0), some (.int x1), some (.int x2), some (.int x3), none], [], memN s)) rfl (fun c1 => ?_) (fun c1 => ?_)
  · have h := (if_pos c1).symm.trans h
    refine mEv.fg [3] (z' := [some (.ref 0), some (.int x1), some (.int x2), none, none]) rfl ?_
    obtain rfl := Option.some.inj h
    exact hk
  · have h := (if_neg c1).symm.trans h
    obtain ⟨g2, h⟩ := gI_some h
    refine mEv.gd 11 (S' := (29, _, [some (.ref 0), some (.int x1), some (.int x2), some (.int x3), some (.int (x3 * (nI 4)))], [.int ((gN_ca s) (Int32.toNatClampNeg ((x3 * (nI 4)) + (nI 3)))), .int ((x3 * (nI 4)) + (nI 3)), .ref 8], memN s)) rfl g2 ?_
    obtain ⟨g3, h⟩ := gI_some h
    refine mEv.gd 3 (S' := (32, _, [some (.ref 0), some (.int x1), some (.int x2), some (.int x3), some (.int (x3 * (nI 4)))], [], memNx (gN_tc s) (gN_hb s) (gN_x s) (gN_hg s) (gN_cc s) (gN_w s) (gN_r s) (gN_hd s) (gN_st s) (gN_ct s) (gN_tt s) (gN_ld s) (upd (gN_ca s) (Int32.toNatClampNeg ((x3 * (nI 4)) + (nI 3))) (((gN_ca s) (Int32.toNatClampNeg ((x3 * (nI 4)) + (nI 3)))) - (nI 1))))) rfl g3 ?_
    obtain ⟨g4, h⟩ := gI_some h
    refine mEv.gd 6 (S' := (41, _, [some (.ref 0), some (.int x1), some (.int x2), some (.int x3), some (.int (x3 * (nI 4)))], [.int ((upd (gN_ca s) (Int32.toNatClampNeg ((x3 * (nI 4)) + (nI 3))) (((gN_ca s) (Int32.toNatClampNeg ((x3 * (nI 4)) + (nI 3)))) - (nI 1))) (Int32.toNatClampNeg ((x3 * (nI 4)) + (nI 3))))], memNx (gN_tc s) (gN_hb s) (gN_x s) (gN_hg s) (gN_cc s) (gN_w s) (gN_r s) (gN_hd s) (gN_st s) (gN_ct s) (gN_tt s) (gN_ld s) (upd (gN_ca s) (Int32.toNatClampNeg ((x3 * (nI 4)) + (nI 3))) (((gN_ca s) (Int32.toNatClampNeg ((x3 * (nI 4)) + (nI 3)))) - (nI 1))))) rfl g4 ?_
    refine mEv.br 1 (S1 := (54, [], [some (.ref 0), some (.int x1), some (.int x2), some (.int x3), some (.int (x3 * (nI 4)))], [], memNx (gN_tc s) (gN_hb s) (gN_x s) (gN_hg s) (gN_cc s) (gN_w s) (gN_r s) (gN_hd s) (gN_st s) (gN_ct s) (gN_tt s) (gN_ld s) (upd (gN_ca s) (Int32.toNatClampNeg ((x3 * (nI 4)) + (nI 3))) (((gN_ca s) (Int32.toNatClampNeg ((x3 * (nI 4)) + (nI 3)))) - (nI 1))))) (S2 := (44, _, [some (.ref 0), some (.int x1), some (.int x2), some (.int x3), some (.int (x3 * (nI 4)))], [], memNx (gN_tc s) (gN_hb s) (gN_x s) (gN_hg s) (gN_cc s) (gN_w s) (gN_r s) (gN_hd s) (gN_st s) (gN_ct s) (gN_tt s) (gN_ld s) (upd (gN_ca s) (Int32.toNatClampNeg ((x3 * (nI 4)) + (nI 3))) (((gN_ca s) (Int32.toNatClampNeg ((x3 * (nI 4)) + (nI 3)))) - (nI 1))))) rfl (fun c5 => ?_) (fun c5 => ?_)
    · have h := (if_pos c5).symm.trans h
      refine mEv.stp 6 (S' := (60, _, [some (.ref 0), some (.int x1), some (.int x2), some (.int x3), some (.int (x3 * (nI 4)))], [.int (x2 * (nI 4)), .int (x3 * (nI 4)), .ref 0], memNx (gN_tc s) (gN_hb s) (gN_x s) (gN_hg s) (gN_cc s) (gN_w s) (gN_r s) (gN_hd s) (gN_st s) (gN_ct s) (gN_tt s) (gN_ld s) (upd (gN_ca s) (Int32.toNatClampNeg ((x3 * (nI 4)) + (nI 3))) (((gN_ca s) (Int32.toNatClampNeg ((x3 * (nI 4)) + (nI 3)))) - (nI 1))))) rfl ?_
      obtain ⟨v6, e7, h⟩ := bnd h
      refine mEv.callV (As := [.int (x3 * (nI 4)), .int (x2 * (nI 4))]) (st := []) (h := 0) (r := none) (μ1 := memN v6) lk_X0_129 rfl rfl rfl rfl rfl (mCall.cast memN_mk (A_X0_moveCall (d := d + 0) e7)) ?_
      refine mEv.stp 0 (S' := (63, _, [some (.ref 0), some (.int x1), some (.int x2), some (.int x3), some (.int (x3 * (nI 4)))], [], memN v6)) rfl ?_
      refine mEv.stp 4 (S' := (9, [], [some (.ref 0), some (.int x1), some (.int (x2 + (nI 1))), some (.int (x3 + (nI 1))), some (.int (x3 * (nI 4)))], [], memN v6)) rfl ?_
      refine mEv.fg [4] (z' := [some (.ref 0), some (.int x1), some (.int (x2 + (nI 1))), some (.int (x3 + (nI 1))), none]) rfl ?_
      obtain rfl := Option.some.inj h
      exact hk
    · have h := (if_neg c5).symm.trans h
      refine mEv.stp 3 (S' := (48, _, [some (.ref 0), some (.int x1), some (.int x2), some (.int x3), some (.int (x3 * (nI 4)))], [.int (-nI 1), .int (x3 * (nI 4)), .ref 0], memNx (gN_tc s) (gN_hb s) (gN_x s) (gN_hg s) (gN_cc s) (gN_w s) (gN_r s) (gN_hd s) (gN_st s) (gN_ct s) (gN_tt s) (gN_ld s) (upd (gN_ca s) (Int32.toNatClampNeg ((x3 * (nI 4)) + (nI 3))) (((gN_ca s) (Int32.toNatClampNeg ((x3 * (nI 4)) + (nI 3)))) - (nI 1))))) rfl ?_
      obtain ⟨v8, e9, h⟩ := bnd h
      refine mEv.callV (As := [.int (x3 * (nI 4)), .int (-nI 1)]) (st := []) (h := 0) (r := none) (μ1 := memN v8) lk_X0_98 rfl rfl rfl rfl rfl (mCall.cast memN_mk (A_X0_hold (d := d + 0) e9)) ?_
      refine mEv.stp 0 (S' := (51, _, [some (.ref 0), some (.int x1), some (.int x2), some (.int x3), some (.int (x3 * (nI 4)))], [], memN v8)) rfl ?_
      refine mEv.stp 4 (S' := (9, [], [some (.ref 0), some (.int x1), some (.int x2), some (.int (x3 + (nI 1))), some (.int (x3 * (nI 4)))], [], memN v8)) rfl ?_
      refine mEv.fg [4] (z' := [some (.ref 0), some (.int x1), some (.int x2), some (.int (x3 + (nI 1))), none]) rfl ?_
      obtain rfl := Option.some.inj h
      exact hk
def F_X0_endHour  (s : NetS) : Option (Int32 × NetS) := (mWh (fun x => B_X0_endHour_9 (gN_cc s) x.1 x.2.1 x.2.2) fuel0 ((nI 0), (nI 0), s)).bind (fun z10 => some ((((gN_cc s) - z10.1), (mkN (gN_tc z10.2) (gN_hb z10.2) (gN_x z10.2) (gN_hg z10.2) z10.1 (gN_w z10.2) (gN_r z10.2) (gN_hd z10.2) (gN_st z10.2) (gN_ct z10.2) (gN_tt z10.2) (gN_ld z10.2) (gN_ca z10.2)))))
set_option maxRecDepth 100000 in
theorem E_X0_endHour {d : Nat}  {s : NetS} {q : Int32 × NetS} (h : F_X0_endHour s = some q) : mEv (d + 2) m_X0_endHour none (0, [], [some (.ref 0), none, none, none, none], [], memN s) (some (Value.int q.1)) (memN q.2) := by
  unfold F_X0_endHour at h
  refine mEv.stp 8 (S' := (9, [], [some (.ref 0), some (.int (gN_cc s)), some (.int (nI 0)), some (.int (nI 0)), none], [], memN s)) rfl ?_
  obtain ⟨z10, e11, h⟩ := bnd h
  refine mWh_ind (b := (fun x => B_X0_endHour_9 (gN_cc s) x.1 x.2.1 x.2.2)) (P := fun x : Int32 × Int32 × NetS => mEv (d + 2) m_X0_endHour none (9, [], [some (.ref 0), some (.int (gN_cc s)), some (.int x.1), some (.int x.2.1), none], [], memN x.2.2) (some (Value.int q.1)) (memN q.2)) (K := fun z : Int32 × NetS => mEv (d + 2) m_X0_endHour none (72, [], [some (.ref 0), some (.int (gN_cc s)), some (.int z.1), none, none], [], memN z.2) (some (Value.int q.1)) (memN q.2)) (fun x u hq hk => H_X0_endHour_9 (d := d) (x1 := (gN_cc s)) (x2 := x.1) (x3 := x.2.1) (s := x.2.2) (q := u) (r0 := (some (Value.int q.1))) (mu0 := (memN q.2)) hq hk) fuel0 ((nI 0), (nI 0), s) z10 e11 ?_
  refine mEv.stp 0 (S' := (72, [], [some (.ref 0), some (.int (gN_cc s)), some (.int z10.1), none, none], [], memN z10.2)) rfl ?_
  obtain rfl := Option.some.inj h
  exact mEv.tgt memN_mk (mEv.stp 7 (S' := (80, _, [some (.ref 0), some (.int (gN_cc s)), some (.int z10.1), none, none], [.int ((gN_cc s) - z10.1)], memNx (gN_tc z10.2) (gN_hb z10.2) (gN_x z10.2) (gN_hg z10.2) z10.1 (gN_w z10.2) (gN_r z10.2) (gN_hd z10.2) (gN_st z10.2) (gN_ct z10.2) (gN_tt z10.2) (gN_ld z10.2) (gN_ca z10.2))) rfl (mEv.reti ⟨_, rfl, rfl⟩))
theorem A_X0_endHour {d : Nat}  {s : NetS} {q : Int32 × NetS} (h : F_X0_endHour s = some q) : mCall (d + 2) m_X0_endHour [.ref 0] (memN s) (some (Value.int q.1)) (memN q.2) := mCall.intro ok_X0_endHour pl_X0_endHour rfl (E_X0_endHour (d := d) h)
def J_X0_askByPlan_45 (x1 : Int32) (x2 : Int32) (s : NetS) : Option (NetS) := gZ (nI 4096) (gZ (nI 6) ((F_X0_ask x1 x2 ((nI 1) + (((gN_x s) / (nI 4096)) - ((gN_x s) / (nI 4096)) / (nI 6) * (nI 6))) s).bind (fun v10 => some (v10.2))))
set_option maxRecDepth 100000 in
theorem K_X0_askByPlan_45 {d : Nat} {x1 : Int32} {x2 : Int32} {s : NetS} {q : NetS} (h : J_X0_askByPlan_45 x1 x2 s = some q) : mEv (d + 3) m_X0_askByPlan none (45, [], [some (.ref 0), some (.int x1), some (.int x2)], [], memN s) none (memN q) := by
  unfold J_X0_askByPlan_45 at h
  obtain ⟨g8, h⟩ := gZ_some h
  refine mEv.gd 9 (S' := (57, _, [some (.ref 0), some (.int x1), some (.int x2)], [.int ((gN_x s) / (nI 4096)), .int (nI 1), .int x2, .int x1, .ref 0], memN s)) rfl g8 ?_
  obtain ⟨g9, h⟩ := gZ_some h
  refine mEv.gd 2 (S' := (60, _, [some (.ref 0), some (.int x1), some (.int x2)], [.int (((gN_x s) / (nI 4096)) - ((gN_x s) / (nI 4096)) / (nI 6) * (nI 6)), .int (nI 1), .int x2, .int x1, .ref 0], memN s)) rfl g9 ?_
  refine mEv.stp 1 (S' := (61, _, [some (.ref 0), some (.int x1), some (.int x2)], [.int ((nI 1) + (((gN_x s) / (nI 4096)) - ((gN_x s) / (nI 4096)) / (nI 6) * (nI 6))), .int x2, .int x1, .ref 0], memN s)) rfl ?_
  obtain ⟨v10, e11, h⟩ := bnd h
  refine mEv.callV (As := [.int x1, .int x2, .int ((nI 1) + (((gN_x s) / (nI 4096)) - ((gN_x s) / (nI 4096)) / (nI 6) * (nI 6)))]) (st := []) (h := 0) (r := (some (.int v10.1))) (μ1 := memN v10.2) lk_X0_132 rfl rfl rfl rfl rfl (A_X0_ask (d := d + 0) e11) ?_
  refine mEv.stp 0 (S' := (64, _, [some (.ref 0), some (.int x1), some (.int x2)], [.int v10.1], memN v10.2)) rfl ?_
  obtain rfl := Option.some.inj h
  exact mEv.stp 1 (S' := (65, _, [some (.ref 0), some (.int x1), some (.int x2)], [], memN v10.2)) rfl (mEv.retv rfl)
def F_X0_askByPlan  (s : NetS) : Option (NetS) := (F_X0_advanceX s).bind (fun v1 => gZ (nI 65536) (gZ (gN_tc v1) (gZ (nI 1024) (gZ (gN_tc v1) (if ¬ (((gN_x v1) / (nI 1024)) - ((gN_x v1) / (nI 1024)) / (gN_tc v1) * (gN_tc v1)) = (((gN_x v1) / (nI 65536)) - ((gN_x v1) / (nI 65536)) / (gN_tc v1) * (gN_tc v1)) then (J_X0_askByPlan_45 (((gN_x v1) / (nI 65536)) - ((gN_x v1) / (nI 65536)) / (gN_tc v1) * (gN_tc v1)) (((gN_x v1) / (nI 1024)) - ((gN_x v1) / (nI 1024)) / (gN_tc v1) * (gN_tc v1)) v1) else (gZ (gN_tc v1) (J_X0_askByPlan_45 (((gN_x v1) / (nI 65536)) - ((gN_x v1) / (nI 65536)) / (gN_tc v1) * (gN_tc v1)) (((((gN_x v1) / (nI 1024)) - ((gN_x v1) / (nI 1024)) / (gN_tc v1) * (gN_tc v1)) + (nI 1)) - ((((gN_x v1) / (nI 1024)) - ((gN_x v1) / (nI 1024)) / (gN_tc v1) * (gN_tc v1)) + (nI 1)) / (gN_tc v1) * (gN_tc v1)) v1)))))))
set_option maxRecDepth 100000 in
theorem E_X0_askByPlan {d : Nat}  {s : NetS} {q : NetS} (h : F_X0_askByPlan s = some q) : mEv (d + 3) m_X0_askByPlan none (0, [], [some (.ref 0), none, none], [], memN s) none (memN q) := by
  unfold F_X0_askByPlan at h
  refine mEv.stp 2 (S' := (1, _, [some (.ref 0), none, none], [.ref 0], memN s)) rfl ?_
  obtain ⟨v1, e2, h⟩ := bnd h
  refine mEv.callV (As := []) (st := []) (h := 0) (r := none) (μ1 := memN v1) lk_X0_107 rfl rfl rfl rfl rfl (A_X0_advanceX (d := d + 2) e2) ?_
  refine mEv.stp 0 (S' := (4, _, [some (.ref 0), none, none], [], memN v1)) rfl ?_
  obtain ⟨g3, h⟩ := gZ_some h
  refine mEv.gd 4 (S' := (11, _, [some (.ref 0), none, none], [.int ((gN_x v1) / (nI 65536))], memN v1)) rfl g3 ?_
  obtain ⟨g4, h⟩ := gZ_some h
  refine mEv.gd 3 (S' := (16, _, [some (.ref 0), none, none], [.int (((gN_x v1) / (nI 65536)) - ((gN_x v1) / (nI 65536)) / (gN_tc v1) * (gN_tc v1))], memN v1)) rfl g4 ?_
  obtain ⟨g5, h⟩ := gZ_some h
  refine mEv.gd 5 (S' := (25, _, [some (.ref 0), some (.int (((gN_x v1) / (nI 65536)) - ((gN_x v1) / (nI 65536)) / (gN_tc v1) * (gN_tc v1))), none], [.int ((gN_x v1) / (nI 1024))], memN v1)) rfl g5 ?_
  obtain ⟨g6, h⟩ := gZ_some h
  refine mEv.gd 3 (S' := (30, _, [some (.ref 0), some (.int (((gN_x v1) / (nI 65536)) - ((gN_x v1) / (nI 65536)) / (gN_tc v1) * (gN_tc v1))), none], [.int (((gN_x v1) / (nI 1024)) - ((gN_x v1) / (nI 1024)) / (gN_tc v1) * (gN_tc v1))], memN v1)) rfl g6 ?_
  refine mEv.br 4 (S1 := (45, [], [some (.ref 0), some (.int (((gN_x v1) / (nI 65536)) - ((gN_x v1) / (nI 65536)) / (gN_tc v1) * (gN_tc v1))), some (.int (((gN_x v1) / (nI 1024)) - ((gN_x v1) / (nI 1024)) / (gN_tc v1) * (gN_tc v1)))], [], memN v1)) (S2 := (36, _, [some (.ref 0), some (.int (((gN_x v1) / (nI 65536)) - ((gN_x v1) / (nI 65536)) / (gN_tc v1) * (gN_tc v1))), some (.int (((gN_x v1) / (nI 1024)) - ((gN_x v1) / (nI 1024)) / (gN_tc v1) * (gN_tc v1)))], [], memN v1)) rfl (fun c7 => ?_) (fun c7 => ?_)
  · have h := (if_pos c7).symm.trans h
    exact K_X0_askByPlan_45 (d := d) h
  · have h := (if_neg c7).symm.trans h
    obtain ⟨g12, h⟩ := gZ_some h
    refine mEv.gd 6 (S' := (44, _, [some (.ref 0), some (.int (((gN_x v1) / (nI 65536)) - ((gN_x v1) / (nI 65536)) / (gN_tc v1) * (gN_tc v1))), some (.int (((gN_x v1) / (nI 1024)) - ((gN_x v1) / (nI 1024)) / (gN_tc v1) * (gN_tc v1)))], [.int (((((gN_x v1) / (nI 1024)) - ((gN_x v1) / (nI 1024)) / (gN_tc v1) * (gN_tc v1)) + (nI 1)) - ((((gN_x v1) / (nI 1024)) - ((gN_x v1) / (nI 1024)) / (gN_tc v1) * (gN_tc v1)) + (nI 1)) / (gN_tc v1) * (gN_tc v1))], memN v1)) rfl g12 ?_
    refine mEv.stp 1 (S' := (45, [], [some (.ref 0), some (.int (((gN_x v1) / (nI 65536)) - ((gN_x v1) / (nI 65536)) / (gN_tc v1) * (gN_tc v1))), some (.int (((((gN_x v1) / (nI 1024)) - ((gN_x v1) / (nI 1024)) / (gN_tc v1) * (gN_tc v1)) + (nI 1)) - ((((gN_x v1) / (nI 1024)) - ((gN_x v1) / (nI 1024)) / (gN_tc v1) * (gN_tc v1)) + (nI 1)) / (gN_tc v1) * (gN_tc v1)))], [], memN v1)) rfl ?_
    exact K_X0_askByPlan_45 (d := d) h
theorem A_X0_askByPlan {d : Nat}  {s : NetS} {q : NetS} (h : F_X0_askByPlan s = some q) : mCall (d + 3) m_X0_askByPlan [.ref 0] (memN s) none (memN q) := mCall.intro ok_X0_askByPlan pl_X0_askByPlan rfl (E_X0_askByPlan (d := d) h)
def B_X0_passHours_45 (x1 : Int32) (x2 : Int32) (x3 : Int32) (x4 : Int32) (x5 : Int32) (s : NetS) : Option ((Int32 × NetS) ⊕ (NetS)) := if x4 ≤ x5 then (some (.inr (s))) else ((F_X0_askByPlan s).bind (fun v8 => some (.inl ((x5 + (nI 1)), v8))))
set_option maxRecDepth 100000 in
theorem H_X0_passHours_45 {d : Nat} {x1 : Int32} {x2 : Int32} {x3 : Int32} {x4 : Int32} {x5 : Int32} {s : NetS} {q : (Int32 × NetS) ⊕ (NetS)} {r0 : Option Value} {mu0 : MMe} (h : B_X0_passHours_45 x1 x2 x3 x4 x5 s = some q) (hk : Sum.elim (fun x : Int32 × NetS => mEv (d + 4) m_X0_passHours none (45, [], [some (.ref 0), some (.int x1), some (.int x2), some (.int x3), some (.int x4), some (.int x.1)], [], memN x.2) r0 mu0) (fun z : NetS => mEv (d + 4) m_X0_passHours none (62, [], [some (.ref 0), some (.int x1), some (.int x2), some (.int x3), none, none], [], memN z) r0 mu0) q) : mEv (d + 4) m_X0_passHours none (45, [], [some (.ref 0), some (.int x1), some (.int x2), some (.int x3), some (.int x4), some (.int x5)], [], memN s) r0 mu0 := by
  unfold B_X0_passHours_45 at h
  refine mEv.br 4 (S1 := (62, [], [some (.ref 0), some (.int x1), some (.int x2), some (.int x3), some (.int x4), some (.int x5)], [], memN s)) (S2 := (52, _, [some (.ref 0), some (.int x1), some (.int x2), some (.int x3), some (.int x4), some (.int x5)], [], memN s)) rfl (fun c7 => ?_) (fun c7 => ?_)
  · have h := (if_pos c7).symm.trans h
    refine mEv.fg [4, 5] (z' := [some (.ref 0), some (.int x1), some (.int x2), some (.int x3), none, none]) rfl ?_
    obtain rfl := Option.some.inj h
    exact hk
  · have h := (if_neg c7).symm.trans h
    refine mEv.stp 1 (S' := (53, _, [some (.ref 0), some (.int x1), some (.int x2), some (.int x3), some (.int x4), some (.int x5)], [.ref 0], memN s)) rfl ?_
    obtain ⟨v8, e9, h⟩ := bnd h
    refine mEv.callV (As := []) (st := []) (h := 0) (r := none) (μ1 := memN v8) lk_X0_126 rfl rfl rfl rfl rfl (A_X0_askByPlan (d := d + 0) e9) ?_
    refine mEv.stp 0 (S' := (56, _, [some (.ref 0), some (.int x1), some (.int x2), some (.int x3), some (.int x4), some (.int x5)], [], memN v8)) rfl ?_
    refine mEv.stp 2 (S' := (45, [], [some (.ref 0), some (.int x1), some (.int x2), some (.int x3), some (.int x4), some (.int (x5 + (nI 1)))], [], memN v8)) rfl ?_
    obtain rfl := Option.some.inj h
    exact hk
def B_X0_passHours_4 (x1 : Int32) (x2 : Int32) (x3 : Int32) (s : NetS) : Option ((Int32 × Int32 × NetS) ⊕ (Int32 × NetS)) := if x1 ≤ x3 then (some (.inr (x2, s))) else ((F_X0_endHour s).bind (fun v2 => (F_J9_floorMod_7cf53 ((gN_hg v2.2) + (nI 1)) (nI 24)).bind (fun v4 => gI v4 24 ((mWh (fun x => B_X0_passHours_45 x1 (x2 + v2.1) x3 ((gN_ld v2.2) (Int32.toNatClampNeg v4)) x.1 x.2) fuel0 ((nI 0), (mkN (gN_tc v2.2) (gN_hb v2.2) (gN_x v2.2) ((gN_hg v2.2) + (nI 1)) (gN_cc v2.2) (gN_w v2.2) (gN_r v2.2) (gN_hd v2.2) (gN_st v2.2) (gN_ct v2.2) (gN_tt v2.2) (gN_ld v2.2) (gN_ca v2.2)))).bind (fun z10 => some (.inl ((x2 + v2.1), (x3 + (nI 1)), z10)))))))
set_option maxRecDepth 100000 in
theorem H_X0_passHours_4 {d : Nat} {x1 : Int32} {x2 : Int32} {x3 : Int32} {s : NetS} {q : (Int32 × Int32 × NetS) ⊕ (Int32 × NetS)} {r0 : Option Value} {mu0 : MMe} (h : B_X0_passHours_4 x1 x2 x3 s = some q) (hk : Sum.elim (fun x : Int32 × Int32 × NetS => mEv (d + 4) m_X0_passHours none (4, [], [some (.ref 0), some (.int x1), some (.int x.1), some (.int x.2.1), none, none], [], memN x.2.2) r0 mu0) (fun z : Int32 × NetS => mEv (d + 4) m_X0_passHours none (68, [], [none, none, some (.int z.1), none, none, none], [], memN z.2) r0 mu0) q) : mEv (d + 4) m_X0_passHours none (4, [], [some (.ref 0), some (.int x1), some (.int x2), some (.int x3), none, none], [], memN s) r0 mu0 := by
  unfold B_X0_passHours_4 at h
  refine mEv.br 4 (S1 := (68, [], [some (.ref 0), some (.int x1), some (.int x2), some (.int x3), none, none], [], memN s)) (S2 := (9, _, [some (.ref 0), some (.int x1), some (.int x2), some (.int x3), none, none], [], memN s)) rfl (fun c1 => ?_) (fun c1 => ?_)
  · have h := (if_pos c1).symm.trans h
    refine mEv.fg [0, 1, 3] (z' := [none, none, some (.int x2), none, none, none]) rfl ?_
    obtain rfl := Option.some.inj h
    exact hk
  · have h := (if_neg c1).symm.trans h
    refine mEv.stp 2 (S' := (11, _, [some (.ref 0), some (.int x1), some (.int x2), some (.int x3), none, none], [.ref 0, .int x2], memN s)) rfl ?_
    obtain ⟨v2, e3, h⟩ := bnd h
    refine mEv.callV (As := []) (st := [.int x2]) (h := 0) (r := (some (.int v2.1))) (μ1 := memN v2.2) lk_X0_119 rfl rfl rfl rfl rfl (A_X0_endHour (d := d + 1) e3) ?_
    refine mEv.stp 0 (S' := (14, _, [some (.ref 0), some (.int x1), some (.int x2), some (.int x3), none, none], [.int v2.1, .int x2], memN v2.2)) rfl ?_
    refine mEv.stp 13 (S' := (36, _, [some (.ref 0), some (.int x1), some (.int (x2 + v2.1)), some (.int x3), none, none], [.int (nI 24), .int ((gN_hg v2.2) + (nI 1)), .ref 7], memNx (gN_tc v2.2) (gN_hb v2.2) (gN_x v2.2) ((gN_hg v2.2) + (nI 1)) (gN_cc v2.2) (gN_w v2.2) (gN_r v2.2) (gN_hd v2.2) (gN_st v2.2) (gN_ct v2.2) (gN_tt v2.2) (gN_ld v2.2) (gN_ca v2.2))) rfl ?_
    obtain ⟨v4, e5, h⟩ := bnd h
    refine mEv.callS (As := [.int ((gN_hg v2.2) + (nI 1)), .int (nI 24)]) (st := [.ref 7]) (r := (some (.int v4))) (μ1 := memNx (gN_tc v2.2) (gN_hb v2.2) (gN_x v2.2) ((gN_hg v2.2) + (nI 1)) (gN_cc v2.2) (gN_w v2.2) (gN_r v2.2) (gN_hd v2.2) (gN_st v2.2) (gN_ct v2.2) (gN_tt v2.2) (gN_ld v2.2) (gN_ca v2.2)) lk_X0_123 rfl rfl rfl (A_J9_floorMod_7cf53 (d := d + 3) e5) ?_
    refine mEv.stp 0 (S' := (39, _, [some (.ref 0), some (.int x1), some (.int (x2 + v2.1)), some (.int x3), none, none], [.int v4, .ref 7], memNx (gN_tc v2.2) (gN_hb v2.2) (gN_x v2.2) ((gN_hg v2.2) + (nI 1)) (gN_cc v2.2) (gN_w v2.2) (gN_r v2.2) (gN_hd v2.2) (gN_st v2.2) (gN_ct v2.2) (gN_tt v2.2) (gN_ld v2.2) (gN_ca v2.2))) rfl ?_
    obtain ⟨g6, h⟩ := gI_some h
    refine mEv.gd 1 (S' := (40, _, [some (.ref 0), some (.int x1), some (.int (x2 + v2.1)), some (.int x3), none, none], [.int ((gN_ld v2.2) (Int32.toNatClampNeg v4))], memNx (gN_tc v2.2) (gN_hb v2.2) (gN_x v2.2) ((gN_hg v2.2) + (nI 1)) (gN_cc v2.2) (gN_w v2.2) (gN_r v2.2) (gN_hd v2.2) (gN_st v2.2) (gN_ct v2.2) (gN_tt v2.2) (gN_ld v2.2) (gN_ca v2.2))) rfl g6 ?_
    refine mEv.stp 3 (S' := (45, [], [some (.ref 0), some (.int x1), some (.int (x2 + v2.1)), some (.int x3), some (.int ((gN_ld v2.2) (Int32.toNatClampNeg v4))), some (.int (nI 0))], [], memNx (gN_tc v2.2) (gN_hb v2.2) (gN_x v2.2) ((gN_hg v2.2) + (nI 1)) (gN_cc v2.2) (gN_w v2.2) (gN_r v2.2) (gN_hd v2.2) (gN_st v2.2) (gN_ct v2.2) (gN_tt v2.2) (gN_ld v2.2) (gN_ca v2.2))) rfl ?_
    refine mEv.mem memN_mk ?_
    obtain ⟨z10, e11, h⟩ := bnd h
    refine mWh_ind (b := (fun x => B_X0_passHours_45 x1 (x2 + v2.1) x3 ((gN_ld v2.2) (Int32.toNatClampNeg v4)) x.1 x.2)) (P := fun x : Int32 × NetS => mEv (d + 4) m_X0_passHours none (45, [], [some (.ref 0), some (.int x1), some (.int (x2 + v2.1)), some (.int x3), some (.int ((gN_ld v2.2) (Int32.toNatClampNeg v4))), some (.int x.1)], [], memN x.2) r0 mu0) (K := fun z : NetS => mEv (d + 4) m_X0_passHours none (62, [], [some (.ref 0), some (.int x1), some (.int (x2 + v2.1)), some (.int x3), none, none], [], memN z) r0 mu0) (fun x u hq hk => H_X0_passHours_45 (d := d) (x1 := x1) (x2 := (x2 + v2.1)) (x3 := x3) (x4 := ((gN_ld v2.2) (Int32.toNatClampNeg v4))) (x5 := x.1) (s := x.2) (q := u) (r0 := r0) (mu0 := mu0) hq hk) fuel0 ((nI 0), (mkN (gN_tc v2.2) (gN_hb v2.2) (gN_x v2.2) ((gN_hg v2.2) + (nI 1)) (gN_cc v2.2) (gN_w v2.2) (gN_r v2.2) (gN_hd v2.2) (gN_st v2.2) (gN_ct v2.2) (gN_tt v2.2) (gN_ld v2.2) (gN_ca v2.2))) z10 e11 ?_
    refine mEv.stp 0 (S' := (62, [], [some (.ref 0), some (.int x1), some (.int (x2 + v2.1)), some (.int x3), none, none], [], memN z10)) rfl ?_
    refine mEv.stp 3 (S' := (4, [], [some (.ref 0), some (.int x1), some (.int (x2 + v2.1)), some (.int (x3 + (nI 1))), none, none], [], memN z10)) rfl ?_
    obtain rfl := Option.some.inj h
    exact hk
def F_X0_passHours (p1 : Int32) (s : NetS) : Option (Int32 × NetS) := (mWh (fun x => B_X0_passHours_4 p1 x.1 x.2.1 x.2.2) fuel0 ((nI 0), (nI 0), s)).bind (fun z12 => some ((z12.1, z12.2)))
set_option maxRecDepth 100000 in
theorem E_X0_passHours {d : Nat} {p1 : Int32} {s : NetS} {q : Int32 × NetS} (h : F_X0_passHours p1 s = some q) : mEv (d + 4) m_X0_passHours none (0, [], [some (.ref 0), some (.int p1), none, none, none, none], [], memN s) (some (Value.int q.1)) (memN q.2) := by
  unfold F_X0_passHours at h
  refine mEv.stp 5 (S' := (4, [], [some (.ref 0), some (.int p1), some (.int (nI 0)), some (.int (nI 0)), none, none], [], memN s)) rfl ?_
  obtain ⟨z12, e13, h⟩ := bnd h
  refine mWh_ind (b := (fun x => B_X0_passHours_4 p1 x.1 x.2.1 x.2.2)) (P := fun x : Int32 × Int32 × NetS => mEv (d + 4) m_X0_passHours none (4, [], [some (.ref 0), some (.int p1), some (.int x.1), some (.int x.2.1), none, none], [], memN x.2.2) (some (Value.int q.1)) (memN q.2)) (K := fun z : Int32 × NetS => mEv (d + 4) m_X0_passHours none (68, [], [none, none, some (.int z.1), none, none, none], [], memN z.2) (some (Value.int q.1)) (memN q.2)) (fun x u hq hk => H_X0_passHours_4 (d := d) (x1 := p1) (x2 := x.1) (x3 := x.2.1) (s := x.2.2) (q := u) (r0 := (some (Value.int q.1))) (mu0 := (memN q.2)) hq hk) fuel0 ((nI 0), (nI 0), s) z12 e13 ?_
  refine mEv.stp 0 (S' := (68, [], [none, none, some (.int z12.1), none, none, none], [], memN z12.2)) rfl ?_
  obtain rfl := Option.some.inj h
  exact mEv.stp 2 (S' := (69, _, [none, none, some (.int z12.1), none, none, none], [.int z12.1], memN z12.2)) rfl (mEv.reti ⟨_, rfl, rfl⟩)
theorem A_X0_passHours {d : Nat} {p1 : Int32} {s : NetS} {q : Int32 × NetS} (h : F_X0_passHours p1 s = some q) : mCall (d + 4) m_X0_passHours [.ref 0, .int p1] (memN s) (some (Value.int q.1)) (memN q.2) := mCall.intro ok_X0_passHours pl_X0_passHours rfl (E_X0_passHours (d := d) h)
def F_X0_doOrder (p2 : Int32) (od : Nat → Int32) (s : NetS) : Option (Int32 × NetS) := gI (p2 + (nI 1)) 160 (gI (p2 + (nI 2)) 160 (gI (p2 + (nI 3)) 160 (gI (p2 + (nI 0)) 160 (if (od (Int32.toNatClampNeg (p2 + (nI 0)))) = (nI 43) then ((F_X0_passHours (od (Int32.toNatClampNeg (p2 + (nI 3)))) s).bind (fun v6 => some (((nI 0), v6.2)))) else (if (od (Int32.toNatClampNeg (p2 + (nI 0)))) = (nI 48) then ((F_X0_ask (od (Int32.toNatClampNeg (p2 + (nI 1)))) (od (Int32.toNatClampNeg (p2 + (nI 2)))) (od (Int32.toNatClampNeg (p2 + (nI 3)))) s).bind (fun v9 => if v9.1 = (-nI 5) then (some (((nI 0), v9.2))) else (some (((nI 1), v9.2))))) else (if (od (Int32.toNatClampNeg (p2 + (nI 0)))) = (nI 112) then (gI (od (Int32.toNatClampNeg (p2 + (nI 1)))) 24 (some (((nI 0), (mkN (gN_tc s) (gN_hb s) (gN_x s) (gN_hg s) (gN_cc s) (gN_w s) (gN_r s) (gN_hd s) (gN_st s) (gN_ct s) (gN_tt s) (upd (gN_ld s) (Int32.toNatClampNeg (od (Int32.toNatClampNeg (p2 + (nI 1))))) (od (Int32.toNatClampNeg (p2 + (nI 3))))) (gN_ca s)))))) else (if (od (Int32.toNatClampNeg (p2 + (nI 0)))) = (nI 114) then ((F_X0_linkCell (od (Int32.toNatClampNeg (p2 + (nI 1)))) (od (Int32.toNatClampNeg (p2 + (nI 2))))).bind (fun v15 => gI v15 36 (some (((nI 0), (mkN (gN_tc s) (gN_hb s) (gN_x s) (gN_hg s) (gN_cc s) (gN_w s) (upd (gN_r s) (Int32.toNatClampNeg v15) (od (Int32.toNatClampNeg (p2 + (nI 3))))) (gN_hd s) (gN_st s) (gN_ct s) (gN_tt s) (gN_ld s) (gN_ca s))))))) else (if (od (Int32.toNatClampNeg (p2 + (nI 0)))) = (nI 119) then ((F_X0_linkCell (od (Int32.toNatClampNeg (p2 + (nI 1)))) (od (Int32.toNatClampNeg (p2 + (nI 2))))).bind (fun v19 => gI v19 36 (some (((nI 0), (mkN (gN_tc s) (gN_hb s) (gN_x s) (gN_hg s) (gN_cc s) (upd (gN_w s) (Int32.toNatClampNeg v19) (od (Int32.toNatClampNeg (p2 + (nI 3))))) (gN_r s) (gN_hd s) (gN_st s) (gN_ct s) (gN_tt s) (gN_ld s) (gN_ca s))))))) else (some (((nI 0), (mkN (gN_tc s) (od (Int32.toNatClampNeg (p2 + (nI 3)))) (gN_x s) (gN_hg s) (gN_cc s) (gN_w s) (gN_r s) (gN_hd s) (gN_st s) (gN_ct s) (gN_tt s) (gN_ld s) (gN_ca s)))))))))))))
set_option maxRecDepth 100000 in
theorem E_X0_doOrder {d : Nat} {p2 : Int32} {od : Nat → Int32} {s : NetS} {q : Int32 × NetS} (h : F_X0_doOrder p2 od s = some q) : mEv (d + 5) m_X0_doOrder none (0, [], [some (.ref 0), some (.ref 9), some (.int p2), none, none, none], [], memNO s od) (some (Value.int q.1)) (memNO q.2 od) := by
  unfold F_X0_doOrder at h
  obtain ⟨g1, h⟩ := gI_some h
  refine mEv.gd 6 (S' := (5, _, [some (.ref 0), some (.ref 9), some (.int p2), none, none, none], [.int (od (Int32.toNatClampNeg (p2 + (nI 1))))], memNO s od)) rfl g1 ?_
  obtain ⟨g2, h⟩ := gI_some h
  refine mEv.gd 6 (S' := (11, _, [some (.ref 0), some (.ref 9), some (.int p2), some (.int (od (Int32.toNatClampNeg (p2 + (nI 1))))), none, none], [.int (od (Int32.toNatClampNeg (p2 + (nI 2))))], memNO s od)) rfl g2 ?_
  obtain ⟨g3, h⟩ := gI_some h
  refine mEv.gd 6 (S' := (18, _, [some (.ref 0), some (.ref 9), some (.int p2), some (.int (od (Int32.toNatClampNeg (p2 + (nI 1))))), some (.int (od (Int32.toNatClampNeg (p2 + (nI 2))))), none], [.int (od (Int32.toNatClampNeg (p2 + (nI 3))))], memNO s od)) rfl g3 ?_
  obtain ⟨g4, h⟩ := gI_some h
  refine mEv.gd 6 (S' := (25, _, [some (.ref 0), some (.ref 9), some (.int p2), some (.int (od (Int32.toNatClampNeg (p2 + (nI 1))))), some (.int (od (Int32.toNatClampNeg (p2 + (nI 2))))), some (.int (od (Int32.toNatClampNeg (p2 + (nI 3)))))], [.int (od (Int32.toNatClampNeg (p2 + (nI 0))))], memNO s od)) rfl g4 ?_
  refine mEv.stp 1 (S' := (mSw (od (Int32.toNatClampNeg (p2 + (nI 0)))) [(nI 43, 96), (nI 48, 76), (nI 112, 135), (nI 114, 120), (nI 119, 105)] 145, [], [some (.ref 0), some (.ref 9), some (.int p2), some (.int (od (Int32.toNatClampNeg (p2 + (nI 1))))), some (.int (od (Int32.toNatClampNeg (p2 + (nI 2))))), some (.int (od (Int32.toNatClampNeg (p2 + (nI 3)))))], [], memNO s od)) rfl ?_
  refine mEv.sw (fun c5 => ?_) (fun c5 => ?_)
  · have h := (if_pos c5).symm.trans h
    refine mEv.stp 3 (S' := (99, _, [some (.ref 0), some (.ref 9), some (.int p2), some (.int (od (Int32.toNatClampNeg (p2 + (nI 1))))), some (.int (od (Int32.toNatClampNeg (p2 + (nI 2))))), some (.int (od (Int32.toNatClampNeg (p2 + (nI 3)))))], [.int (od (Int32.toNatClampNeg (p2 + (nI 3)))), .ref 0], memNO s od)) rfl ?_
    obtain ⟨v6, e7, h⟩ := bnd h
    refine mEv.callV (As := [.int (od (Int32.toNatClampNeg (p2 + (nI 3))))]) (st := []) (h := 0) (r := (some (.int v6.1))) (μ1 := memNO v6.2 od) lk_X0_138 rfl rfl rfl rfl rfl (mCall.lift [0, 1, 2, 3, 4, 5, 6, 7, 8] (A_X0_passHours (d := d + 0) e7) rfl rfl rfl) ?_
    refine mEv.stp 0 (S' := (102, _, [some (.ref 0), some (.ref 9), some (.int p2), some (.int (od (Int32.toNatClampNeg (p2 + (nI 1))))), some (.int (od (Int32.toNatClampNeg (p2 + (nI 2))))), some (.int (od (Int32.toNatClampNeg (p2 + (nI 3)))))], [.int v6.1], memNO v6.2 od)) rfl ?_
    obtain rfl := Option.some.inj h
    exact mEv.stp 2 (S' := (104, _, [some (.ref 0), some (.ref 9), some (.int p2), some (.int (od (Int32.toNatClampNeg (p2 + (nI 1))))), some (.int (od (Int32.toNatClampNeg (p2 + (nI 2))))), some (.int (od (Int32.toNatClampNeg (p2 + (nI 3)))))], [.int (nI 0)], memNO v6.2 od)) rfl (mEv.reti ⟨_, rfl, rfl⟩)
  · have h := (if_neg c5).symm.trans h
    refine mEv.sw (fun c8 => ?_) (fun c8 => ?_)
    · have h := (if_pos c8).symm.trans h
      refine mEv.stp 5 (S' := (82, _, [some (.ref 0), some (.ref 9), some (.int p2), some (.int (od (Int32.toNatClampNeg (p2 + (nI 1))))), some (.int (od (Int32.toNatClampNeg (p2 + (nI 2))))), some (.int (od (Int32.toNatClampNeg (p2 + (nI 3)))))], [.int (od (Int32.toNatClampNeg (p2 + (nI 3)))), .int (od (Int32.toNatClampNeg (p2 + (nI 2)))), .int (od (Int32.toNatClampNeg (p2 + (nI 1)))), .ref 0], memNO s od)) rfl ?_
      obtain ⟨v9, e10, h⟩ := bnd h
      refine mEv.callV (As := [.int (od (Int32.toNatClampNeg (p2 + (nI 1)))), .int (od (Int32.toNatClampNeg (p2 + (nI 2)))), .int (od (Int32.toNatClampNeg (p2 + (nI 3))))]) (st := []) (h := 0) (r := (some (.int v9.1))) (μ1 := memNO v9.2 od) lk_X0_132 rfl rfl rfl rfl rfl (mCall.lift [0, 1, 2, 3, 4, 5, 6, 7, 8] (A_X0_ask (d := d + 2) e10) rfl rfl rfl) ?_
      refine mEv.stp 0 (S' := (85, _, [some (.ref 0), some (.ref 9), some (.int p2), some (.int (od (Int32.toNatClampNeg (p2 + (nI 1))))), some (.int (od (Int32.toNatClampNeg (p2 + (nI 2))))), some (.int (od (Int32.toNatClampNeg (p2 + (nI 3)))))], [.int v9.1], memNO v9.2 od)) rfl ?_
      refine mEv.br 2 (S1 := (94, [], [some (.ref 0), some (.ref 9), some (.int p2), some (.int (od (Int32.toNatClampNeg (p2 + (nI 1))))), some (.int (od (Int32.toNatClampNeg (p2 + (nI 2))))), some (.int (od (Int32.toNatClampNeg (p2 + (nI 3)))))], [], memNO v9.2 od)) (S2 := (90, _, [some (.ref 0), some (.ref 9), some (.int p2), some (.int (od (Int32.toNatClampNeg (p2 + (nI 1))))), some (.int (od (Int32.toNatClampNeg (p2 + (nI 2))))), some (.int (od (Int32.toNatClampNeg (p2 + (nI 3)))))], [], memNO v9.2 od)) rfl (fun c11 => ?_) (fun c11 => ?_)
      · have h := (if_pos c11).symm.trans h
        obtain rfl := Option.some.inj h
        exact mEv.stp 3 (S' := (95, _, [some (.ref 0), some (.ref 9), some (.int p2), some (.int (od (Int32.toNatClampNeg (p2 + (nI 1))))), some (.int (od (Int32.toNatClampNeg (p2 + (nI 2))))), some (.int (od (Int32.toNatClampNeg (p2 + (nI 3)))))], [.int (nI 0)], memNO v9.2 od)) rfl (mEv.reti ⟨_, rfl, rfl⟩)
      · have h := (if_neg c11).symm.trans h
        obtain rfl := Option.some.inj h
        exact mEv.stp 3 (S' := (95, _, [some (.ref 0), some (.ref 9), some (.int p2), some (.int (od (Int32.toNatClampNeg (p2 + (nI 1))))), some (.int (od (Int32.toNatClampNeg (p2 + (nI 2))))), some (.int (od (Int32.toNatClampNeg (p2 + (nI 3)))))], [.int (nI 1)], memNO v9.2 od)) rfl (mEv.reti ⟨_, rfl, rfl⟩)
    · have h := (if_neg c8).symm.trans h
      refine mEv.sw (fun c12 => ?_) (fun c12 => ?_)
      · have h := (if_pos c12).symm.trans h
        obtain ⟨g13, h⟩ := gI_some h
        refine mEv.gd 6 (S' := (143, _, [some (.ref 0), some (.ref 9), some (.int p2), some (.int (od (Int32.toNatClampNeg (p2 + (nI 1))))), some (.int (od (Int32.toNatClampNeg (p2 + (nI 2))))), some (.int (od (Int32.toNatClampNeg (p2 + (nI 3)))))], [], memNOx (gN_tc s) (gN_hb s) (gN_x s) (gN_hg s) (gN_cc s) (gN_w s) (gN_r s) (gN_hd s) (gN_st s) (gN_ct s) (gN_tt s) (upd (gN_ld s) (Int32.toNatClampNeg (od (Int32.toNatClampNeg (p2 + (nI 1))))) (od (Int32.toNatClampNeg (p2 + (nI 3))))) (gN_ca s) od)) rfl g13 ?_
        obtain rfl := Option.some.inj h
        exact mEv.tgt memNO_mk (mEv.stp 1 (S' := (144, _, [some (.ref 0), some (.ref 9), some (.int p2), some (.int (od (Int32.toNatClampNeg (p2 + (nI 1))))), some (.int (od (Int32.toNatClampNeg (p2 + (nI 2))))), some (.int (od (Int32.toNatClampNeg (p2 + (nI 3)))))], [.int (nI 0)], memNOx (gN_tc s) (gN_hb s) (gN_x s) (gN_hg s) (gN_cc s) (gN_w s) (gN_r s) (gN_hd s) (gN_st s) (gN_ct s) (gN_tt s) (upd (gN_ld s) (Int32.toNatClampNeg (od (Int32.toNatClampNeg (p2 + (nI 1))))) (od (Int32.toNatClampNeg (p2 + (nI 3))))) (gN_ca s) od)) rfl (mEv.reti ⟨_, rfl, rfl⟩))
      · have h := (if_neg c12).symm.trans h
        refine mEv.sw (fun c14 => ?_) (fun c14 => ?_)
        · have h := (if_pos c14).symm.trans h
          refine mEv.stp 5 (S' := (127, _, [some (.ref 0), some (.ref 9), some (.int p2), some (.int (od (Int32.toNatClampNeg (p2 + (nI 1))))), some (.int (od (Int32.toNatClampNeg (p2 + (nI 2))))), some (.int (od (Int32.toNatClampNeg (p2 + (nI 3)))))], [.int (od (Int32.toNatClampNeg (p2 + (nI 2)))), .int (od (Int32.toNatClampNeg (p2 + (nI 1)))), .ref 2], memNO s od)) rfl ?_
          obtain ⟨v15, e16, h⟩ := bnd h
          refine mEv.callS (As := [.int (od (Int32.toNatClampNeg (p2 + (nI 1)))), .int (od (Int32.toNatClampNeg (p2 + (nI 2))))]) (st := [.ref 2]) (r := (some (.int v15))) (μ1 := memNO s od) lk_X0_73 rfl rfl rfl (A_X0_linkCell (d := d + 4) e16) ?_
          refine mEv.stp 0 (S' := (130, _, [some (.ref 0), some (.ref 9), some (.int p2), some (.int (od (Int32.toNatClampNeg (p2 + (nI 1))))), some (.int (od (Int32.toNatClampNeg (p2 + (nI 2))))), some (.int (od (Int32.toNatClampNeg (p2 + (nI 3)))))], [.int v15, .ref 2], memNO s od)) rfl ?_
          obtain ⟨g17, h⟩ := gI_some h
          refine mEv.gd 2 (S' := (133, _, [some (.ref 0), some (.ref 9), some (.int p2), some (.int (od (Int32.toNatClampNeg (p2 + (nI 1))))), some (.int (od (Int32.toNatClampNeg (p2 + (nI 2))))), some (.int (od (Int32.toNatClampNeg (p2 + (nI 3)))))], [], memNOx (gN_tc s) (gN_hb s) (gN_x s) (gN_hg s) (gN_cc s) (gN_w s) (upd (gN_r s) (Int32.toNatClampNeg v15) (od (Int32.toNatClampNeg (p2 + (nI 3))))) (gN_hd s) (gN_st s) (gN_ct s) (gN_tt s) (gN_ld s) (gN_ca s) od)) rfl g17 ?_
          obtain rfl := Option.some.inj h
          exact mEv.tgt memNO_mk (mEv.stp 1 (S' := (134, _, [some (.ref 0), some (.ref 9), some (.int p2), some (.int (od (Int32.toNatClampNeg (p2 + (nI 1))))), some (.int (od (Int32.toNatClampNeg (p2 + (nI 2))))), some (.int (od (Int32.toNatClampNeg (p2 + (nI 3)))))], [.int (nI 0)], memNOx (gN_tc s) (gN_hb s) (gN_x s) (gN_hg s) (gN_cc s) (gN_w s) (upd (gN_r s) (Int32.toNatClampNeg v15) (od (Int32.toNatClampNeg (p2 + (nI 3))))) (gN_hd s) (gN_st s) (gN_ct s) (gN_tt s) (gN_ld s) (gN_ca s) od)) rfl (mEv.reti ⟨_, rfl, rfl⟩))
        · have h := (if_neg c14).symm.trans h
          refine mEv.sw (fun c18 => ?_) (fun c18 => ?_)
          · have h := (if_pos c18).symm.trans h
            refine mEv.stp 5 (S' := (112, _, [some (.ref 0), some (.ref 9), some (.int p2), some (.int (od (Int32.toNatClampNeg (p2 + (nI 1))))), some (.int (od (Int32.toNatClampNeg (p2 + (nI 2))))), some (.int (od (Int32.toNatClampNeg (p2 + (nI 3)))))], [.int (od (Int32.toNatClampNeg (p2 + (nI 2)))), .int (od (Int32.toNatClampNeg (p2 + (nI 1)))), .ref 1], memNO s od)) rfl ?_
            obtain ⟨v19, e20, h⟩ := bnd h
            refine mEv.callS (As := [.int (od (Int32.toNatClampNeg (p2 + (nI 1)))), .int (od (Int32.toNatClampNeg (p2 + (nI 2))))]) (st := [.ref 1]) (r := (some (.int v19))) (μ1 := memNO s od) lk_X0_73 rfl rfl rfl (A_X0_linkCell (d := d + 4) e20) ?_
            refine mEv.stp 0 (S' := (115, _, [some (.ref 0), some (.ref 9), some (.int p2), some (.int (od (Int32.toNatClampNeg (p2 + (nI 1))))), some (.int (od (Int32.toNatClampNeg (p2 + (nI 2))))), some (.int (od (Int32.toNatClampNeg (p2 + (nI 3)))))], [.int v19, .ref 1], memNO s od)) rfl ?_
            obtain ⟨g21, h⟩ := gI_some h
            refine mEv.gd 2 (S' := (118, _, [some (.ref 0), some (.ref 9), some (.int p2), some (.int (od (Int32.toNatClampNeg (p2 + (nI 1))))), some (.int (od (Int32.toNatClampNeg (p2 + (nI 2))))), some (.int (od (Int32.toNatClampNeg (p2 + (nI 3)))))], [], memNOx (gN_tc s) (gN_hb s) (gN_x s) (gN_hg s) (gN_cc s) (upd (gN_w s) (Int32.toNatClampNeg v19) (od (Int32.toNatClampNeg (p2 + (nI 3))))) (gN_r s) (gN_hd s) (gN_st s) (gN_ct s) (gN_tt s) (gN_ld s) (gN_ca s) od)) rfl g21 ?_
            obtain rfl := Option.some.inj h
            exact mEv.tgt memNO_mk (mEv.stp 1 (S' := (119, _, [some (.ref 0), some (.ref 9), some (.int p2), some (.int (od (Int32.toNatClampNeg (p2 + (nI 1))))), some (.int (od (Int32.toNatClampNeg (p2 + (nI 2))))), some (.int (od (Int32.toNatClampNeg (p2 + (nI 3)))))], [.int (nI 0)], memNOx (gN_tc s) (gN_hb s) (gN_x s) (gN_hg s) (gN_cc s) (upd (gN_w s) (Int32.toNatClampNeg v19) (od (Int32.toNatClampNeg (p2 + (nI 3))))) (gN_r s) (gN_hd s) (gN_st s) (gN_ct s) (gN_tt s) (gN_ld s) (gN_ca s) od)) rfl (mEv.reti ⟨_, rfl, rfl⟩))
          · have h := (if_neg c18).symm.trans h
            refine mEv.stp 0 (S' := (145, [], [some (.ref 0), some (.ref 9), some (.int p2), some (.int (od (Int32.toNatClampNeg (p2 + (nI 1))))), some (.int (od (Int32.toNatClampNeg (p2 + (nI 2))))), some (.int (od (Int32.toNatClampNeg (p2 + (nI 3)))))], [], memNO s od)) rfl ?_
            obtain rfl := Option.some.inj h
            exact mEv.tgt memNO_mk (mEv.stp 5 (S' := (152, _, [some (.ref 0), some (.ref 9), some (.int p2), some (.int (od (Int32.toNatClampNeg (p2 + (nI 1))))), some (.int (od (Int32.toNatClampNeg (p2 + (nI 2))))), some (.int (od (Int32.toNatClampNeg (p2 + (nI 3)))))], [.int (nI 0)], memNOx (gN_tc s) (od (Int32.toNatClampNeg (p2 + (nI 3)))) (gN_x s) (gN_hg s) (gN_cc s) (gN_w s) (gN_r s) (gN_hd s) (gN_st s) (gN_ct s) (gN_tt s) (gN_ld s) (gN_ca s) od)) rfl (mEv.reti ⟨_, rfl, rfl⟩))
theorem A_X0_doOrder {d : Nat} {p2 : Int32} {od : Nat → Int32} {s : NetS} {q : Int32 × NetS} (h : F_X0_doOrder p2 od s = some q) : mCall (d + 5) m_X0_doOrder [.ref 0, .ref 9, .int p2] (memNO s od) (some (Value.int q.1)) (memNO q.2 od) := mCall.intro ok_X0_doOrder pl_X0_doOrder rfl (E_X0_doOrder (d := d) h)
def B_X0_callsOverLink_4 (x1 : Int32) (x2 : Int32) (x3 : Int32) (s : NetS) : Option ((Int32 × Int32) ⊕ (Int32)) := if (gN_cc s) ≤ x3 then (some (.inr (x2))) else (gI ((x3 * (nI 4)) + (nI 2)) 320 (if ((gN_ca s) (Int32.toNatClampNeg ((x3 * (nI 4)) + (nI 2)))) = (-nI 1) then (some (.inl (x2, (x3 + (nI 1))))) else (gI ((x3 * (nI 4)) + (nI 0)) 320 ((F_X0_linkCell ((gN_ca s) (Int32.toNatClampNeg ((x3 * (nI 4)) + (nI 0)))) ((gN_ca s) (Int32.toNatClampNeg ((x3 * (nI 4)) + (nI 2))))).bind (fun v5 => if v5 = x1 then (some (.inl ((x2 + (nI 1)), (x3 + (nI 1))))) else (gI ((x3 * (nI 4)) + (nI 1)) 320 ((F_X0_linkCell ((gN_ca s) (Int32.toNatClampNeg ((x3 * (nI 4)) + (nI 2)))) ((gN_ca s) (Int32.toNatClampNeg ((x3 * (nI 4)) + (nI 1))))).bind (fun v9 => if ¬ v9 = x1 then (some (.inl (x2, (x3 + (nI 1))))) else (some (.inl ((x2 + (nI 1)), (x3 + (nI 1)))))))))))))
set_option maxRecDepth 100000 in
theorem H_X0_callsOverLink_4 {d : Nat} {x1 : Int32} {x2 : Int32} {x3 : Int32} {s : NetS} {q : (Int32 × Int32) ⊕ (Int32)} {r0 : Option Value} {mu0 : MMe} (h : B_X0_callsOverLink_4 x1 x2 x3 s = some q) (hk : Sum.elim (fun x : Int32 × Int32 => mEv (d + 1) m_X0_callsOverLink none (4, [], [some (.ref 0), some (.int x1), some (.int x.1), some (.int x.2), none, none], [], memN s) r0 mu0) (fun z : Int32 => mEv (d + 1) m_X0_callsOverLink none (79, [], [none, none, some (.int z), none, none, none], [], memN s) r0 mu0) q) : mEv (d + 1) m_X0_callsOverLink none (4, [], [some (.ref 0), some (.int x1), some (.int x2), some (.int x3), none, none], [], memN s) r0 mu0 := by
  unfold B_X0_callsOverLink_4 at h
  refine mEv.br 5 (S1 := (79, [], [some (.ref 0), some (.int x1), some (.int x2), some (.int x3), none, none], [], memN s)) (S2 := (12, _, [some (.ref 0), some (.int x1), some (.int x2), some (.int x3), none, none], [], memN s)) rfl (fun c1 => ?_) (fun c1 => ?_)
  · have h := (if_pos c1).symm.trans h
    refine mEv.fg [0, 1, 3] (z' := [none, none, some (.int x2), none, none, none]) rfl ?_
    obtain rfl := Option.some.inj h
    exact hk
  · have h := (if_neg c1).symm.trans h
    obtain ⟨g2, h⟩ := gI_some h
    refine mEv.gd 10 (S' := (26, _, [some (.ref 0), some (.int x1), some (.int x2), some (.int x3), some (.int (x3 * (nI 4))), none], [.int ((gN_ca s) (Int32.toNatClampNeg ((x3 * (nI 4)) + (nI 2))))], memN s)) rfl g2 ?_
    refine mEv.br 4 (S1 := (73, [], [some (.ref 0), some (.int x1), some (.int x2), some (.int x3), some (.int (x3 * (nI 4))), some (.int ((gN_ca s) (Int32.toNatClampNeg ((x3 * (nI 4)) + (nI 2)))))], [], memN s)) (S2 := (34, _, [some (.ref 0), some (.int x1), some (.int x2), some (.int x3), some (.int (x3 * (nI 4))), some (.int ((gN_ca s) (Int32.toNatClampNeg ((x3 * (nI 4)) + (nI 2)))))], [], memN s)) rfl (fun c3 => ?_) (fun c3 => ?_)
    · have h := (if_pos c3).symm.trans h
      refine mEv.stp 3 (S' := (4, [], [some (.ref 0), some (.int x1), some (.int x2), some (.int (x3 + (nI 1))), some (.int (x3 * (nI 4))), some (.int ((gN_ca s) (Int32.toNatClampNeg ((x3 * (nI 4)) + (nI 2)))))], [], memN s)) rfl ?_
      refine mEv.fg [4, 5] (z' := [some (.ref 0), some (.int x1), some (.int x2), some (.int (x3 + (nI 1))), none, none]) rfl ?_
      obtain rfl := Option.some.inj h
      exact hk
    · have h := (if_neg c3).symm.trans h
      obtain ⟨g4, h⟩ := gI_some h
      refine mEv.gd 6 (S' := (43, _, [some (.ref 0), some (.int x1), some (.int x2), some (.int x3), some (.int (x3 * (nI 4))), some (.int ((gN_ca s) (Int32.toNatClampNeg ((x3 * (nI 4)) + (nI 2)))))], [.int ((gN_ca s) (Int32.toNatClampNeg ((x3 * (nI 4)) + (nI 0))))], memN s)) rfl g4 ?_
      refine mEv.stp 1 (S' := (45, _, [some (.ref 0), some (.int x1), some (.int x2), some (.int x3), some (.int (x3 * (nI 4))), some (.int ((gN_ca s) (Int32.toNatClampNeg ((x3 * (nI 4)) + (nI 2)))))], [.int ((gN_ca s) (Int32.toNatClampNeg ((x3 * (nI 4)) + (nI 2)))), .int ((gN_ca s) (Int32.toNatClampNeg ((x3 * (nI 4)) + (nI 0))))], memN s)) rfl ?_
      obtain ⟨v5, e6, h⟩ := bnd h
      refine mEv.callS (As := [.int ((gN_ca s) (Int32.toNatClampNeg ((x3 * (nI 4)) + (nI 0)))), .int ((gN_ca s) (Int32.toNatClampNeg ((x3 * (nI 4)) + (nI 2))))]) (st := []) (r := (some (.int v5))) (μ1 := memN s) lk_X0_73 rfl rfl rfl (A_X0_linkCell (d := d + 0) e6) ?_
      refine mEv.stp 0 (S' := (48, _, [some (.ref 0), some (.int x1), some (.int x2), some (.int x3), some (.int (x3 * (nI 4))), some (.int ((gN_ca s) (Int32.toNatClampNeg ((x3 * (nI 4)) + (nI 2)))))], [.int v5], memN s)) rfl ?_
      refine mEv.br 2 (S1 := (70, [], [some (.ref 0), some (.int x1), some (.int x2), some (.int x3), some (.int (x3 * (nI 4))), some (.int ((gN_ca s) (Int32.toNatClampNeg ((x3 * (nI 4)) + (nI 2)))))], [], memN s)) (S2 := (52, _, [some (.ref 0), some (.int x1), some (.int x2), some (.int x3), some (.int (x3 * (nI 4))), some (.int ((gN_ca s) (Int32.toNatClampNeg ((x3 * (nI 4)) + (nI 2)))))], [], memN s)) rfl (fun c7 => ?_) (fun c7 => ?_)
      · have h := (if_pos c7).symm.trans h
        refine mEv.stp 5 (S' := (4, [], [some (.ref 0), some (.int x1), some (.int (x2 + (nI 1))), some (.int (x3 + (nI 1))), some (.int (x3 * (nI 4))), some (.int ((gN_ca s) (Int32.toNatClampNeg ((x3 * (nI 4)) + (nI 2)))))], [], memN s)) rfl ?_
        refine mEv.fg [4, 5] (z' := [some (.ref 0), some (.int x1), some (.int (x2 + (nI 1))), some (.int (x3 + (nI 1))), none, none]) rfl ?_
        obtain rfl := Option.some.inj h
        exact hk
      · have h := (if_neg c7).symm.trans h
        obtain ⟨g8, h⟩ := gI_some h
        refine mEv.gd 7 (S' := (63, _, [some (.ref 0), some (.int x1), some (.int x2), some (.int x3), some (.int (x3 * (nI 4))), some (.int ((gN_ca s) (Int32.toNatClampNeg ((x3 * (nI 4)) + (nI 2)))))], [.int ((gN_ca s) (Int32.toNatClampNeg ((x3 * (nI 4)) + (nI 1)))), .int ((gN_ca s) (Int32.toNatClampNeg ((x3 * (nI 4)) + (nI 2))))], memN s)) rfl g8 ?_
        obtain ⟨v9, e10, h⟩ := bnd h
        refine mEv.callS (As := [.int ((gN_ca s) (Int32.toNatClampNeg ((x3 * (nI 4)) + (nI 2)))), .int ((gN_ca s) (Int32.toNatClampNeg ((x3 * (nI 4)) + (nI 1))))]) (st := []) (r := (some (.int v9))) (μ1 := memN s) lk_X0_73 rfl rfl rfl (A_X0_linkCell (d := d + 0) e10) ?_
        refine mEv.stp 0 (S' := (66, _, [some (.ref 0), some (.int x1), some (.int x2), some (.int x3), some (.int (x3 * (nI 4))), some (.int ((gN_ca s) (Int32.toNatClampNeg ((x3 * (nI 4)) + (nI 2)))))], [.int v9], memN s)) rfl ?_
        refine mEv.br 2 (S1 := (73, [], [some (.ref 0), some (.int x1), some (.int x2), some (.int x3), some (.int (x3 * (nI 4))), some (.int ((gN_ca s) (Int32.toNatClampNeg ((x3 * (nI 4)) + (nI 2)))))], [], memN s)) (S2 := (70, [], [some (.ref 0), some (.int x1), some (.int x2), some (.int x3), some (.int (x3 * (nI 4))), some (.int ((gN_ca s) (Int32.toNatClampNeg ((x3 * (nI 4)) + (nI 2)))))], [], memN s)) rfl (fun c11 => ?_) (fun c11 => ?_)
        · have h := (if_pos c11).symm.trans h
          refine mEv.stp 3 (S' := (4, [], [some (.ref 0), some (.int x1), some (.int x2), some (.int (x3 + (nI 1))), some (.int (x3 * (nI 4))), some (.int ((gN_ca s) (Int32.toNatClampNeg ((x3 * (nI 4)) + (nI 2)))))], [], memN s)) rfl ?_
          refine mEv.fg [4, 5] (z' := [some (.ref 0), some (.int x1), some (.int x2), some (.int (x3 + (nI 1))), none, none]) rfl ?_
          obtain rfl := Option.some.inj h
          exact hk
        · have h := (if_neg c11).symm.trans h
          refine mEv.stp 5 (S' := (4, [], [some (.ref 0), some (.int x1), some (.int (x2 + (nI 1))), some (.int (x3 + (nI 1))), some (.int (x3 * (nI 4))), some (.int ((gN_ca s) (Int32.toNatClampNeg ((x3 * (nI 4)) + (nI 2)))))], [], memN s)) rfl ?_
          refine mEv.fg [4, 5] (z' := [some (.ref 0), some (.int x1), some (.int (x2 + (nI 1))), some (.int (x3 + (nI 1))), none, none]) rfl ?_
          obtain rfl := Option.some.inj h
          exact hk
def F_X0_callsOverLink (p1 : Int32) (s : NetS) : Option (Int32) := (mWh (fun x => B_X0_callsOverLink_4 p1 x.1 x.2 s) fuel0 ((nI 0), (nI 0))).bind (fun z12 => some (z12))
set_option maxRecDepth 100000 in
theorem E_X0_callsOverLink {d : Nat} {p1 : Int32} {s : NetS} {q : Int32} (h : F_X0_callsOverLink p1 s = some q) : mEv (d + 1) m_X0_callsOverLink none (0, [], [some (.ref 0), some (.int p1), none, none, none, none], [], memN s) (some (Value.int q)) (memN s) := by
  unfold F_X0_callsOverLink at h
  refine mEv.stp 5 (S' := (4, [], [some (.ref 0), some (.int p1), some (.int (nI 0)), some (.int (nI 0)), none, none], [], memN s)) rfl ?_
  obtain ⟨z12, e13, h⟩ := bnd h
  refine mWh_ind (b := (fun x => B_X0_callsOverLink_4 p1 x.1 x.2 s)) (P := fun x : Int32 × Int32 => mEv (d + 1) m_X0_callsOverLink none (4, [], [some (.ref 0), some (.int p1), some (.int x.1), some (.int x.2), none, none], [], memN s) (some (Value.int q)) (memN s)) (K := fun z : Int32 => mEv (d + 1) m_X0_callsOverLink none (79, [], [none, none, some (.int z), none, none, none], [], memN s) (some (Value.int q)) (memN s)) (fun x u hq hk => H_X0_callsOverLink_4 (d := d) (x1 := p1) (x2 := x.1) (x3 := x.2) (s := s) (q := u) (r0 := (some (Value.int q))) (mu0 := (memN s)) hq hk) fuel0 ((nI 0), (nI 0)) z12 e13 ?_
  refine mEv.stp 0 (S' := (79, [], [none, none, some (.int z12), none, none, none], [], memN s)) rfl ?_
  obtain rfl := Option.some.inj h
  exact mEv.stp 2 (S' := (80, _, [none, none, some (.int z12), none, none, none], [.int z12], memN s)) rfl (mEv.reti ⟨_, rfl, rfl⟩)
theorem A_X0_callsOverLink {d : Nat} {p1 : Int32} {s : NetS} {q : Int32} (h : F_X0_callsOverLink p1 s = some q) : mCall (d + 1) m_X0_callsOverLink [.ref 0, .int p1] (memN s) (some (Value.int q)) (memN s) := mCall.intro ok_X0_callsOverLink pl_X0_callsOverLink rfl (E_X0_callsOverLink (d := d) h)
def B_X0_wiresHeld_4 (x1 : Int32) (x2 : Int32) (s : NetS) : Option ((Int32 × Int32) ⊕ (Int32)) := if (gN_cc s) ≤ x2 then (some (.inr (x1))) else (gI ((x2 * (nI 4)) + (nI 2)) 320 (if ¬ ((gN_ca s) (Int32.toNatClampNeg ((x2 * (nI 4)) + (nI 2)))) = (-nI 1) then (some (.inl ((x1 + (nI 2)), (x2 + (nI 1))))) else (some (.inl ((x1 + (nI 1)), (x2 + (nI 1)))))))
set_option maxRecDepth 100000 in
theorem H_X0_wiresHeld_4 {d : Nat} {x1 : Int32} {x2 : Int32} {s : NetS} {q : (Int32 × Int32) ⊕ (Int32)} {r0 : Option Value} {mu0 : MMe} (h : B_X0_wiresHeld_4 x1 x2 s = some q) (hk : Sum.elim (fun x : Int32 × Int32 => mEv d m_X0_wiresHeld none (4, [], [some (.ref 0), some (.int x.1), some (.int x.2)], [], memN s) r0 mu0) (fun z : Int32 => mEv d m_X0_wiresHeld none (40, [], [none, some (.int z), none], [], memN s) r0 mu0) q) : mEv d m_X0_wiresHeld none (4, [], [some (.ref 0), some (.int x1), some (.int x2)], [], memN s) r0 mu0 := by
  unfold B_X0_wiresHeld_4 at h
  refine mEv.br 5 (S1 := (40, [], [some (.ref 0), some (.int x1), some (.int x2)], [], memN s)) (S2 := (12, _, [some (.ref 0), some (.int x1), some (.int x2)], [], memN s)) rfl (fun c1 => ?_) (fun c1 => ?_)
  · have h := (if_pos c1).symm.trans h
    refine mEv.fg [0, 2] (z' := [none, some (.int x1), none]) rfl ?_
    obtain rfl := Option.some.inj h
    exact hk
  · have h := (if_neg c1).symm.trans h
    obtain ⟨g2, h⟩ := gI_some h
    refine mEv.gd 9 (S' := (23, _, [some (.ref 0), some (.int x1), some (.int x2)], [.int ((gN_ca s) (Int32.toNatClampNeg ((x2 * (nI 4)) + (nI 2)))), .int x1], memN s)) rfl g2 ?_
    refine mEv.br 2 (S1 := (31, [], [some (.ref 0), some (.int x1), some (.int x2)], [.int x1], memN s)) (S2 := (27, _, [some (.ref 0), some (.int x1), some (.int x2)], [.int x1], memN s)) rfl (fun c3 => ?_) (fun c3 => ?_)
    · have h := (if_pos c3).symm.trans h
      refine mEv.stp 7 (S' := (4, [], [some (.ref 0), some (.int (x1 + (nI 2))), some (.int (x2 + (nI 1)))], [], memN s)) rfl ?_
      obtain rfl := Option.some.inj h
      exact hk
    · have h := (if_neg c3).symm.trans h
      refine mEv.stp 7 (S' := (4, [], [some (.ref 0), some (.int (x1 + (nI 1))), some (.int (x2 + (nI 1)))], [], memN s)) rfl ?_
      obtain rfl := Option.some.inj h
      exact hk
def F_X0_wiresHeld  (s : NetS) : Option (Int32) := (mWh (fun x => B_X0_wiresHeld_4 x.1 x.2 s) fuel0 ((nI 0), (nI 0))).bind (fun z4 => some (z4))
set_option maxRecDepth 100000 in
theorem E_X0_wiresHeld {d : Nat}  {s : NetS} {q : Int32} (h : F_X0_wiresHeld s = some q) : mEv d m_X0_wiresHeld none (0, [], [some (.ref 0), none, none], [], memN s) (some (Value.int q)) (memN s) := by
  unfold F_X0_wiresHeld at h
  refine mEv.stp 5 (S' := (4, [], [some (.ref 0), some (.int (nI 0)), some (.int (nI 0))], [], memN s)) rfl ?_
  obtain ⟨z4, e5, h⟩ := bnd h
  refine mWh_ind (b := (fun x => B_X0_wiresHeld_4 x.1 x.2 s)) (P := fun x : Int32 × Int32 => mEv d m_X0_wiresHeld none (4, [], [some (.ref 0), some (.int x.1), some (.int x.2)], [], memN s) (some (Value.int q)) (memN s)) (K := fun z : Int32 => mEv d m_X0_wiresHeld none (40, [], [none, some (.int z), none], [], memN s) (some (Value.int q)) (memN s)) (fun x u hq hk => H_X0_wiresHeld_4 (d := d) (x1 := x.1) (x2 := x.2) (s := s) (q := u) (r0 := (some (Value.int q))) (mu0 := (memN s)) hq hk) fuel0 ((nI 0), (nI 0)) z4 e5 ?_
  refine mEv.stp 0 (S' := (40, [], [none, some (.int z4), none], [], memN s)) rfl ?_
  obtain rfl := Option.some.inj h
  exact mEv.stp 2 (S' := (41, _, [none, some (.int z4), none], [.int z4], memN s)) rfl (mEv.reti ⟨_, rfl, rfl⟩)
theorem A_X0_wiresHeld {d : Nat}  {s : NetS} {q : Int32} (h : F_X0_wiresHeld s = some q) : mCall d m_X0_wiresHeld [.ref 0] (memN s) (some (Value.int q)) (memN s) := mCall.intro ok_X0_wiresHeld pl_X0_wiresHeld rfl (E_X0_wiresHeld (d := d) h)
def F_X0_refusedAt (p1 : Int32) (s : NetS) : Option (Int32) := gI ((nI 144) + p1) 180 (some (((gN_ct s) (Int32.toNatClampNeg ((nI 144) + p1)))))
set_option maxRecDepth 100000 in
theorem E_X0_refusedAt {d : Nat} {p1 : Int32} {s : NetS} {q : Int32} (h : F_X0_refusedAt p1 s = some q) : mEv d m_X0_refusedAt none (0, [], [some (.ref 0), some (.int p1)], [], memN s) (some (Value.int q)) (memN s) := by
  unfold F_X0_refusedAt at h
  obtain ⟨g1, h⟩ := gI_some h
  refine mEv.gd 7 (S' := (10, _, [some (.ref 0), some (.int p1)], [.int ((gN_ct s) (Int32.toNatClampNeg ((nI 144) + p1)))], memN s)) rfl g1 ?_
  obtain rfl := Option.some.inj h
  exact mEv.reti ⟨_, rfl, rfl⟩
theorem A_X0_refusedAt {d : Nat} {p1 : Int32} {s : NetS} {q : Int32} (h : F_X0_refusedAt p1 s = some q) : mCall d m_X0_refusedAt [.ref 0, .int p1] (memN s) (some (Value.int q)) (memN s) := mCall.intro ok_X0_refusedAt pl_X0_refusedAt rfl (E_X0_refusedAt (d := d) h)
def B_X0_mostRefusedPair_18 (x2 : Int32) (x1 : Int32) (x3 : Int32) (s : NetS) : Option ((Int32 × Int32) ⊕ (Int32)) := if (gN_tc s) ≤ x3 then (some (.inr (x1))) else (if x2 = x3 then (some (.inl (x1, (x3 + (nI 1))))) else ((F_X0_pairCell x2 x3).bind (fun v6 => (F_X0_refusedAt v6 s).bind (fun v8 => (F_X0_refusedAt x1 s).bind (fun v10 => if v8 ≤ v10 then (some (.inl (x1, (x3 + (nI 1))))) else ((F_X0_pairCell x2 x3).bind (fun v13 => some (.inl (v13, (x3 + (nI 1)))))))))))
set_option maxRecDepth 100000 in
theorem H_X0_mostRefusedPair_18 {d : Nat} {x2 : Int32} {x1 : Int32} {x3 : Int32} {s : NetS} {q : (Int32 × Int32) ⊕ (Int32)} {r0 : Option Value} {mu0 : MMe} (h : B_X0_mostRefusedPair_18 x2 x1 x3 s = some q) (hk : Sum.elim (fun x : Int32 × Int32 => mEv (d + 1) m_X0_mostRefusedPair none (18, [], [some (.ref 0), some (.int x.1), some (.int x2), some (.int x.2)], [], memN s) r0 mu0) (fun z : Int32 => mEv (d + 1) m_X0_mostRefusedPair none (60, [], [some (.ref 0), some (.int z), some (.int x2), none], [], memN s) r0 mu0) q) : mEv (d + 1) m_X0_mostRefusedPair none (18, [], [some (.ref 0), some (.int x1), some (.int x2), some (.int x3)], [], memN s) r0 mu0 := by
  unfold B_X0_mostRefusedPair_18 at h
  refine mEv.br 5 (S1 := (60, [], [some (.ref 0), some (.int x1), some (.int x2), some (.int x3)], [], memN s)) (S2 := (26, _, [some (.ref 0), some (.int x1), some (.int x2), some (.int x3)], [], memN s)) rfl (fun c4 => ?_) (fun c4 => ?_)
  · have h := (if_pos c4).symm.trans h
    refine mEv.fg [3] (z' := [some (.ref 0), some (.int x1), some (.int x2), none]) rfl ?_
    obtain rfl := Option.some.inj h
    exact hk
  · have h := (if_neg c4).symm.trans h
    refine mEv.br 3 (S1 := (54, [], [some (.ref 0), some (.int x1), some (.int x2), some (.int x3)], [], memN s)) (S2 := (31, _, [some (.ref 0), some (.int x1), some (.int x2), some (.int x3)], [], memN s)) rfl (fun c5 => ?_) (fun c5 => ?_)
    · have h := (if_pos c5).symm.trans h
      refine mEv.stp 3 (S' := (18, [], [some (.ref 0), some (.int x1), some (.int x2), some (.int (x3 + (nI 1)))], [], memN s)) rfl ?_
      obtain rfl := Option.some.inj h
      exact hk
    · have h := (if_neg c5).symm.trans h
      refine mEv.stp 3 (S' := (34, _, [some (.ref 0), some (.int x1), some (.int x2), some (.int x3)], [.int x3, .int x2, .ref 0], memN s)) rfl ?_
      obtain ⟨v6, e7, h⟩ := bnd h
      refine mEv.callS (As := [.int x2, .int x3]) (st := [.ref 0]) (r := (some (.int v6))) (μ1 := memN s) lk_X0_60 rfl rfl rfl (A_X0_pairCell (d := d + 0) e7) ?_
      refine mEv.stp 0 (S' := (37, _, [some (.ref 0), some (.int x1), some (.int x2), some (.int x3)], [.int v6, .ref 0], memN s)) rfl ?_
      obtain ⟨v8, e9, h⟩ := bnd h
      refine mEv.callV (As := [.int v6]) (st := []) (h := 0) (r := (some (.int v8))) (μ1 := memN s) lk_X0_141 rfl rfl rfl rfl rfl (A_X0_refusedAt (d := d + 0) e9) ?_
      refine mEv.stp 0 (S' := (40, _, [some (.ref 0), some (.int x1), some (.int x2), some (.int x3)], [.int v8], memN s)) rfl ?_
      refine mEv.stp 2 (S' := (42, _, [some (.ref 0), some (.int x1), some (.int x2), some (.int x3)], [.int x1, .ref 0, .int v8], memN s)) rfl ?_
      obtain ⟨v10, e11, h⟩ := bnd h
      refine mEv.callV (As := [.int x1]) (st := [.int v8]) (h := 0) (r := (some (.int v10))) (μ1 := memN s) lk_X0_141 rfl rfl rfl rfl rfl (A_X0_refusedAt (d := d + 0) e11) ?_
      refine mEv.stp 0 (S' := (45, _, [some (.ref 0), some (.int x1), some (.int x2), some (.int x3)], [.int v10, .int v8], memN s)) rfl ?_
      refine mEv.br 1 (S1 := (54, [], [some (.ref 0), some (.int x1), some (.int x2), some (.int x3)], [], memN s)) (S2 := (48, _, [some (.ref 0), some (.int x1), some (.int x2), some (.int x3)], [], memN s)) rfl (fun c12 => ?_) (fun c12 => ?_)
      · have h := (if_pos c12).symm.trans h
        refine mEv.stp 3 (S' := (18, [], [some (.ref 0), some (.int x1), some (.int x2), some (.int (x3 + (nI 1)))], [], memN s)) rfl ?_
        obtain rfl := Option.some.inj h
        exact hk
      · have h := (if_neg c12).symm.trans h
        refine mEv.stp 2 (S' := (50, _, [some (.ref 0), some (.int x1), some (.int x2), some (.int x3)], [.int x3, .int x2], memN s)) rfl ?_
        obtain ⟨v13, e14, h⟩ := bnd h
        refine mEv.callS (As := [.int x2, .int x3]) (st := []) (r := (some (.int v13))) (μ1 := memN s) lk_X0_60 rfl rfl rfl (A_X0_pairCell (d := d + 0) e14) ?_
        refine mEv.stp 0 (S' := (53, _, [some (.ref 0), some (.int x1), some (.int x2), some (.int x3)], [.int v13], memN s)) rfl ?_
        refine mEv.stp 4 (S' := (18, [], [some (.ref 0), some (.int v13), some (.int x2), some (.int (x3 + (nI 1)))], [], memN s)) rfl ?_
        obtain rfl := Option.some.inj h
        exact hk
def B_X0_mostRefusedPair_8 (x1 : Int32) (x2 : Int32) (s : NetS) : Option ((Int32 × Int32) ⊕ (Int32)) := if (gN_tc s) ≤ x2 then (some (.inr (x1))) else ((mWh (fun x => B_X0_mostRefusedPair_18 x2 x.1 x.2 s) fuel0 (x1, (nI 0))).bind (fun z15 => some (.inl (z15, (x2 + (nI 1))))))
set_option maxRecDepth 100000 in
theorem H_X0_mostRefusedPair_8 {d : Nat} {x1 : Int32} {x2 : Int32} {s : NetS} {q : (Int32 × Int32) ⊕ (Int32)} {r0 : Option Value} {mu0 : MMe} (h : B_X0_mostRefusedPair_8 x1 x2 s = some q) (hk : Sum.elim (fun x : Int32 × Int32 => mEv (d + 1) m_X0_mostRefusedPair none (8, [], [some (.ref 0), some (.int x.1), some (.int x.2), none], [], memN s) r0 mu0) (fun z : Int32 => mEv (d + 1) m_X0_mostRefusedPair none (66, [], [none, some (.int z), none, none], [], memN s) r0 mu0) q) : mEv (d + 1) m_X0_mostRefusedPair none (8, [], [some (.ref 0), some (.int x1), some (.int x2), none], [], memN s) r0 mu0 := by
  unfold B_X0_mostRefusedPair_8 at h
  refine mEv.br 5 (S1 := (66, [], [some (.ref 0), some (.int x1), some (.int x2), none], [], memN s)) (S2 := (16, _, [some (.ref 0), some (.int x1), some (.int x2), none], [], memN s)) rfl (fun c3 => ?_) (fun c3 => ?_)
  · have h := (if_pos c3).symm.trans h
    refine mEv.fg [0, 2] (z' := [none, some (.int x1), none, none]) rfl ?_
    obtain rfl := Option.some.inj h
    exact hk
  · have h := (if_neg c3).symm.trans h
    refine mEv.stp 2 (S' := (18, [], [some (.ref 0), some (.int x1), some (.int x2), some (.int (nI 0))], [], memN s)) rfl ?_
    obtain ⟨z15, e16, h⟩ := bnd h
    refine mWh_ind (b := (fun x => B_X0_mostRefusedPair_18 x2 x.1 x.2 s)) (P := fun x : Int32 × Int32 => mEv (d + 1) m_X0_mostRefusedPair none (18, [], [some (.ref 0), some (.int x.1), some (.int x2), some (.int x.2)], [], memN s) r0 mu0) (K := fun z : Int32 => mEv (d + 1) m_X0_mostRefusedPair none (60, [], [some (.ref 0), some (.int z), some (.int x2), none], [], memN s) r0 mu0) (fun x u hq hk => H_X0_mostRefusedPair_18 (d := d) (x2 := x2) (x1 := x.1) (x3 := x.2) (s := s) (q := u) (r0 := r0) (mu0 := mu0) hq hk) fuel0 (x1, (nI 0)) z15 e16 ?_
    refine mEv.stp 0 (S' := (60, [], [some (.ref 0), some (.int z15), some (.int x2), none], [], memN s)) rfl ?_
    refine mEv.stp 3 (S' := (8, [], [some (.ref 0), some (.int z15), some (.int (x2 + (nI 1))), none], [], memN s)) rfl ?_
    obtain rfl := Option.some.inj h
    exact hk
def F_X0_mostRefusedPair  (s : NetS) : Option (Int32) := (F_X0_pairCell (nI 0) (nI 1)).bind (fun v1 => (mWh (fun x => B_X0_mostRefusedPair_8 x.1 x.2 s) fuel0 (v1, (nI 0))).bind (fun z17 => some (z17)))
set_option maxRecDepth 100000 in
theorem E_X0_mostRefusedPair {d : Nat}  {s : NetS} {q : Int32} (h : F_X0_mostRefusedPair s = some q) : mEv (d + 1) m_X0_mostRefusedPair none (0, [], [some (.ref 0), none, none, none], [], memN s) (some (Value.int q)) (memN s) := by
  unfold F_X0_mostRefusedPair at h
  refine mEv.stp 3 (S' := (2, _, [some (.ref 0), none, none, none], [.int (nI 1), .int (nI 0)], memN s)) rfl ?_
  obtain ⟨v1, e2, h⟩ := bnd h
  refine mEv.callS (As := [.int (nI 0), .int (nI 1)]) (st := []) (r := (some (.int v1))) (μ1 := memN s) lk_X0_60 rfl rfl rfl (A_X0_pairCell (d := d + 0) e2) ?_
  refine mEv.stp 0 (S' := (5, _, [some (.ref 0), none, none, none], [.int v1], memN s)) rfl ?_
  refine mEv.stp 3 (S' := (8, [], [some (.ref 0), some (.int v1), some (.int (nI 0)), none], [], memN s)) rfl ?_
  obtain ⟨z17, e18, h⟩ := bnd h
  refine mWh_ind (b := (fun x => B_X0_mostRefusedPair_8 x.1 x.2 s)) (P := fun x : Int32 × Int32 => mEv (d + 1) m_X0_mostRefusedPair none (8, [], [some (.ref 0), some (.int x.1), some (.int x.2), none], [], memN s) (some (Value.int q)) (memN s)) (K := fun z : Int32 => mEv (d + 1) m_X0_mostRefusedPair none (66, [], [none, some (.int z), none, none], [], memN s) (some (Value.int q)) (memN s)) (fun x u hq hk => H_X0_mostRefusedPair_8 (d := d) (x1 := x.1) (x2 := x.2) (s := s) (q := u) (r0 := (some (Value.int q))) (mu0 := (memN s)) hq hk) fuel0 (v1, (nI 0)) z17 e18 ?_
  refine mEv.stp 0 (S' := (66, [], [none, some (.int z17), none, none], [], memN s)) rfl ?_
  obtain rfl := Option.some.inj h
  exact mEv.stp 2 (S' := (67, _, [none, some (.int z17), none, none], [.int z17], memN s)) rfl (mEv.reti ⟨_, rfl, rfl⟩)
theorem A_X0_mostRefusedPair {d : Nat}  {s : NetS} {q : Int32} (h : F_X0_mostRefusedPair s = some q) : mCall (d + 1) m_X0_mostRefusedPair [.ref 0] (memN s) (some (Value.int q)) (memN s) := mCall.intro ok_X0_mostRefusedPair pl_X0_mostRefusedPair rfl (E_X0_mostRefusedPair (d := d) h)
def B_X0_scarcestLink_20 (x2 : Int32) (x1 : Int32) (x3 : Int32) (s : NetS) : Option ((Int32 × Int32) ⊕ (Int32)) := if (gN_tc s) ≤ x3 then (some (.inr (x1))) else ((F_X0_linkCell x2 x3).bind (fun v5 => (F_X0_freeWires v5 s).bind (fun v7 => (F_X0_freeWires x1 s).bind (fun v9 => if v9 ≤ v7 then (some (.inl (x1, (x3 + (nI 1))))) else ((F_X0_linkCell x2 x3).bind (fun v12 => some (.inl (v12, (x3 + (nI 1))))))))))
set_option maxRecDepth 100000 in
theorem H_X0_scarcestLink_20 {d : Nat} {x2 : Int32} {x1 : Int32} {x3 : Int32} {s : NetS} {q : (Int32 × Int32) ⊕ (Int32)} {r0 : Option Value} {mu0 : MMe} (h : B_X0_scarcestLink_20 x2 x1 x3 s = some q) (hk : Sum.elim (fun x : Int32 × Int32 => mEv (d + 1) m_X0_scarcestLink none (20, [], [some (.ref 0), some (.int x.1), some (.int x2), some (.int x.2)], [], memN s) r0 mu0) (fun z : Int32 => mEv (d + 1) m_X0_scarcestLink none (57, [], [some (.ref 0), some (.int z), some (.int x2), none], [], memN s) r0 mu0) q) : mEv (d + 1) m_X0_scarcestLink none (20, [], [some (.ref 0), some (.int x1), some (.int x2), some (.int x3)], [], memN s) r0 mu0 := by
  unfold B_X0_scarcestLink_20 at h
  refine mEv.br 5 (S1 := (57, [], [some (.ref 0), some (.int x1), some (.int x2), some (.int x3)], [], memN s)) (S2 := (28, _, [some (.ref 0), some (.int x1), some (.int x2), some (.int x3)], [], memN s)) rfl (fun c4 => ?_) (fun c4 => ?_)
  · have h := (if_pos c4).symm.trans h
    refine mEv.fg [3] (z' := [some (.ref 0), some (.int x1), some (.int x2), none]) rfl ?_
    obtain rfl := Option.some.inj h
    exact hk
  · have h := (if_neg c4).symm.trans h
    refine mEv.stp 3 (S' := (31, _, [some (.ref 0), some (.int x1), some (.int x2), some (.int x3)], [.int x3, .int x2, .ref 0], memN s)) rfl ?_
    obtain ⟨v5, e6, h⟩ := bnd h
    refine mEv.callS (As := [.int x2, .int x3]) (st := [.ref 0]) (r := (some (.int v5))) (μ1 := memN s) lk_X0_73 rfl rfl rfl (A_X0_linkCell (d := d + 0) e6) ?_
    refine mEv.stp 0 (S' := (34, _, [some (.ref 0), some (.int x1), some (.int x2), some (.int x3)], [.int v5, .ref 0], memN s)) rfl ?_
    obtain ⟨v7, e8, h⟩ := bnd h
    refine mEv.callV (As := [.int v5]) (st := []) (h := 0) (r := (some (.int v7))) (μ1 := memN s) lk_X0_76 rfl rfl rfl rfl rfl (A_X0_freeWires (d := d + 0) e8) ?_
    refine mEv.stp 0 (S' := (37, _, [some (.ref 0), some (.int x1), some (.int x2), some (.int x3)], [.int v7], memN s)) rfl ?_
    refine mEv.stp 2 (S' := (39, _, [some (.ref 0), some (.int x1), some (.int x2), some (.int x3)], [.int x1, .ref 0, .int v7], memN s)) rfl ?_
    obtain ⟨v9, e10, h⟩ := bnd h
    refine mEv.callV (As := [.int x1]) (st := [.int v7]) (h := 0) (r := (some (.int v9))) (μ1 := memN s) lk_X0_76 rfl rfl rfl rfl rfl (A_X0_freeWires (d := d + 0) e10) ?_
    refine mEv.stp 0 (S' := (42, _, [some (.ref 0), some (.int x1), some (.int x2), some (.int x3)], [.int v9, .int v7], memN s)) rfl ?_
    refine mEv.br 1 (S1 := (51, [], [some (.ref 0), some (.int x1), some (.int x2), some (.int x3)], [], memN s)) (S2 := (45, _, [some (.ref 0), some (.int x1), some (.int x2), some (.int x3)], [], memN s)) rfl (fun c11 => ?_) (fun c11 => ?_)
    · have h := (if_pos c11).symm.trans h
      refine mEv.stp 3 (S' := (20, [], [some (.ref 0), some (.int x1), some (.int x2), some (.int (x3 + (nI 1)))], [], memN s)) rfl ?_
      obtain rfl := Option.some.inj h
      exact hk
    · have h := (if_neg c11).symm.trans h
      refine mEv.stp 2 (S' := (47, _, [some (.ref 0), some (.int x1), some (.int x2), some (.int x3)], [.int x3, .int x2], memN s)) rfl ?_
      obtain ⟨v12, e13, h⟩ := bnd h
      refine mEv.callS (As := [.int x2, .int x3]) (st := []) (r := (some (.int v12))) (μ1 := memN s) lk_X0_73 rfl rfl rfl (A_X0_linkCell (d := d + 0) e13) ?_
      refine mEv.stp 0 (S' := (50, _, [some (.ref 0), some (.int x1), some (.int x2), some (.int x3)], [.int v12], memN s)) rfl ?_
      refine mEv.stp 4 (S' := (20, [], [some (.ref 0), some (.int v12), some (.int x2), some (.int (x3 + (nI 1)))], [], memN s)) rfl ?_
      obtain rfl := Option.some.inj h
      exact hk
def B_X0_scarcestLink_8 (x1 : Int32) (x2 : Int32) (s : NetS) : Option ((Int32 × Int32) ⊕ (Int32)) := if (gN_tc s) ≤ x2 then (some (.inr (x1))) else ((mWh (fun x => B_X0_scarcestLink_20 x2 x.1 x.2 s) fuel0 (x1, (x2 + (nI 1)))).bind (fun z14 => some (.inl (z14, (x2 + (nI 1))))))
set_option maxRecDepth 100000 in
theorem H_X0_scarcestLink_8 {d : Nat} {x1 : Int32} {x2 : Int32} {s : NetS} {q : (Int32 × Int32) ⊕ (Int32)} {r0 : Option Value} {mu0 : MMe} (h : B_X0_scarcestLink_8 x1 x2 s = some q) (hk : Sum.elim (fun x : Int32 × Int32 => mEv (d + 1) m_X0_scarcestLink none (8, [], [some (.ref 0), some (.int x.1), some (.int x.2), none], [], memN s) r0 mu0) (fun z : Int32 => mEv (d + 1) m_X0_scarcestLink none (63, [], [none, some (.int z), none, none], [], memN s) r0 mu0) q) : mEv (d + 1) m_X0_scarcestLink none (8, [], [some (.ref 0), some (.int x1), some (.int x2), none], [], memN s) r0 mu0 := by
  unfold B_X0_scarcestLink_8 at h
  refine mEv.br 5 (S1 := (63, [], [some (.ref 0), some (.int x1), some (.int x2), none], [], memN s)) (S2 := (16, _, [some (.ref 0), some (.int x1), some (.int x2), none], [], memN s)) rfl (fun c3 => ?_) (fun c3 => ?_)
  · have h := (if_pos c3).symm.trans h
    refine mEv.fg [0, 2] (z' := [none, some (.int x1), none, none]) rfl ?_
    obtain rfl := Option.some.inj h
    exact hk
  · have h := (if_neg c3).symm.trans h
    refine mEv.stp 4 (S' := (20, [], [some (.ref 0), some (.int x1), some (.int x2), some (.int (x2 + (nI 1)))], [], memN s)) rfl ?_
    obtain ⟨z14, e15, h⟩ := bnd h
    refine mWh_ind (b := (fun x => B_X0_scarcestLink_20 x2 x.1 x.2 s)) (P := fun x : Int32 × Int32 => mEv (d + 1) m_X0_scarcestLink none (20, [], [some (.ref 0), some (.int x.1), some (.int x2), some (.int x.2)], [], memN s) r0 mu0) (K := fun z : Int32 => mEv (d + 1) m_X0_scarcestLink none (57, [], [some (.ref 0), some (.int z), some (.int x2), none], [], memN s) r0 mu0) (fun x u hq hk => H_X0_scarcestLink_20 (d := d) (x2 := x2) (x1 := x.1) (x3 := x.2) (s := s) (q := u) (r0 := r0) (mu0 := mu0) hq hk) fuel0 (x1, (x2 + (nI 1))) z14 e15 ?_
    refine mEv.stp 0 (S' := (57, [], [some (.ref 0), some (.int z14), some (.int x2), none], [], memN s)) rfl ?_
    refine mEv.stp 3 (S' := (8, [], [some (.ref 0), some (.int z14), some (.int (x2 + (nI 1))), none], [], memN s)) rfl ?_
    obtain rfl := Option.some.inj h
    exact hk
def F_X0_scarcestLink  (s : NetS) : Option (Int32) := (F_X0_linkCell (nI 0) (nI 1)).bind (fun v1 => (mWh (fun x => B_X0_scarcestLink_8 x.1 x.2 s) fuel0 (v1, (nI 0))).bind (fun z16 => some (z16)))
set_option maxRecDepth 100000 in
theorem E_X0_scarcestLink {d : Nat}  {s : NetS} {q : Int32} (h : F_X0_scarcestLink s = some q) : mEv (d + 1) m_X0_scarcestLink none (0, [], [some (.ref 0), none, none, none], [], memN s) (some (Value.int q)) (memN s) := by
  unfold F_X0_scarcestLink at h
  refine mEv.stp 3 (S' := (2, _, [some (.ref 0), none, none, none], [.int (nI 1), .int (nI 0)], memN s)) rfl ?_
  obtain ⟨v1, e2, h⟩ := bnd h
  refine mEv.callS (As := [.int (nI 0), .int (nI 1)]) (st := []) (r := (some (.int v1))) (μ1 := memN s) lk_X0_73 rfl rfl rfl (A_X0_linkCell (d := d + 0) e2) ?_
  refine mEv.stp 0 (S' := (5, _, [some (.ref 0), none, none, none], [.int v1], memN s)) rfl ?_
  refine mEv.stp 3 (S' := (8, [], [some (.ref 0), some (.int v1), some (.int (nI 0)), none], [], memN s)) rfl ?_
  obtain ⟨z16, e17, h⟩ := bnd h
  refine mWh_ind (b := (fun x => B_X0_scarcestLink_8 x.1 x.2 s)) (P := fun x : Int32 × Int32 => mEv (d + 1) m_X0_scarcestLink none (8, [], [some (.ref 0), some (.int x.1), some (.int x.2), none], [], memN s) (some (Value.int q)) (memN s)) (K := fun z : Int32 => mEv (d + 1) m_X0_scarcestLink none (63, [], [none, some (.int z), none, none], [], memN s) (some (Value.int q)) (memN s)) (fun x u hq hk => H_X0_scarcestLink_8 (d := d) (x1 := x.1) (x2 := x.2) (s := s) (q := u) (r0 := (some (Value.int q))) (mu0 := (memN s)) hq hk) fuel0 (v1, (nI 0)) z16 e17 ?_
  refine mEv.stp 0 (S' := (63, [], [none, some (.int z16), none, none], [], memN s)) rfl ?_
  obtain rfl := Option.some.inj h
  exact mEv.stp 2 (S' := (64, _, [none, some (.int z16), none, none], [.int z16], memN s)) rfl (mEv.reti ⟨_, rfl, rfl⟩)
theorem A_X0_scarcestLink {d : Nat}  {s : NetS} {q : Int32} (h : F_X0_scarcestLink s = some q) : mCall (d + 1) m_X0_scarcestLink [.ref 0] (memN s) (some (Value.int q)) (memN s) := mCall.intro ok_X0_scarcestLink pl_X0_scarcestLink rfl (E_X0_scarcestLink (d := d) h)
def B_X0_mixLinks_20 (x5 : Int32) (x3 : Int64) (x6 : Int32) (s : NetS) : Option ((Int64 × Int32) ⊕ (Int64)) := if (gN_tc s) ≤ x6 then (some (.inr (x3))) else ((F_X0_linkCell x5 x6).bind (fun v3 => gI v3 36 (gI v3 36 ((F_X0_freeWires v3 s).bind (fun v7 => some (.inl ((((lN 31) * (((lN 31) * (((lN 31) * x3) + (Int32.toInt64 ((gN_w s) (Int32.toNatClampNeg v3))))) + (Int32.toInt64 ((gN_r s) (Int32.toNatClampNeg v3))))) + (Int32.toInt64 v7)), (x6 + (nI 1)))))))))
set_option maxRecDepth 100000 in
theorem H_X0_mixLinks_20 {d : Nat} {x5 : Int32} {x3 : Int64} {x6 : Int32} {s : NetS} {q : (Int64 × Int32) ⊕ (Int64)} {r0 : Option Value} {mu0 : MMe} (h : B_X0_mixLinks_20 x5 x3 x6 s = some q) (hk : Sum.elim (fun x : Int64 × Int32 => mEv (d + 1) m_X0_mixLinks none (20, [], [some (.ref 0), none, none, some (.long x.1), none, some (.int x5), some (.int x.2), none], [], memN s) r0 mu0) (fun z : Int64 => mEv (d + 1) m_X0_mixLinks none (88, [], [some (.ref 0), none, none, some (.long z), none, some (.int x5), none, none], [], memN s) r0 mu0) q) : mEv (d + 1) m_X0_mixLinks none (20, [], [some (.ref 0), none, none, some (.long x3), none, some (.int x5), some (.int x6), none], [], memN s) r0 mu0 := by
  unfold B_X0_mixLinks_20 at h
  refine mEv.br 5 (S1 := (88, [], [some (.ref 0), none, none, some (.long x3), none, some (.int x5), some (.int x6), none], [], memN s)) (S2 := (29, _, [some (.ref 0), none, none, some (.long x3), none, some (.int x5), some (.int x6), none], [], memN s)) rfl (fun c2 => ?_) (fun c2 => ?_)
  · have h := (if_pos c2).symm.trans h
    refine mEv.fg [6] (z' := [some (.ref 0), none, none, some (.long x3), none, some (.int x5), none, none]) rfl ?_
    obtain rfl := Option.some.inj h
    exact hk
  · have h := (if_neg c2).symm.trans h
    refine mEv.stp 2 (S' := (33, _, [some (.ref 0), none, none, some (.long x3), none, some (.int x5), some (.int x6), none], [.int x6, .int x5], memN s)) rfl ?_
    obtain ⟨v3, e4, h⟩ := bnd h
    refine mEv.callS (As := [.int x5, .int x6]) (st := []) (r := (some (.int v3))) (μ1 := memN s) lk_X0_73 rfl rfl rfl (A_X0_linkCell (d := d + 0) e4) ?_
    refine mEv.stp 0 (S' := (36, _, [some (.ref 0), none, none, some (.long x3), none, some (.int x5), some (.int x6), none], [.int v3], memN s)) rfl ?_
    obtain ⟨g5, h⟩ := gI_some h
    refine mEv.gd 8 (S' := (50, _, [some (.ref 0), none, none, some (.long x3), none, some (.int x5), some (.int x6), some (.int v3)], [.int ((gN_w s) (Int32.toNatClampNeg v3)), .long ((lN 31) * x3)], memN s)) rfl g5 ?_
    obtain ⟨g6, h⟩ := gI_some h
    refine mEv.gd 10 (S' := (65, _, [some (.ref 0), none, none, some (.long (((lN 31) * x3) + (Int32.toInt64 ((gN_w s) (Int32.toNatClampNeg v3))))), none, some (.int x5), some (.int x6), some (.int v3)], [.int ((gN_r s) (Int32.toNatClampNeg v3)), .long ((lN 31) * (((lN 31) * x3) + (Int32.toInt64 ((gN_w s) (Int32.toNatClampNeg v3)))))], memN s)) rfl g6 ?_
    refine mEv.stp 8 (S' := (76, _, [some (.ref 0), none, none, some (.long (((lN 31) * (((lN 31) * x3) + (Int32.toInt64 ((gN_w s) (Int32.toNatClampNeg v3))))) + (Int32.toInt64 ((gN_r s) (Int32.toNatClampNeg v3))))), none, some (.int x5), some (.int x6), some (.int v3)], [.int v3, .ref 0, .long ((lN 31) * (((lN 31) * (((lN 31) * x3) + (Int32.toInt64 ((gN_w s) (Int32.toNatClampNeg v3))))) + (Int32.toInt64 ((gN_r s) (Int32.toNatClampNeg v3)))))], memN s)) rfl ?_
    obtain ⟨v7, e8, h⟩ := bnd h
    refine mEv.callV (As := [.int v3]) (st := [.long ((lN 31) * (((lN 31) * (((lN 31) * x3) + (Int32.toInt64 ((gN_w s) (Int32.toNatClampNeg v3))))) + (Int32.toInt64 ((gN_r s) (Int32.toNatClampNeg v3)))))]) (h := 0) (r := (some (.int v7))) (μ1 := memN s) lk_X0_76 rfl rfl rfl rfl rfl (A_X0_freeWires (d := d + 0) e8) ?_
    refine mEv.stp 0 (S' := (79, _, [some (.ref 0), none, none, some (.long (((lN 31) * (((lN 31) * x3) + (Int32.toInt64 ((gN_w s) (Int32.toNatClampNeg v3))))) + (Int32.toInt64 ((gN_r s) (Int32.toNatClampNeg v3))))), none, some (.int x5), some (.int x6), some (.int v3)], [.int v7, .long ((lN 31) * (((lN 31) * (((lN 31) * x3) + (Int32.toInt64 ((gN_w s) (Int32.toNatClampNeg v3))))) + (Int32.toInt64 ((gN_r s) (Int32.toNatClampNeg v3)))))], memN s)) rfl ?_
    refine mEv.stp 5 (S' := (20, [], [some (.ref 0), none, none, some (.long (((lN 31) * (((lN 31) * (((lN 31) * x3) + (Int32.toInt64 ((gN_w s) (Int32.toNatClampNeg v3))))) + (Int32.toInt64 ((gN_r s) (Int32.toNatClampNeg v3))))) + (Int32.toInt64 v7))), none, some (.int x5), some (.int (x6 + (nI 1))), some (.int v3)], [], memN s)) rfl ?_
    refine mEv.fg [7] (z' := [some (.ref 0), none, none, some (.long (((lN 31) * (((lN 31) * (((lN 31) * x3) + (Int32.toInt64 ((gN_w s) (Int32.toNatClampNeg v3))))) + (Int32.toInt64 ((gN_r s) (Int32.toNatClampNeg v3))))) + (Int32.toInt64 v7))), none, some (.int x5), some (.int (x6 + (nI 1))), none]) rfl ?_
    obtain rfl := Option.some.inj h
    exact hk
def B_X0_mixLinks_5 (x3 : Int64) (x5 : Int32) (s : NetS) : Option ((Int64 × Int32) ⊕ (Int64)) := if (gN_tc s) ≤ x5 then (some (.inr (x3))) else ((mWh (fun x => B_X0_mixLinks_20 x5 x.1 x.2 s) fuel0 (x3, (x5 + (nI 1)))).bind (fun z9 => some (.inl (z9, (x5 + (nI 1))))))
set_option maxRecDepth 100000 in
theorem H_X0_mixLinks_5 {d : Nat} {x3 : Int64} {x5 : Int32} {s : NetS} {q : (Int64 × Int32) ⊕ (Int64)} {r0 : Option Value} {mu0 : MMe} (h : B_X0_mixLinks_5 x3 x5 s = some q) (hk : Sum.elim (fun x : Int64 × Int32 => mEv (d + 1) m_X0_mixLinks none (5, [], [some (.ref 0), none, none, some (.long x.1), none, some (.int x.2), none, none], [], memN s) r0 mu0) (fun z : Int64 => mEv (d + 1) m_X0_mixLinks none (94, [], [none, none, none, some (.long z), none, none, none, none], [], memN s) r0 mu0) q) : mEv (d + 1) m_X0_mixLinks none (5, [], [some (.ref 0), none, none, some (.long x3), none, some (.int x5), none, none], [], memN s) r0 mu0 := by
  unfold B_X0_mixLinks_5 at h
  refine mEv.br 5 (S1 := (94, [], [some (.ref 0), none, none, some (.long x3), none, some (.int x5), none, none], [], memN s)) (S2 := (14, _, [some (.ref 0), none, none, some (.long x3), none, some (.int x5), none, none], [], memN s)) rfl (fun c1 => ?_) (fun c1 => ?_)
  · have h := (if_pos c1).symm.trans h
    refine mEv.fg [0, 5] (z' := [none, none, none, some (.long x3), none, none, none, none]) rfl ?_
    obtain rfl := Option.some.inj h
    exact hk
  · have h := (if_neg c1).symm.trans h
    refine mEv.stp 4 (S' := (20, [], [some (.ref 0), none, none, some (.long x3), none, some (.int x5), some (.int (x5 + (nI 1))), none], [], memN s)) rfl ?_
    obtain ⟨z9, e10, h⟩ := bnd h
    refine mWh_ind (b := (fun x => B_X0_mixLinks_20 x5 x.1 x.2 s)) (P := fun x : Int64 × Int32 => mEv (d + 1) m_X0_mixLinks none (20, [], [some (.ref 0), none, none, some (.long x.1), none, some (.int x5), some (.int x.2), none], [], memN s) r0 mu0) (K := fun z : Int64 => mEv (d + 1) m_X0_mixLinks none (88, [], [some (.ref 0), none, none, some (.long z), none, some (.int x5), none, none], [], memN s) r0 mu0) (fun x u hq hk => H_X0_mixLinks_20 (d := d) (x5 := x5) (x3 := x.1) (x6 := x.2) (s := s) (q := u) (r0 := r0) (mu0 := mu0) hq hk) fuel0 (x3, (x5 + (nI 1))) z9 e10 ?_
    refine mEv.stp 0 (S' := (88, [], [some (.ref 0), none, none, some (.long z9), none, some (.int x5), none, none], [], memN s)) rfl ?_
    refine mEv.stp 3 (S' := (5, [], [some (.ref 0), none, none, some (.long z9), none, some (.int (x5 + (nI 1))), none, none], [], memN s)) rfl ?_
    obtain rfl := Option.some.inj h
    exact hk
def F_X0_mixLinks (p1 : Int64) (s : NetS) : Option (Int64) := (mWh (fun x => B_X0_mixLinks_5 x.1 x.2 s) fuel0 (p1, (nI 0))).bind (fun z11 => some (z11))
set_option maxRecDepth 100000 in
theorem E_X0_mixLinks {d : Nat} {p1 : Int64} {s : NetS} {q : Int64} (h : F_X0_mixLinks p1 s = some q) : mEv (d + 1) m_X0_mixLinks none (0, [], [some (.ref 0), some (.long p1), none, none, none, none, none, none], [], memN s) (some (Value.long q)) (memN s) := by
  unfold F_X0_mixLinks at h
  refine mEv.stp 5 (S' := (5, [], [some (.ref 0), some (.long p1), none, some (.long p1), none, some (.int (nI 0)), none, none], [], memN s)) rfl ?_
  refine mEv.fg [1] (z' := [some (.ref 0), none, none, some (.long p1), none, some (.int (nI 0)), none, none]) rfl ?_
  obtain ⟨z11, e12, h⟩ := bnd h
  refine mWh_ind (b := (fun x => B_X0_mixLinks_5 x.1 x.2 s)) (P := fun x : Int64 × Int32 => mEv (d + 1) m_X0_mixLinks none (5, [], [some (.ref 0), none, none, some (.long x.1), none, some (.int x.2), none, none], [], memN s) (some (Value.long q)) (memN s)) (K := fun z : Int64 => mEv (d + 1) m_X0_mixLinks none (94, [], [none, none, none, some (.long z), none, none, none, none], [], memN s) (some (Value.long q)) (memN s)) (fun x u hq hk => H_X0_mixLinks_5 (d := d) (x3 := x.1) (x5 := x.2) (s := s) (q := u) (r0 := (some (Value.long q))) (mu0 := (memN s)) hq hk) fuel0 (p1, (nI 0)) z11 e12 ?_
  refine mEv.stp 0 (S' := (94, [], [none, none, none, some (.long z11), none, none, none, none], [], memN s)) rfl ?_
  obtain rfl := Option.some.inj h
  exact mEv.stp 2 (S' := (95, _, [none, none, none, some (.long z11), none, none, none, none], [.long z11], memN s)) rfl (mEv.retl rfl)
theorem A_X0_mixLinks {d : Nat} {p1 : Int64} {s : NetS} {q : Int64} (h : F_X0_mixLinks p1 s = some q) : mCall (d + 1) m_X0_mixLinks [.ref 0, .long p1] (memN s) (some (Value.long q)) (memN s) := mCall.intro ok_X0_mixLinks pl_X0_mixLinks rfl (E_X0_mixLinks (d := d) h)
def B_X0_mixPairs_17 (x5 : Int32) (x3 : Int64) (x6 : Int32) (s : NetS) : Option ((Int64 × Int32) ⊕ (Int64)) := if (gN_tc s) ≤ x6 then (some (.inr (x3))) else (if x5 = x6 then (some (.inl (x3, (x6 + (nI 1))))) else ((F_X0_pairCell x5 x6).bind (fun v4 => gI v4 36 ((F_X0_pairCell x5 x6).bind (fun v7 => (F_X0_refusedAt v7 s).bind (fun v9 => some (.inl ((((lN 31) * (((lN 31) * x3) + (Int32.toInt64 ((gN_st s) (Int32.toNatClampNeg v4))))) + (Int32.toInt64 v9)), (x6 + (nI 1))))))))))
set_option maxRecDepth 100000 in
theorem H_X0_mixPairs_17 {d : Nat} {x5 : Int32} {x3 : Int64} {x6 : Int32} {s : NetS} {q : (Int64 × Int32) ⊕ (Int64)} {r0 : Option Value} {mu0 : MMe} (h : B_X0_mixPairs_17 x5 x3 x6 s = some q) (hk : Sum.elim (fun x : Int64 × Int32 => mEv (d + 1) m_X0_mixPairs none (17, [], [some (.ref 0), none, none, some (.long x.1), none, some (.int x5), some (.int x.2)], [], memN s) r0 mu0) (fun z : Int64 => mEv (d + 1) m_X0_mixPairs none (78, [], [some (.ref 0), none, none, some (.long z), none, some (.int x5), none], [], memN s) r0 mu0) q) : mEv (d + 1) m_X0_mixPairs none (17, [], [some (.ref 0), none, none, some (.long x3), none, some (.int x5), some (.int x6)], [], memN s) r0 mu0 := by
  unfold B_X0_mixPairs_17 at h
  refine mEv.br 5 (S1 := (78, [], [some (.ref 0), none, none, some (.long x3), none, some (.int x5), some (.int x6)], [], memN s)) (S2 := (26, _, [some (.ref 0), none, none, some (.long x3), none, some (.int x5), some (.int x6)], [], memN s)) rfl (fun c2 => ?_) (fun c2 => ?_)
  · have h := (if_pos c2).symm.trans h
    refine mEv.fg [6] (z' := [some (.ref 0), none, none, some (.long x3), none, some (.int x5), none]) rfl ?_
    obtain rfl := Option.some.inj h
    exact hk
  · have h := (if_neg c2).symm.trans h
    refine mEv.br 3 (S1 := (72, [], [some (.ref 0), none, none, some (.long x3), none, some (.int x5), some (.int x6)], [], memN s)) (S2 := (33, _, [some (.ref 0), none, none, some (.long x3), none, some (.int x5), some (.int x6)], [], memN s)) rfl (fun c3 => ?_) (fun c3 => ?_)
    · have h := (if_pos c3).symm.trans h
      refine mEv.stp 3 (S' := (17, [], [some (.ref 0), none, none, some (.long x3), none, some (.int x5), some (.int (x6 + (nI 1)))], [], memN s)) rfl ?_
      obtain rfl := Option.some.inj h
      exact hk
    · have h := (if_neg c3).symm.trans h
      refine mEv.stp 7 (S' := (46, _, [some (.ref 0), none, none, some (.long x3), none, some (.int x5), some (.int x6)], [.int x6, .int x5, .ref 4, .long ((lN 31) * x3)], memN s)) rfl ?_
      obtain ⟨v4, e5, h⟩ := bnd h
      refine mEv.callS (As := [.int x5, .int x6]) (st := [.ref 4, .long ((lN 31) * x3)]) (r := (some (.int v4))) (μ1 := memN s) lk_X0_60 rfl rfl rfl (A_X0_pairCell (d := d + 0) e5) ?_
      refine mEv.stp 0 (S' := (49, _, [some (.ref 0), none, none, some (.long x3), none, some (.int x5), some (.int x6)], [.int v4, .ref 4, .long ((lN 31) * x3)], memN s)) rfl ?_
      obtain ⟨g6, h⟩ := gI_some h
      refine mEv.gd 1 (S' := (50, _, [some (.ref 0), none, none, some (.long x3), none, some (.int x5), some (.int x6)], [.int ((gN_st s) (Int32.toNatClampNeg v4)), .long ((lN 31) * x3)], memN s)) rfl g6 ?_
      refine mEv.stp 9 (S' := (63, _, [some (.ref 0), none, none, some (.long (((lN 31) * x3) + (Int32.toInt64 ((gN_st s) (Int32.toNatClampNeg v4))))), none, some (.int x5), some (.int x6)], [.int x6, .int x5, .ref 0, .long ((lN 31) * (((lN 31) * x3) + (Int32.toInt64 ((gN_st s) (Int32.toNatClampNeg v4)))))], memN s)) rfl ?_
      obtain ⟨v7, e8, h⟩ := bnd h
      refine mEv.callS (As := [.int x5, .int x6]) (st := [.ref 0, .long ((lN 31) * (((lN 31) * x3) + (Int32.toInt64 ((gN_st s) (Int32.toNatClampNeg v4)))))]) (r := (some (.int v7))) (μ1 := memN s) lk_X0_60 rfl rfl rfl (A_X0_pairCell (d := d + 0) e8) ?_
      refine mEv.stp 0 (S' := (66, _, [some (.ref 0), none, none, some (.long (((lN 31) * x3) + (Int32.toInt64 ((gN_st s) (Int32.toNatClampNeg v4))))), none, some (.int x5), some (.int x6)], [.int v7, .ref 0, .long ((lN 31) * (((lN 31) * x3) + (Int32.toInt64 ((gN_st s) (Int32.toNatClampNeg v4)))))], memN s)) rfl ?_
      obtain ⟨v9, e10, h⟩ := bnd h
      refine mEv.callV (As := [.int v7]) (st := [.long ((lN 31) * (((lN 31) * x3) + (Int32.toInt64 ((gN_st s) (Int32.toNatClampNeg v4)))))]) (h := 0) (r := (some (.int v9))) (μ1 := memN s) lk_X0_141 rfl rfl rfl rfl rfl (A_X0_refusedAt (d := d + 0) e10) ?_
      refine mEv.stp 0 (S' := (69, _, [some (.ref 0), none, none, some (.long (((lN 31) * x3) + (Int32.toInt64 ((gN_st s) (Int32.toNatClampNeg v4))))), none, some (.int x5), some (.int x6)], [.int v9, .long ((lN 31) * (((lN 31) * x3) + (Int32.toInt64 ((gN_st s) (Int32.toNatClampNeg v4)))))], memN s)) rfl ?_
      refine mEv.stp 6 (S' := (17, [], [some (.ref 0), none, none, some (.long (((lN 31) * (((lN 31) * x3) + (Int32.toInt64 ((gN_st s) (Int32.toNatClampNeg v4))))) + (Int32.toInt64 v9))), none, some (.int x5), some (.int (x6 + (nI 1)))], [], memN s)) rfl ?_
      obtain rfl := Option.some.inj h
      exact hk
def B_X0_mixPairs_5 (x3 : Int64) (x5 : Int32) (s : NetS) : Option ((Int64 × Int32) ⊕ (Int64)) := if (gN_tc s) ≤ x5 then (some (.inr (x3))) else ((mWh (fun x => B_X0_mixPairs_17 x5 x.1 x.2 s) fuel0 (x3, (nI 0))).bind (fun z11 => some (.inl (z11, (x5 + (nI 1))))))
set_option maxRecDepth 100000 in
theorem H_X0_mixPairs_5 {d : Nat} {x3 : Int64} {x5 : Int32} {s : NetS} {q : (Int64 × Int32) ⊕ (Int64)} {r0 : Option Value} {mu0 : MMe} (h : B_X0_mixPairs_5 x3 x5 s = some q) (hk : Sum.elim (fun x : Int64 × Int32 => mEv (d + 1) m_X0_mixPairs none (5, [], [some (.ref 0), none, none, some (.long x.1), none, some (.int x.2), none], [], memN s) r0 mu0) (fun z : Int64 => mEv (d + 1) m_X0_mixPairs none (84, [], [none, none, none, some (.long z), none, none, none], [], memN s) r0 mu0) q) : mEv (d + 1) m_X0_mixPairs none (5, [], [some (.ref 0), none, none, some (.long x3), none, some (.int x5), none], [], memN s) r0 mu0 := by
  unfold B_X0_mixPairs_5 at h
  refine mEv.br 5 (S1 := (84, [], [some (.ref 0), none, none, some (.long x3), none, some (.int x5), none], [], memN s)) (S2 := (14, _, [some (.ref 0), none, none, some (.long x3), none, some (.int x5), none], [], memN s)) rfl (fun c1 => ?_) (fun c1 => ?_)
  · have h := (if_pos c1).symm.trans h
    refine mEv.fg [0, 5] (z' := [none, none, none, some (.long x3), none, none, none]) rfl ?_
    obtain rfl := Option.some.inj h
    exact hk
  · have h := (if_neg c1).symm.trans h
    refine mEv.stp 2 (S' := (17, [], [some (.ref 0), none, none, some (.long x3), none, some (.int x5), some (.int (nI 0))], [], memN s)) rfl ?_
    obtain ⟨z11, e12, h⟩ := bnd h
    refine mWh_ind (b := (fun x => B_X0_mixPairs_17 x5 x.1 x.2 s)) (P := fun x : Int64 × Int32 => mEv (d + 1) m_X0_mixPairs none (17, [], [some (.ref 0), none, none, some (.long x.1), none, some (.int x5), some (.int x.2)], [], memN s) r0 mu0) (K := fun z : Int64 => mEv (d + 1) m_X0_mixPairs none (78, [], [some (.ref 0), none, none, some (.long z), none, some (.int x5), none], [], memN s) r0 mu0) (fun x u hq hk => H_X0_mixPairs_17 (d := d) (x5 := x5) (x3 := x.1) (x6 := x.2) (s := s) (q := u) (r0 := r0) (mu0 := mu0) hq hk) fuel0 (x3, (nI 0)) z11 e12 ?_
    refine mEv.stp 0 (S' := (78, [], [some (.ref 0), none, none, some (.long z11), none, some (.int x5), none], [], memN s)) rfl ?_
    refine mEv.stp 3 (S' := (5, [], [some (.ref 0), none, none, some (.long z11), none, some (.int (x5 + (nI 1))), none], [], memN s)) rfl ?_
    obtain rfl := Option.some.inj h
    exact hk
def F_X0_mixPairs (p1 : Int64) (s : NetS) : Option (Int64) := (mWh (fun x => B_X0_mixPairs_5 x.1 x.2 s) fuel0 (p1, (nI 0))).bind (fun z13 => some (z13))
set_option maxRecDepth 100000 in
theorem E_X0_mixPairs {d : Nat} {p1 : Int64} {s : NetS} {q : Int64} (h : F_X0_mixPairs p1 s = some q) : mEv (d + 1) m_X0_mixPairs none (0, [], [some (.ref 0), some (.long p1), none, none, none, none, none], [], memN s) (some (Value.long q)) (memN s) := by
  unfold F_X0_mixPairs at h
  refine mEv.stp 5 (S' := (5, [], [some (.ref 0), some (.long p1), none, some (.long p1), none, some (.int (nI 0)), none], [], memN s)) rfl ?_
  refine mEv.fg [1] (z' := [some (.ref 0), none, none, some (.long p1), none, some (.int (nI 0)), none]) rfl ?_
  obtain ⟨z13, e14, h⟩ := bnd h
  refine mWh_ind (b := (fun x => B_X0_mixPairs_5 x.1 x.2 s)) (P := fun x : Int64 × Int32 => mEv (d + 1) m_X0_mixPairs none (5, [], [some (.ref 0), none, none, some (.long x.1), none, some (.int x.2), none], [], memN s) (some (Value.long q)) (memN s)) (K := fun z : Int64 => mEv (d + 1) m_X0_mixPairs none (84, [], [none, none, none, some (.long z), none, none, none], [], memN s) (some (Value.long q)) (memN s)) (fun x u hq hk => H_X0_mixPairs_5 (d := d) (x3 := x.1) (x5 := x.2) (s := s) (q := u) (r0 := (some (Value.long q))) (mu0 := (memN s)) hq hk) fuel0 (p1, (nI 0)) z13 e14 ?_
  refine mEv.stp 0 (S' := (84, [], [none, none, none, some (.long z13), none, none, none], [], memN s)) rfl ?_
  obtain rfl := Option.some.inj h
  exact mEv.stp 2 (S' := (85, _, [none, none, none, some (.long z13), none, none, none], [.long z13], memN s)) rfl (mEv.retl rfl)
theorem A_X0_mixPairs {d : Nat} {p1 : Int64} {s : NetS} {q : Int64} (h : F_X0_mixPairs p1 s = some q) : mCall (d + 1) m_X0_mixPairs [.ref 0, .long p1] (memN s) (some (Value.long q)) (memN s) := mCall.intro ok_X0_mixPairs pl_X0_mixPairs rfl (E_X0_mixPairs (d := d) h)
def B_X0_mixLoadsAndCalls_5 (x3 : Int64) (x5 : Int32) (s : NetS) : Option ((Int64 × Int32) ⊕ (Int64)) := if (nI 24) ≤ x5 then (some (.inr (x3))) else (gI x5 24 (some (.inl ((((lN 31) * x3) + (Int32.toInt64 ((gN_ld s) (Int32.toNatClampNeg x5)))), (x5 + (nI 1))))))
set_option maxRecDepth 100000 in
theorem H_X0_mixLoadsAndCalls_5 {d : Nat} {x3 : Int64} {x5 : Int32} {s : NetS} {q : (Int64 × Int32) ⊕ (Int64)} {r0 : Option Value} {mu0 : MMe} (h : B_X0_mixLoadsAndCalls_5 x3 x5 s = some q) (hk : Sum.elim (fun x : Int64 × Int32 => mEv d m_X0_mixLoadsAndCalls none (5, [], [some (.ref 0), none, none, some (.long x.1), none, some (.int x.2)], [], memN s) r0 mu0) (fun z : Int64 => mEv d m_X0_mixLoadsAndCalls none (33, [], [some (.ref 0), none, none, some (.long z), none, none], [], memN s) r0 mu0) q) : mEv d m_X0_mixLoadsAndCalls none (5, [], [some (.ref 0), none, none, some (.long x3), none, some (.int x5)], [], memN s) r0 mu0 := by
  unfold B_X0_mixLoadsAndCalls_5 at h
  refine mEv.br 4 (S1 := (33, [], [some (.ref 0), none, none, some (.long x3), none, some (.int x5)], [], memN s)) (S2 := (12, _, [some (.ref 0), none, none, some (.long x3), none, some (.int x5)], [], memN s)) rfl (fun c1 => ?_) (fun c1 => ?_)
  · have h := (if_pos c1).symm.trans h
    refine mEv.fg [5] (z' := [some (.ref 0), none, none, some (.long x3), none, none]) rfl ?_
    obtain rfl := Option.some.inj h
    exact hk
  · have h := (if_neg c1).symm.trans h
    obtain ⟨g2, h⟩ := gI_some h
    refine mEv.gd 7 (S' := (24, _, [some (.ref 0), none, none, some (.long x3), none, some (.int x5)], [.int ((gN_ld s) (Int32.toNatClampNeg x5)), .long ((lN 31) * x3)], memN s)) rfl g2 ?_
    refine mEv.stp 5 (S' := (5, [], [some (.ref 0), none, none, some (.long (((lN 31) * x3) + (Int32.toInt64 ((gN_ld s) (Int32.toNatClampNeg x5))))), none, some (.int (x5 + (nI 1)))], [], memN s)) rfl ?_
    obtain rfl := Option.some.inj h
    exact hk
def B_X0_mixLoadsAndCalls_36 (x3 : Int64) (x5 : Int32) (s : NetS) : Option ((Int64 × Int32) ⊕ (Int64)) := if ((gN_cc s) * (nI 4)) ≤ x5 then (some (.inr (x3))) else (gI x5 320 (some (.inl ((((lN 31) * x3) + (Int32.toInt64 ((gN_ca s) (Int32.toNatClampNeg x5)))), (x5 + (nI 1))))))
set_option maxRecDepth 100000 in
theorem H_X0_mixLoadsAndCalls_36 {d : Nat} {x3 : Int64} {x5 : Int32} {s : NetS} {q : (Int64 × Int32) ⊕ (Int64)} {r0 : Option Value} {mu0 : MMe} (h : B_X0_mixLoadsAndCalls_36 x3 x5 s = some q) (hk : Sum.elim (fun x : Int64 × Int32 => mEv d m_X0_mixLoadsAndCalls none (36, [], [some (.ref 0), none, none, some (.long x.1), none, some (.int x.2)], [], memN s) r0 mu0) (fun z : Int64 => mEv d m_X0_mixLoadsAndCalls none (68, [], [none, none, none, some (.long z), none, none], [], memN s) r0 mu0) q) : mEv d m_X0_mixLoadsAndCalls none (36, [], [some (.ref 0), none, none, some (.long x3), none, some (.int x5)], [], memN s) r0 mu0 := by
  unfold B_X0_mixLoadsAndCalls_36 at h
  refine mEv.br 7 (S1 := (68, [], [some (.ref 0), none, none, some (.long x3), none, some (.int x5)], [], memN s)) (S2 := (47, _, [some (.ref 0), none, none, some (.long x3), none, some (.int x5)], [], memN s)) rfl (fun c5 => ?_) (fun c5 => ?_)
  · have h := (if_pos c5).symm.trans h
    refine mEv.fg [0, 5] (z' := [none, none, none, some (.long x3), none, none]) rfl ?_
    obtain rfl := Option.some.inj h
    exact hk
  · have h := (if_neg c5).symm.trans h
    obtain ⟨g6, h⟩ := gI_some h
    refine mEv.gd 7 (S' := (59, _, [some (.ref 0), none, none, some (.long x3), none, some (.int x5)], [.int ((gN_ca s) (Int32.toNatClampNeg x5)), .long ((lN 31) * x3)], memN s)) rfl g6 ?_
    refine mEv.stp 5 (S' := (36, [], [some (.ref 0), none, none, some (.long (((lN 31) * x3) + (Int32.toInt64 ((gN_ca s) (Int32.toNatClampNeg x5))))), none, some (.int (x5 + (nI 1)))], [], memN s)) rfl ?_
    obtain rfl := Option.some.inj h
    exact hk
def F_X0_mixLoadsAndCalls (p1 : Int64) (s : NetS) : Option (Int64) := (mWh (fun x => B_X0_mixLoadsAndCalls_5 x.1 x.2 s) fuel0 (p1, (nI 0))).bind (fun z3 => (mWh (fun x => B_X0_mixLoadsAndCalls_36 x.1 x.2 s) fuel0 (z3, (nI 0))).bind (fun z7 => some (z7)))
set_option maxRecDepth 100000 in
theorem E_X0_mixLoadsAndCalls {d : Nat} {p1 : Int64} {s : NetS} {q : Int64} (h : F_X0_mixLoadsAndCalls p1 s = some q) : mEv d m_X0_mixLoadsAndCalls none (0, [], [some (.ref 0), some (.long p1), none, none, none, none], [], memN s) (some (Value.long q)) (memN s) := by
  unfold F_X0_mixLoadsAndCalls at h
  refine mEv.stp 5 (S' := (5, [], [some (.ref 0), some (.long p1), none, some (.long p1), none, some (.int (nI 0))], [], memN s)) rfl ?_
  refine mEv.fg [1] (z' := [some (.ref 0), none, none, some (.long p1), none, some (.int (nI 0))]) rfl ?_
  obtain ⟨z3, e4, h⟩ := bnd h
  refine mWh_ind (b := (fun x => B_X0_mixLoadsAndCalls_5 x.1 x.2 s)) (P := fun x : Int64 × Int32 => mEv d m_X0_mixLoadsAndCalls none (5, [], [some (.ref 0), none, none, some (.long x.1), none, some (.int x.2)], [], memN s) (some (Value.long q)) (memN s)) (K := fun z : Int64 => mEv d m_X0_mixLoadsAndCalls none (33, [], [some (.ref 0), none, none, some (.long z), none, none], [], memN s) (some (Value.long q)) (memN s)) (fun x u hq hk => H_X0_mixLoadsAndCalls_5 (d := d) (x3 := x.1) (x5 := x.2) (s := s) (q := u) (r0 := (some (Value.long q))) (mu0 := (memN s)) hq hk) fuel0 (p1, (nI 0)) z3 e4 ?_
  refine mEv.stp 0 (S' := (33, [], [some (.ref 0), none, none, some (.long z3), none, none], [], memN s)) rfl ?_
  refine mEv.stp 3 (S' := (36, [], [some (.ref 0), none, none, some (.long z3), none, some (.int (nI 0))], [], memN s)) rfl ?_
  obtain ⟨z7, e8, h⟩ := bnd h
  refine mWh_ind (b := (fun x => B_X0_mixLoadsAndCalls_36 x.1 x.2 s)) (P := fun x : Int64 × Int32 => mEv d m_X0_mixLoadsAndCalls none (36, [], [some (.ref 0), none, none, some (.long x.1), none, some (.int x.2)], [], memN s) (some (Value.long q)) (memN s)) (K := fun z : Int64 => mEv d m_X0_mixLoadsAndCalls none (68, [], [none, none, none, some (.long z), none, none], [], memN s) (some (Value.long q)) (memN s)) (fun x u hq hk => H_X0_mixLoadsAndCalls_36 (d := d) (x3 := x.1) (x5 := x.2) (s := s) (q := u) (r0 := (some (Value.long q))) (mu0 := (memN s)) hq hk) fuel0 (z3, (nI 0)) z7 e8 ?_
  refine mEv.stp 0 (S' := (68, [], [none, none, none, some (.long z7), none, none], [], memN s)) rfl ?_
  obtain rfl := Option.some.inj h
  exact mEv.stp 2 (S' := (69, _, [none, none, none, some (.long z7), none, none], [.long z7], memN s)) rfl (mEv.retl rfl)
theorem A_X0_mixLoadsAndCalls {d : Nat} {p1 : Int64} {s : NetS} {q : Int64} (h : F_X0_mixLoadsAndCalls p1 s = some q) : mCall d m_X0_mixLoadsAndCalls [.ref 0, .long p1] (memN s) (some (Value.long q)) (memN s) := mCall.intro ok_X0_mixLoadsAndCalls pl_X0_mixLoadsAndCalls rfl (E_X0_mixLoadsAndCalls (d := d) h)
