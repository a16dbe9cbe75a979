def F_X2_within (p0 : Int32) (p1 : Int32) (p2 : Int32)  : Option (Int32) := if p0 < p1 then (some ((nI 0))) else (if p2 < p0 then (some ((nI 0))) else (some ((nI 1))))
set_option maxRecDepth 100000 in
theorem E_X2_within {d : Nat} {p0 : Int32} {p1 : Int32} {p2 : Int32} {μ : MMe} {q : Int32} (h : F_X2_within p0 p1 p2 = some q) : mEv d m_X2_within none (0, [], [some (.int p0), some (.int p1), some (.int p2)], [], μ) (some (Value.int q)) (μ) := by
  unfold F_X2_within at h
  refine mEv.br 4 (S1 := (14, [], [some (.int p0), some (.int p1), some (.int p2)], [], μ)) (S2 := (5, _, [some (.int p0), some (.int p1), some (.int p2)], [], μ)) rfl (fun c1 => ?_) (fun c1 => ?_)
  · have h := (if_pos c1).symm.trans h
    obtain rfl := Option.some.inj h
    exact mEv.stp 3 (S' := (15, _, [some (.int p0), some (.int p1), some (.int p2)], [.int (nI 0)], μ)) rfl (mEv.reti ⟨_, rfl, rfl⟩)
  · have h := (if_neg c1).symm.trans h
    refine mEv.br 3 (S1 := (14, [], [some (.int p0), some (.int p1), some (.int p2)], [], μ)) (S2 := (10, _, [some (.int p0), some (.int p1), some (.int p2)], [], μ)) rfl (fun c2 => ?_) (fun c2 => ?_)
    · have h := (if_pos c2).symm.trans h
      obtain rfl := Option.some.inj h
      exact mEv.stp 3 (S' := (15, _, [some (.int p0), some (.int p1), some (.int p2)], [.int (nI 0)], μ)) rfl (mEv.reti ⟨_, rfl, rfl⟩)
    · have h := (if_neg c2).symm.trans h
      obtain rfl := Option.some.inj h
      exact mEv.stp 3 (S' := (15, _, [some (.int p0), some (.int p1), some (.int p2)], [.int (nI 1)], μ)) rfl (mEv.reti ⟨_, rfl, rfl⟩)
theorem A_X2_within {d : Nat} {p0 : Int32} {p1 : Int32} {p2 : Int32} {μ : MMe} {q : Int32} (h : F_X2_within p0 p1 p2 = some q) : mCall d m_X2_within [.int p0, .int p1, .int p2] (μ) (some (Value.int q)) (μ) := mCall.intro ok_X2_within pl_X2_within rfl (E_X2_within (d := d) h)
def F_X2_refuse (p1 : Int32) (s : RouS) : Option (Int32 × RouS) := if ¬ p1 = (-nI 2) then (if ¬ p1 = (-nI 3) then (some ((p1, (mkR (gR_sc s) (gR_ns s) (gR_bd s) (gR_no s) ((gR_fu s) + (nI 1)) (gR_now s) (gR_tri s) (gR_s0 s) (gR_s1 s) (gR_s2 s) (gR_s3 s) (gR_s4 s) (gR_txt s))))) else (some ((p1, (mkR (gR_sc s) (gR_ns s) (gR_bd s) ((gR_no s) + (nI 1)) (gR_fu s) (gR_now s) (gR_tri s) (gR_s0 s) (gR_s1 s) (gR_s2 s) (gR_s3 s) (gR_s4 s) (gR_txt s)))))) else (some ((p1, (mkR (gR_sc s) (gR_ns s) ((gR_bd s) + (nI 1)) (gR_no s) (gR_fu s) (gR_now s) (gR_tri s) (gR_s0 s) (gR_s1 s) (gR_s2 s) (gR_s3 s) (gR_s4 s) (gR_txt s)))))
set_option maxRecDepth 100000 in
theorem E_X2_refuse {d : Nat} {p1 : Int32} {s : RouS} {q : Int32 × RouS} (h : F_X2_refuse p1 s = some q) : mEv d m_X2_refuse none (0, [], [some (.ref 0), some (.int p1)], [], memR s) (some (Value.int q.1)) (memR q.2) := by
  unfold F_X2_refuse at h
  refine mEv.br 4 (S1 := (19, [], [some (.ref 0), some (.int p1)], [], memR s)) (S2 := (6, _, [some (.ref 0), some (.int p1)], [], memR s)) rfl (fun c1 => ?_) (fun c1 => ?_)
  · have h := (if_pos c1).symm.trans h
    refine mEv.br 4 (S1 := (38, [], [some (.ref 0), some (.int p1)], [], memR s)) (S2 := (25, _, [some (.ref 0), some (.int p1)], [], memR s)) rfl (fun c2 => ?_) (fun c2 => ?_)
    · have h := (if_pos c2).symm.trans h
      obtain rfl := Option.some.inj h
      exact mEv.tgt memR_mk (mEv.stp 9 (S' := (49, _, [some (.ref 0), some (.int p1)], [.int p1], memRx (gR_sc s) (gR_ns s) (gR_bd s) (gR_no s) ((gR_fu s) + (nI 1)) (gR_now s) (gR_tri s) (gR_s0 s) (gR_s1 s) (gR_s2 s) (gR_s3 s) (gR_s4 s) (gR_txt s))) rfl (mEv.reti ⟨_, rfl, rfl⟩))
    · have h := (if_neg c2).symm.trans h
      obtain rfl := Option.some.inj h
      exact mEv.tgt memR_mk (mEv.stp 9 (S' := (49, _, [some (.ref 0), some (.int p1)], [.int p1], memRx (gR_sc s) (gR_ns s) (gR_bd s) ((gR_no s) + (nI 1)) (gR_fu s) (gR_now s) (gR_tri s) (gR_s0 s) (gR_s1 s) (gR_s2 s) (gR_s3 s) (gR_s4 s) (gR_txt s))) rfl (mEv.reti ⟨_, rfl, rfl⟩))
  · have h := (if_neg c1).symm.trans h
    obtain rfl := Option.some.inj h
    exact mEv.tgt memR_mk (mEv.stp 9 (S' := (49, _, [some (.ref 0), some (.int p1)], [.int p1], memRx (gR_sc s) (gR_ns s) ((gR_bd s) + (nI 1)) (gR_no s) (gR_fu s) (gR_now s) (gR_tri s) (gR_s0 s) (gR_s1 s) (gR_s2 s) (gR_s3 s) (gR_s4 s) (gR_txt s))) rfl (mEv.reti ⟨_, rfl, rfl⟩))
theorem A_X2_refuse {d : Nat} {p1 : Int32} {s : RouS} {q : Int32 × RouS} (h : F_X2_refuse p1 s = some q) : mCall d m_X2_refuse [.ref 0, .int p1] (memR s) (some (Value.int q.1)) (memR q.2) := mCall.intro ok_X2_refuse pl_X2_refuse rfl (E_X2_refuse (d := d) h)
def F_X2_keepState  (s : RouS) : Option (RouS) := gI (gR_ns s) 5 (if (gR_ns s) = (nI 0) then ((F_X0_copyFrom (gR_now s) (gR_s0 s)).bind (fun v3 => gZ (nI 5) (if (nI 5) ≤ (gR_sc s) then (some ((mkR (gR_sc s) (((gR_ns s) + (nI 1)) - ((gR_ns s) + (nI 1)) / (nI 5) * (nI 5)) (gR_bd s) (gR_no s) (gR_fu s) (gR_now s) (gR_tri s) v3 (gR_s1 s) (gR_s2 s) (gR_s3 s) (gR_s4 s) (gR_txt s)))) else (some ((mkR ((gR_sc s) + (nI 1)) (((gR_ns s) + (nI 1)) - ((gR_ns s) + (nI 1)) / (nI 5) * (nI 5)) (gR_bd s) (gR_no s) (gR_fu s) (gR_now s) (gR_tri s) v3 (gR_s1 s) (gR_s2 s) (gR_s3 s) (gR_s4 s) (gR_txt s))))))) else (if (gR_ns s) = (nI 1) then ((F_X0_copyFrom (gR_now s) (gR_s1 s)).bind (fun v8 => gZ (nI 5) (if (nI 5) ≤ (gR_sc s) then (some ((mkR (gR_sc s) (((gR_ns s) + (nI 1)) - ((gR_ns s) + (nI 1)) / (nI 5) * (nI 5)) (gR_bd s) (gR_no s) (gR_fu s) (gR_now s) (gR_tri s) (gR_s0 s) v8 (gR_s2 s) (gR_s3 s) (gR_s4 s) (gR_txt s)))) else (some ((mkR ((gR_sc s) + (nI 1)) (((gR_ns s) + (nI 1)) - ((gR_ns s) + (nI 1)) / (nI 5) * (nI 5)) (gR_bd s) (gR_no s) (gR_fu s) (gR_now s) (gR_tri s) (gR_s0 s) v8 (gR_s2 s) (gR_s3 s) (gR_s4 s) (gR_txt s))))))) else (if (gR_ns s) = (nI 2) then ((F_X0_copyFrom (gR_now s) (gR_s2 s)).bind (fun v13 => gZ (nI 5) (if (nI 5) ≤ (gR_sc s) then (some ((mkR (gR_sc s) (((gR_ns s) + (nI 1)) - ((gR_ns s) + (nI 1)) / (nI 5) * (nI 5)) (gR_bd s) (gR_no s) (gR_fu s) (gR_now s) (gR_tri s) (gR_s0 s) (gR_s1 s) v13 (gR_s3 s) (gR_s4 s) (gR_txt s)))) else (some ((mkR ((gR_sc s) + (nI 1)) (((gR_ns s) + (nI 1)) - ((gR_ns s) + (nI 1)) / (nI 5) * (nI 5)) (gR_bd s) (gR_no s) (gR_fu s) (gR_now s) (gR_tri s) (gR_s0 s) (gR_s1 s) v13 (gR_s3 s) (gR_s4 s) (gR_txt s))))))) else (if (gR_ns s) = (nI 3) then ((F_X0_copyFrom (gR_now s) (gR_s3 s)).bind (fun v18 => gZ (nI 5) (if (nI 5) ≤ (gR_sc s) then (some ((mkR (gR_sc s) (((gR_ns s) + (nI 1)) - ((gR_ns s) + (nI 1)) / (nI 5) * (nI 5)) (gR_bd s) (gR_no s) (gR_fu s) (gR_now s) (gR_tri s) (gR_s0 s) (gR_s1 s) (gR_s2 s) v18 (gR_s4 s) (gR_txt s)))) else (some ((mkR ((gR_sc s) + (nI 1)) (((gR_ns s) + (nI 1)) - ((gR_ns s) + (nI 1)) / (nI 5) * (nI 5)) (gR_bd s) (gR_no s) (gR_fu s) (gR_now s) (gR_tri s) (gR_s0 s) (gR_s1 s) (gR_s2 s) v18 (gR_s4 s) (gR_txt s))))))) else (if (gR_ns s) = (nI 4) then ((F_X0_copyFrom (gR_now s) (gR_s4 s)).bind (fun v23 => gZ (nI 5) (if (nI 5) ≤ (gR_sc s) then (some ((mkR (gR_sc s) (((gR_ns s) + (nI 1)) - ((gR_ns s) + (nI 1)) / (nI 5) * (nI 5)) (gR_bd s) (gR_no s) (gR_fu s) (gR_now s) (gR_tri s) (gR_s0 s) (gR_s1 s) (gR_s2 s) (gR_s3 s) v23 (gR_txt s)))) else (some ((mkR ((gR_sc s) + (nI 1)) (((gR_ns s) + (nI 1)) - ((gR_ns s) + (nI 1)) / (nI 5) * (nI 5)) (gR_bd s) (gR_no s) (gR_fu s) (gR_now s) (gR_tri s) (gR_s0 s) (gR_s1 s) (gR_s2 s) (gR_s3 s) v23 (gR_txt s))))))) else (none))))))
set_option maxRecDepth 100000 in
theorem E_X2_keepState {d : Nat}  {s : RouS} {q : RouS} (h : F_X2_keepState s = some q) : mEv (d + 2) m_X2_keepState none (0, [], [some (.ref 0)], [], memR s) none (memR q) := by
  unfold F_X2_keepState at h
  obtain ⟨g1, h⟩ := gI_some h
  refine mEv.gd 6 (S' := (9, _, [some (.ref 0)], [(va_rf (m_sts (Int32.toNatClampNeg (gR_ns s))))], memR s)) rfl g1 ?_
  by_cases c2 : (gR_ns s) = (nI 0)
  · have h := (if_pos c2).symm.trans h
    rw [show (va_rf (m_sts (Int32.toNatClampNeg (gR_ns s)))) = Value.ref 20 from by rw [c2]; rfl]
    refine mEv.stp 0 (S' := (9, _, [some (.ref 0)], [.ref 20], memR s)) rfl ?_
    refine mEv.stp 2 (S' := (13, _, [some (.ref 0)], [.ref 1, .ref 20], memR s)) rfl ?_
    obtain ⟨v3, e4, h⟩ := bnd h
    refine mEv.callV (As := [.ref 1]) (st := []) (h := 20) (r := none) (μ1 := memRx (gR_sc s) (gR_ns s) (gR_bd s) (gR_no s) (gR_fu s) (gR_now s) (gR_tri s) v3 (gR_s1 s) (gR_s2 s) (gR_s3 s) (gR_s4 s) (gR_txt s)) lk_X2_161 rfl rfl rfl rfl rfl (lf_NN20_1 (as := [.ref 0, .ref 9]) (r := none) (A_X0_copyFrom (d := d + 0) e4)) ?_
    refine mEv.stp 0 (S' := (16, _, [some (.ref 0)], [], memRx (gR_sc s) (gR_ns s) (gR_bd s) (gR_no s) (gR_fu s) (gR_now s) (gR_tri s) v3 (gR_s1 s) (gR_s2 s) (gR_s3 s) (gR_s4 s) (gR_txt s))) rfl ?_
    obtain ⟨g5, h⟩ := gZ_some h
    refine mEv.gd 7 (S' := (25, _, [some (.ref 0)], [.int (((gR_ns s) + (nI 1)) - ((gR_ns s) + (nI 1)) / (nI 5) * (nI 5)), .ref 0], memRx (gR_sc s) (gR_ns s) (gR_bd s) (gR_no s) (gR_fu s) (gR_now s) (gR_tri s) v3 (gR_s1 s) (gR_s2 s) (gR_s3 s) (gR_s4 s) (gR_txt s))) rfl g5 ?_
    refine mEv.br 5 (S1 := (46, [], [some (.ref 0)], [], memRx (gR_sc s) (((gR_ns s) + (nI 1)) - ((gR_ns s) + (nI 1)) / (nI 5) * (nI 5)) (gR_bd s) (gR_no s) (gR_fu s) (gR_now s) (gR_tri s) v3 (gR_s1 s) (gR_s2 s) (gR_s3 s) (gR_s4 s) (gR_txt s))) (S2 := (36, _, [some (.ref 0)], [], memRx (gR_sc s) (((gR_ns s) + (nI 1)) - ((gR_ns s) + (nI 1)) / (nI 5) * (nI 5)) (gR_bd s) (gR_no s) (gR_fu s) (gR_now s) (gR_tri s) v3 (gR_s1 s) (gR_s2 s) (gR_s3 s) (gR_s4 s) (gR_txt s))) rfl (fun c6 => ?_) (fun c6 => ?_)
    · have h := (if_pos c6).symm.trans h
      obtain rfl := Option.some.inj h
      exact mEv.tgt memR_mk (mEv.stp 1 (S' := (46, _, [some (.ref 0)], [], memRx (gR_sc s) (((gR_ns s) + (nI 1)) - ((gR_ns s) + (nI 1)) / (nI 5) * (nI 5)) (gR_bd s) (gR_no s) (gR_fu s) (gR_now s) (gR_tri s) v3 (gR_s1 s) (gR_s2 s) (gR_s3 s) (gR_s4 s) (gR_txt s))) rfl (mEv.retv rfl))
    · have h := (if_neg c6).symm.trans h
      obtain rfl := Option.some.inj h
      exact mEv.tgt memR_mk (mEv.stp 7 (S' := (46, _, [some (.ref 0)], [], memRx ((gR_sc s) + (nI 1)) (((gR_ns s) + (nI 1)) - ((gR_ns s) + (nI 1)) / (nI 5) * (nI 5)) (gR_bd s) (gR_no s) (gR_fu s) (gR_now s) (gR_tri s) v3 (gR_s1 s) (gR_s2 s) (gR_s3 s) (gR_s4 s) (gR_txt s))) rfl (mEv.retv rfl))
  · have h := (if_neg c2).symm.trans h
    by_cases c7 : (gR_ns s) = (nI 1)
    · have h := (if_pos c7).symm.trans h
      rw [show (va_rf (m_sts (Int32.toNatClampNeg (gR_ns s)))) = Value.ref 29 from by rw [c7]; rfl]
      refine mEv.stp 0 (S' := (9, _, [some (.ref 0)], [.ref 29], memR s)) rfl ?_
      refine mEv.stp 2 (S' := (13, _, [some (.ref 0)], [.ref 1, .ref 29], memR s)) rfl ?_
      obtain ⟨v8, e9, h⟩ := bnd h
      refine mEv.callV (As := [.ref 1]) (st := []) (h := 29) (r := none) (μ1 := memRx (gR_sc s) (gR_ns s) (gR_bd s) (gR_no s) (gR_fu s) (gR_now s) (gR_tri s) (gR_s0 s) v8 (gR_s2 s) (gR_s3 s) (gR_s4 s) (gR_txt s)) lk_X2_161 rfl rfl rfl rfl rfl (lf_NN29_1 (as := [.ref 0, .ref 9]) (r := none) (A_X0_copyFrom (d := d + 0) e9)) ?_
      refine mEv.stp 0 (S' := (16, _, [some (.ref 0)], [], memRx (gR_sc s) (gR_ns s) (gR_bd s) (gR_no s) (gR_fu s) (gR_now s) (gR_tri s) (gR_s0 s) v8 (gR_s2 s) (gR_s3 s) (gR_s4 s) (gR_txt s))) rfl ?_
      obtain ⟨g10, h⟩ := gZ_some h
      refine mEv.gd 7 (S' := (25, _, [some (.ref 0)], [.int (((gR_ns s) + (nI 1)) - ((gR_ns s) + (nI 1)) / (nI 5) * (nI 5)), .ref 0], memRx (gR_sc s) (gR_ns s) (gR_bd s) (gR_no s) (gR_fu s) (gR_now s) (gR_tri s) (gR_s0 s) v8 (gR_s2 s) (gR_s3 s) (gR_s4 s) (gR_txt s))) rfl g10 ?_
      refine mEv.br 5 (S1 := (46, [], [some (.ref 0)], [], memRx (gR_sc s) (((gR_ns s) + (nI 1)) - ((gR_ns s) + (nI 1)) / (nI 5) * (nI 5)) (gR_bd s) (gR_no s) (gR_fu s) (gR_now s) (gR_tri s) (gR_s0 s) v8 (gR_s2 s) (gR_s3 s) (gR_s4 s) (gR_txt s))) (S2 := (36, _, [some (.ref 0)], [], memRx (gR_sc s) (((gR_ns s) + (nI 1)) - ((gR_ns s) + (nI 1)) / (nI 5) * (nI 5)) (gR_bd s) (gR_no s) (gR_fu s) (gR_now s) (gR_tri s) (gR_s0 s) v8 (gR_s2 s) (gR_s3 s) (gR_s4 s) (gR_txt s))) rfl (fun c11 => ?_) (fun c11 => ?_)
      · have h := (if_pos c11).symm.trans h
        obtain rfl := Option.some.inj h
        exact mEv.tgt memR_mk (mEv.stp 1 (S' := (46, _, [some (.ref 0)], [], memRx (gR_sc s) (((gR_ns s) + (nI 1)) - ((gR_ns s) + (nI 1)) / (nI 5) * (nI 5)) (gR_bd s) (gR_no s) (gR_fu s) (gR_now s) (gR_tri s) (gR_s0 s) v8 (gR_s2 s) (gR_s3 s) (gR_s4 s) (gR_txt s))) rfl (mEv.retv rfl))
      · have h := (if_neg c11).symm.trans h
        obtain rfl := Option.some.inj h
        exact mEv.tgt memR_mk (mEv.stp 7 (S' := (46, _, [some (.ref 0)], [], memRx ((gR_sc s) + (nI 1)) (((gR_ns s) + (nI 1)) - ((gR_ns s) + (nI 1)) / (nI 5) * (nI 5)) (gR_bd s) (gR_no s) (gR_fu s) (gR_now s) (gR_tri s) (gR_s0 s) v8 (gR_s2 s) (gR_s3 s) (gR_s4 s) (gR_txt s))) rfl (mEv.retv rfl))
    · have h := (if_neg c7).symm.trans h
      by_cases c12 : (gR_ns s) = (nI 2)
      · have h := (if_pos c12).symm.trans h
        rw [show (va_rf (m_sts (Int32.toNatClampNeg (gR_ns s)))) = Value.ref 38 from by rw [c12]; rfl]
        refine mEv.stp 0 (S' := (9, _, [some (.ref 0)], [.ref 38], memR s)) rfl ?_
        refine mEv.stp 2 (S' := (13, _, [some (.ref 0)], [.ref 1, .ref 38], memR s)) rfl ?_
        obtain ⟨v13, e14, h⟩ := bnd h
        refine mEv.callV (As := [.ref 1]) (st := []) (h := 38) (r := none) (μ1 := memRx (gR_sc s) (gR_ns s) (gR_bd s) (gR_no s) (gR_fu s) (gR_now s) (gR_tri s) (gR_s0 s) (gR_s1 s) v13 (gR_s3 s) (gR_s4 s) (gR_txt s)) lk_X2_161 rfl rfl rfl rfl rfl (lf_NN38_1 (as := [.ref 0, .ref 9]) (r := none) (A_X0_copyFrom (d := d + 0) e14)) ?_
        refine mEv.stp 0 (S' := (16, _, [some (.ref 0)], [], memRx (gR_sc s) (gR_ns s) (gR_bd s) (gR_no s) (gR_fu s) (gR_now s) (gR_tri s) (gR_s0 s) (gR_s1 s) v13 (gR_s3 s) (gR_s4 s) (gR_txt s))) rfl ?_
        obtain ⟨g15, h⟩ := gZ_some h
        refine mEv.gd 7 (S' := (25, _, [some (.ref 0)], [.int (((gR_ns s) + (nI 1)) - ((gR_ns s) + (nI 1)) / (nI 5) * (nI 5)), .ref 0], memRx (gR_sc s) (gR_ns s) (gR_bd s) (gR_no s) (gR_fu s) (gR_now s) (gR_tri s) (gR_s0 s) (gR_s1 s) v13 (gR_s3 s) (gR_s4 s) (gR_txt s))) rfl g15 ?_
        refine mEv.br 5 (S1 := (46, [], [some (.ref 0)], [], memRx (gR_sc s) (((gR_ns s) + (nI 1)) - ((gR_ns s) + (nI 1)) / (nI 5) * (nI 5)) (gR_bd s) (gR_no s) (gR_fu s) (gR_now s) (gR_tri s) (gR_s0 s) (gR_s1 s) v13 (gR_s3 s) (gR_s4 s) (gR_txt s))) (S2 := (36, _, [some (.ref 0)], [], memRx (gR_sc s) (((gR_ns s) + (nI 1)) - ((gR_ns s) + (nI 1)) / (nI 5) * (nI 5)) (gR_bd s) (gR_no s) (gR_fu s) (gR_now s) (gR_tri s) (gR_s0 s) (gR_s1 s) v13 (gR_s3 s) (gR_s4 s) (gR_txt s))) rfl (fun c16 => ?_) (fun c16 => ?_)
        · have h := (if_pos c16).symm.trans h
          obtain rfl := Option.some.inj h
          exact mEv.tgt memR_mk (mEv.stp 1 (S' := (46, _, [some (.ref 0)], [], memRx (gR_sc s) (((gR_ns s) + (nI 1)) - ((gR_ns s) + (nI 1)) / (nI 5) * (nI 5)) (gR_bd s) (gR_no s) (gR_fu s) (gR_now s) (gR_tri s) (gR_s0 s) (gR_s1 s) v13 (gR_s3 s) (gR_s4 s) (gR_txt s))) rfl (mEv.retv rfl))
        · have h := (if_neg c16).symm.trans h
          obtain rfl := Option.some.inj h
          exact mEv.tgt memR_mk (mEv.stp 7 (S' := (46, _, [some (.ref 0)], [], memRx ((gR_sc s) + (nI 1)) (((gR_ns s) + (nI 1)) - ((gR_ns s) + (nI 1)) / (nI 5) * (nI 5)) (gR_bd s) (gR_no s) (gR_fu s) (gR_now s) (gR_tri s) (gR_s0 s) (gR_s1 s) v13 (gR_s3 s) (gR_s4 s) (gR_txt s))) rfl (mEv.retv rfl))
      · have h := (if_neg c12).symm.trans h
        by_cases c17 : (gR_ns s) = (nI 3)
        · have h := (if_pos c17).symm.trans h
          rw [show (va_rf (m_sts (Int32.toNatClampNeg (gR_ns s)))) = Value.ref 47 from by rw [c17]; rfl]
          refine mEv.stp 0 (S' := (9, _, [some (.ref 0)], [.ref 47], memR s)) rfl ?_
          refine mEv.stp 2 (S' := (13, _, [some (.ref 0)], [.ref 1, .ref 47], memR s)) rfl ?_
          obtain ⟨v18, e19, h⟩ := bnd h
          refine mEv.callV (As := [.ref 1]) (st := []) (h := 47) (r := none) (μ1 := memRx (gR_sc s) (gR_ns s) (gR_bd s) (gR_no s) (gR_fu s) (gR_now s) (gR_tri s) (gR_s0 s) (gR_s1 s) (gR_s2 s) v18 (gR_s4 s) (gR_txt s)) lk_X2_161 rfl rfl rfl rfl rfl (lf_NN47_1 (as := [.ref 0, .ref 9]) (r := none) (A_X0_copyFrom (d := d + 0) e19)) ?_
          refine mEv.stp 0 (S' := (16, _, [some (.ref 0)], [], memRx (gR_sc s) (gR_ns s) (gR_bd s) (gR_no s) (gR_fu s) (gR_now s) (gR_tri s) (gR_s0 s) (gR_s1 s) (gR_s2 s) v18 (gR_s4 s) (gR_txt s))) rfl ?_
          obtain ⟨g20, h⟩ := gZ_some h
          refine mEv.gd 7 (S' := (25, _, [some (.ref 0)], [.int (((gR_ns s) + (nI 1)) - ((gR_ns s) + (nI 1)) / (nI 5) * (nI 5)), .ref 0], memRx (gR_sc s) (gR_ns s) (gR_bd s) (gR_no s) (gR_fu s) (gR_now s) (gR_tri s) (gR_s0 s) (gR_s1 s) (gR_s2 s) v18 (gR_s4 s) (gR_txt s))) rfl g20 ?_
          refine mEv.br 5 (S1 := (46, [], [some (.ref 0)], [], memRx (gR_sc s) (((gR_ns s) + (nI 1)) - ((gR_ns s) + (nI 1)) / (nI 5) * (nI 5)) (gR_bd s) (gR_no s) (gR_fu s) (gR_now s) (gR_tri s) (gR_s0 s) (gR_s1 s) (gR_s2 s) v18 (gR_s4 s) (gR_txt s))) (S2 := (36, _, [some (.ref 0)], [], memRx (gR_sc s) (((gR_ns s) + (nI 1)) - ((gR_ns s) + (nI 1)) / (nI 5) * (nI 5)) (gR_bd s) (gR_no s) (gR_fu s) (gR_now s) (gR_tri s) (gR_s0 s) (gR_s1 s) (gR_s2 s) v18 (gR_s4 s) (gR_txt s))) rfl (fun c21 => ?_) (fun c21 => ?_)
          · have h := (if_pos c21).symm.trans h
            obtain rfl := Option.some.inj h
            exact mEv.tgt memR_mk (mEv.stp 1 (S' := (46, _, [some (.ref 0)], [], memRx (gR_sc s) (((gR_ns s) + (nI 1)) - ((gR_ns s) + (nI 1)) / (nI 5) * (nI 5)) (gR_bd s) (gR_no s) (gR_fu s) (gR_now s) (gR_tri s) (gR_s0 s) (gR_s1 s) (gR_s2 s) v18 (gR_s4 s) (gR_txt s))) rfl (mEv.retv rfl))
          · have h := (if_neg c21).symm.trans h
            obtain rfl := Option.some.inj h
            exact mEv.tgt memR_mk (mEv.stp 7 (S' := (46, _, [some (.ref 0)], [], memRx ((gR_sc s) + (nI 1)) (((gR_ns s) + (nI 1)) - ((gR_ns s) + (nI 1)) / (nI 5) * (nI 5)) (gR_bd s) (gR_no s) (gR_fu s) (gR_now s) (gR_tri s) (gR_s0 s) (gR_s1 s) (gR_s2 s) v18 (gR_s4 s) (gR_txt s))) rfl (mEv.retv rfl))
        · have h := (if_neg c17).symm.trans h
          by_cases c22 : (gR_ns s) = (nI 4)
          · have h := (if_pos c22).symm.trans h
            rw [show (va_rf (m_sts (Int32.toNatClampNeg (gR_ns s)))) = Value.ref 56 from by rw [c22]; rfl]
            refine mEv.stp 0 (S' := (9, _, [some (.ref 0)], [.ref 56], memR s)) rfl ?_
            refine mEv.stp 2 (S' := (13, _, [some (.ref 0)], [.ref 1, .ref 56], memR s)) rfl ?_
            obtain ⟨v23, e24, h⟩ := bnd h
            refine mEv.callV (As := [.ref 1]) (st := []) (h := 56) (r := none) (μ1 := memRx (gR_sc s) (gR_ns s) (gR_bd s) (gR_no s) (gR_fu s) (gR_now s) (gR_tri s) (gR_s0 s) (gR_s1 s) (gR_s2 s) (gR_s3 s) v23 (gR_txt s)) lk_X2_161 rfl rfl rfl rfl rfl (lf_NN56_1 (as := [.ref 0, .ref 9]) (r := none) (A_X0_copyFrom (d := d + 0) e24)) ?_
            refine mEv.stp 0 (S' := (16, _, [some (.ref 0)], [], memRx (gR_sc s) (gR_ns s) (gR_bd s) (gR_no s) (gR_fu s) (gR_now s) (gR_tri s) (gR_s0 s) (gR_s1 s) (gR_s2 s) (gR_s3 s) v23 (gR_txt s))) rfl ?_
            obtain ⟨g25, h⟩ := gZ_some h
            refine mEv.gd 7 (S' := (25, _, [some (.ref 0)], [.int (((gR_ns s) + (nI 1)) - ((gR_ns s) + (nI 1)) / (nI 5) * (nI 5)), .ref 0], memRx (gR_sc s) (gR_ns s) (gR_bd s) (gR_no s) (gR_fu s) (gR_now s) (gR_tri s) (gR_s0 s) (gR_s1 s) (gR_s2 s) (gR_s3 s) v23 (gR_txt s))) rfl g25 ?_
            refine mEv.br 5 (S1 := (46, [], [some (.ref 0)], [], memRx (gR_sc s) (((gR_ns s) + (nI 1)) - ((gR_ns s) + (nI 1)) / (nI 5) * (nI 5)) (gR_bd s) (gR_no s) (gR_fu s) (gR_now s) (gR_tri s) (gR_s0 s) (gR_s1 s) (gR_s2 s) (gR_s3 s) v23 (gR_txt s))) (S2 := (36, _, [some (.ref 0)], [], memRx (gR_sc s) (((gR_ns s) + (nI 1)) - ((gR_ns s) + (nI 1)) / (nI 5) * (nI 5)) (gR_bd s) (gR_no s) (gR_fu s) (gR_now s) (gR_tri s) (gR_s0 s) (gR_s1 s) (gR_s2 s) (gR_s3 s) v23 (gR_txt s))) rfl (fun c26 => ?_) (fun c26 => ?_)
            · have h := (if_pos c26).symm.trans h
              obtain rfl := Option.some.inj h
              exact mEv.tgt memR_mk (mEv.stp 1 (S' := (46, _, [some (.ref 0)], [], memRx (gR_sc s) (((gR_ns s) + (nI 1)) - ((gR_ns s) + (nI 1)) / (nI 5) * (nI 5)) (gR_bd s) (gR_no s) (gR_fu s) (gR_now s) (gR_tri s) (gR_s0 s) (gR_s1 s) (gR_s2 s) (gR_s3 s) v23 (gR_txt s))) rfl (mEv.retv rfl))
            · have h := (if_neg c26).symm.trans h
              obtain rfl := Option.some.inj h
              exact mEv.tgt memR_mk (mEv.stp 7 (S' := (46, _, [some (.ref 0)], [], memRx ((gR_sc s) + (nI 1)) (((gR_ns s) + (nI 1)) - ((gR_ns s) + (nI 1)) / (nI 5) * (nI 5)) (gR_bd s) (gR_no s) (gR_fu s) (gR_now s) (gR_tri s) (gR_s0 s) (gR_s1 s) (gR_s2 s) (gR_s3 s) v23 (gR_txt s))) rfl (mEv.retv rfl))
          · have h := (if_neg c22).symm.trans h
            cases h
theorem A_X2_keepState {d : Nat}  {s : RouS} {q : RouS} (h : F_X2_keepState s = some q) : mCall (d + 2) m_X2_keepState [.ref 0] (memR s) none (memR q) := mCall.intro ok_X2_keepState pl_X2_keepState rfl (E_X2_keepState (d := d) h)
def F_X2_towns (p1 : Int32) (s : RouS) : Option (Int32 × RouS) := (F_X2_within p1 (nI 3) (nI 6)).bind (fun v1 => if ¬ v1 = (nI 0) then ((F_X2_keepState s).bind (fun v4 => (F_X0_begin p1 (gR_now v4)).bind (fun v6 => some (((gN_tc (gR_now v4)), (mkR (gR_sc v4) (gR_ns v4) (gR_bd v4) (gR_no v4) (gR_fu v4) v6 (gR_tri v4) (gR_s0 v4) (gR_s1 v4) (gR_s2 v4) (gR_s3 v4) (gR_s4 v4) (gR_txt v4))))))) else ((F_X2_refuse (-nI 2) s).bind (fun v8 => some ((v8.1, v8.2)))))
set_option maxRecDepth 100000 in
theorem E_X2_towns {d : Nat} {p1 : Int32} {s : RouS} {q : Int32 × RouS} (h : F_X2_towns p1 s = some q) : mEv (d + 3) m_X2_towns none (0, [], [some (.ref 0), some (.int p1), none], [], memR s) (some (Value.int q.1)) (memR q.2) := by
  unfold F_X2_towns at h
  refine mEv.stp 4 (S' := (4, _, [some (.ref 0), some (.int p1), none], [.int (nI 6), .int (nI 3), .int p1], memR s)) rfl ?_
  obtain ⟨v1, e2, h⟩ := bnd h
  refine mEv.callS (As := [.int p1, .int (nI 3), .int (nI 6)]) (st := []) (r := (some (.int v1))) (μ1 := memR s) lk_X2_30 rfl rfl rfl (A_X2_within (d := d + 2) e2) ?_
  refine mEv.stp 0 (S' := (7, _, [some (.ref 0), some (.int p1), none], [.int v1], memR s)) rfl ?_
  refine mEv.br 1 (S1 := (17, [], [some (.ref 0), some (.int p1), none], [], memR s)) (S2 := (10, _, [some (.ref 0), some (.int p1), none], [], memR s)) rfl (fun c3 => ?_) (fun c3 => ?_)
  · have h := (if_pos c3).symm.trans h
    refine mEv.stp 2 (S' := (18, _, [some (.ref 0), some (.int p1), none], [.ref 0], memR s)) rfl ?_
    obtain ⟨v4, e5, h⟩ := bnd h
    refine mEv.callV (As := []) (st := []) (h := 0) (r := none) (μ1 := memR v4) lk_X2_38 rfl rfl rfl rfl rfl (A_X2_keepState (d := d + 0) e5) ?_
    refine mEv.stp 0 (S' := (21, _, [some (.ref 0), some (.int p1), none], [], memR v4)) rfl ?_
    refine mEv.stp 7 (S' := (34, _, [some (.ref 0), some (.int p1), some (.int (gN_tc (gR_now v4)))], [.int p1, .ref 1], memR v4)) rfl ?_
    obtain ⟨v6, e7, h⟩ := bnd h
    refine mEv.callV (As := [.int p1]) (st := []) (h := 1) (r := none) (μ1 := memRx (gR_sc v4) (gR_ns v4) (gR_bd v4) (gR_no v4) (gR_fu v4) v6 (gR_tri v4) (gR_s0 v4) (gR_s1 v4) (gR_s2 v4) (gR_s3 v4) (gR_s4 v4) (gR_txt v4)) lk_X2_45 rfl rfl rfl rfl rfl (lf_N1 (as := [.ref 0, .int p1]) (r := none) (A_X0_begin (d := d + 1) e7)) ?_
    refine mEv.stp 0 (S' := (37, _, [some (.ref 0), some (.int p1), some (.int (gN_tc (gR_now v4)))], [], memRx (gR_sc v4) (gR_ns v4) (gR_bd v4) (gR_no v4) (gR_fu v4) v6 (gR_tri v4) (gR_s0 v4) (gR_s1 v4) (gR_s2 v4) (gR_s3 v4) (gR_s4 v4) (gR_txt v4))) rfl ?_
    obtain rfl := Option.some.inj h
    exact mEv.tgt memR_mk (mEv.stp 1 (S' := (38, _, [some (.ref 0), some (.int p1), some (.int (gN_tc (gR_now v4)))], [.int (gN_tc (gR_now v4))], memRx (gR_sc v4) (gR_ns v4) (gR_bd v4) (gR_no v4) (gR_fu v4) v6 (gR_tri v4) (gR_s0 v4) (gR_s1 v4) (gR_s2 v4) (gR_s3 v4) (gR_s4 v4) (gR_txt v4))) rfl (mEv.reti ⟨_, rfl, rfl⟩))
  · have h := (if_neg c3).symm.trans h
    refine mEv.stp 2 (S' := (13, _, [some (.ref 0), some (.int p1), none], [.int (-nI 2), .ref 0], memR s)) rfl ?_
    obtain ⟨v8, e9, h⟩ := bnd h
    refine mEv.callV (As := [.int (-nI 2)]) (st := []) (h := 0) (r := (some (.int v8.1))) (μ1 := memR v8.2) lk_X2_34 rfl rfl rfl rfl rfl (A_X2_refuse (d := d + 2) e9) ?_
    refine mEv.stp 0 (S' := (16, _, [some (.ref 0), some (.int p1), none], [.int v8.1], memR v8.2)) rfl ?_
    obtain rfl := Option.some.inj h
    exact mEv.reti ⟨_, rfl, rfl⟩
theorem A_X2_towns {d : Nat} {p1 : Int32} {s : RouS} {q : Int32 × RouS} (h : F_X2_towns p1 s = some q) : mCall (d + 3) m_X2_towns [.ref 0, .int p1] (memR s) (some (Value.int q.1)) (memR q.2) := mCall.intro ok_X2_towns pl_X2_towns rfl (E_X2_towns (d := d) h)
def F_X2_isPair (p1 : Int32) (p2 : Int32) (s : RouS) : Option (Int32) := if p1 = p2 then (some ((nI 0))) else ((F_X2_within p1 (nI 0) ((gN_tc (gR_now s)) - (nI 1))).bind (fun v2 => if v2 = (nI 0) then (some ((nI 0))) else ((F_X2_within p2 (nI 0) ((gN_tc (gR_now s)) - (nI 1))).bind (fun v5 => if v5 = (nI 0) then (some ((nI 0))) else (some ((nI 1)))))))
set_option maxRecDepth 100000 in
theorem E_X2_isPair {d : Nat} {p1 : Int32} {p2 : Int32} {s : RouS} {q : Int32} (h : F_X2_isPair p1 p2 s = some q) : mEv (d + 1) m_X2_isPair none (0, [], [some (.ref 0), some (.int p1), some (.int p2)], [], memR s) (some (Value.int q)) (memR s) := by
  unfold F_X2_isPair at h
  refine mEv.br 4 (S1 := (43, [], [some (.ref 0), some (.int p1), some (.int p2)], [], memR s)) (S2 := (5, _, [some (.ref 0), some (.int p1), some (.int p2)], [], memR s)) rfl (fun c1 => ?_) (fun c1 => ?_)
  · have h := (if_pos c1).symm.trans h
    obtain rfl := Option.some.inj h
    exact mEv.stp 3 (S' := (44, _, [some (.ref 0), some (.int p1), some (.int p2)], [.int (nI 0)], memR s)) rfl (mEv.reti ⟨_, rfl, rfl⟩)
  · have h := (if_neg c1).symm.trans h
    refine mEv.stp 7 (S' := (16, _, [some (.ref 0), some (.int p1), some (.int p2)], [.int ((gN_tc (gR_now s)) - (nI 1)), .int (nI 0), .int p1], memR s)) rfl ?_
    obtain ⟨v2, e3, h⟩ := bnd h
    refine mEv.callS (As := [.int p1, .int (nI 0), .int ((gN_tc (gR_now s)) - (nI 1))]) (st := []) (r := (some (.int v2))) (μ1 := memR s) lk_X2_30 rfl rfl rfl (A_X2_within (d := d + 0) e3) ?_
    refine mEv.stp 0 (S' := (19, _, [some (.ref 0), some (.int p1), some (.int p2)], [.int v2], memR s)) rfl ?_
    refine mEv.br 1 (S1 := (43, [], [some (.ref 0), some (.int p1), some (.int p2)], [], memR s)) (S2 := (22, _, [some (.ref 0), some (.int p1), some (.int p2)], [], memR s)) rfl (fun c4 => ?_) (fun c4 => ?_)
    · have h := (if_pos c4).symm.trans h
      obtain rfl := Option.some.inj h
      exact mEv.stp 3 (S' := (44, _, [some (.ref 0), some (.int p1), some (.int p2)], [.int (nI 0)], memR s)) rfl (mEv.reti ⟨_, rfl, rfl⟩)
    · have h := (if_neg c4).symm.trans h
      refine mEv.stp 7 (S' := (33, _, [some (.ref 0), some (.int p1), some (.int p2)], [.int ((gN_tc (gR_now s)) - (nI 1)), .int (nI 0), .int p2], memR s)) rfl ?_
      obtain ⟨v5, e6, h⟩ := bnd h
      refine mEv.callS (As := [.int p2, .int (nI 0), .int ((gN_tc (gR_now s)) - (nI 1))]) (st := []) (r := (some (.int v5))) (μ1 := memR s) lk_X2_30 rfl rfl rfl (A_X2_within (d := d + 0) e6) ?_
      refine mEv.stp 0 (S' := (36, _, [some (.ref 0), some (.int p1), some (.int p2)], [.int v5], memR s)) rfl ?_
      refine mEv.br 1 (S1 := (43, [], [some (.ref 0), some (.int p1), some (.int p2)], [], memR s)) (S2 := (39, _, [some (.ref 0), some (.int p1), some (.int p2)], [], memR s)) rfl (fun c7 => ?_) (fun c7 => ?_)
      · have h := (if_pos c7).symm.trans h
        obtain rfl := Option.some.inj h
        exact mEv.stp 3 (S' := (44, _, [some (.ref 0), some (.int p1), some (.int p2)], [.int (nI 0)], memR s)) rfl (mEv.reti ⟨_, rfl, rfl⟩)
      · have h := (if_neg c7).symm.trans h
        obtain rfl := Option.some.inj h
        exact mEv.stp 3 (S' := (44, _, [some (.ref 0), some (.int p1), some (.int p2)], [.int (nI 1)], memR s)) rfl (mEv.reti ⟨_, rfl, rfl⟩)
theorem A_X2_isPair {d : Nat} {p1 : Int32} {p2 : Int32} {s : RouS} {q : Int32} (h : F_X2_isPair p1 p2 s = some q) : mCall (d + 1) m_X2_isPair [.ref 0, .int p1, .int p2] (memR s) (some (Value.int q)) (memR s) := mCall.intro ok_X2_isPair pl_X2_isPair rfl (E_X2_isPair (d := d) h)
def J_X2_link_29  (s : RouS) : Option (Int32 × RouS) := (F_X2_refuse (-nI 2) s).bind (fun v4 => some ((v4.1, v4.2)))
set_option maxRecDepth 100000 in
theorem K_X2_link_29 {d : Nat}  {s : RouS} {q : Int32 × RouS} (h : J_X2_link_29 s = some q) : mEv (d + 3) m_X2_link none (29, [], [some (.ref 0), none, none, none, none, none, none, none], [], memR s) (some (Value.int q.1)) (memR q.2) := by
  unfold J_X2_link_29 at h
  refine mEv.stp 3 (S' := (32, _, [some (.ref 0), none, none, none, none, none, none, none], [.int (-nI 2), .ref 0], memR s)) rfl ?_
  obtain ⟨v4, e5, h⟩ := bnd h
  refine mEv.callV (As := [.int (-nI 2)]) (st := []) (h := 0) (r := (some (.int v4.1))) (μ1 := memR v4.2) lk_X2_34 rfl rfl rfl rfl rfl (A_X2_refuse (d := d + 2) e5) ?_
  refine mEv.stp 0 (S' := (35, _, [some (.ref 0), none, none, none, none, none, none, none], [.int v4.1], memR v4.2)) rfl ?_
  obtain rfl := Option.some.inj h
  exact mEv.reti ⟨_, rfl, rfl⟩
def J_X2_link_61 (x1 : Int32) (x2 : Int32) (x4 : Int32) (s : RouS) : Option (Int32 × RouS) := (F_X0_linkCell x1 x2).bind (fun v15 => gI v15 36 (gI v15 36 (some ((((gN_r (gR_now s)) (Int32.toNatClampNeg v15)), (mkR (gR_sc s) (gR_ns s) (gR_bd s) (gR_no s) (gR_fu s) (mkN (gN_tc (gR_now s)) (gN_hb (gR_now s)) (gN_x (gR_now s)) (gN_hg (gR_now s)) (gN_cc (gR_now s)) (gN_w (gR_now s)) (upd (gN_r (gR_now s)) (Int32.toNatClampNeg v15) x4) (gN_hd (gR_now s)) (gN_st (gR_now s)) (gN_ct (gR_now s)) (gN_tt (gR_now s)) (gN_ld (gR_now s)) (gN_ca (gR_now s))) (gR_tri s) (gR_s0 s) (gR_s1 s) (gR_s2 s) (gR_s3 s) (gR_s4 s) (gR_txt s)))))))
set_option maxRecDepth 100000 in
theorem K_X2_link_61 {d : Nat} {x1 : Int32} {x2 : Int32} {x4 : Int32} {s : RouS} {q : Int32 × RouS} (h : J_X2_link_61 x1 x2 x4 s = some q) : mEv (d + 3) m_X2_link none (61, [], [none, some (.int x1), some (.int x2), none, some (.int x4), none, none, none], [.ref 3], memR s) (some (Value.int q.1)) (memR q.2) := by
  unfold J_X2_link_61 at h
  refine mEv.stp 4 (S' := (65, _, [none, some (.int x1), some (.int x2), none, some (.int x4), some (.ref 3), none, none], [.int x2, .int x1], memR s)) rfl ?_
  obtain ⟨v15, e16, h⟩ := bnd h
  refine mEv.callS (As := [.int x1, .int x2]) (st := []) (r := (some (.int v15))) (μ1 := memR s) lk_X2_60 rfl rfl rfl (A_X0_linkCell (d := d + 2) e16) ?_
  refine mEv.stp 0 (S' := (68, _, [none, some (.int x1), some (.int x2), none, some (.int x4), some (.ref 3), none, none], [.int v15], memR s)) rfl ?_
  obtain ⟨g17, h⟩ := gI_some h
  refine mEv.gd 4 (S' := (75, _, [none, some (.int x1), some (.int x2), none, some (.int x4), some (.ref 3), some (.int v15), none], [.int ((gN_r (gR_now s)) (Int32.toNatClampNeg v15))], memR s)) rfl g17 ?_
  obtain ⟨g18, h⟩ := gI_some h
  refine mEv.gd 5 (S' := (84, _, [none, some (.int x1), some (.int x2), none, some (.int x4), some (.ref 3), some (.int v15), some (.int ((gN_r (gR_now s)) (Int32.toNatClampNeg v15)))], [], memRx (gR_sc s) (gR_ns s) (gR_bd s) (gR_no s) (gR_fu s) (mkN (gN_tc (gR_now s)) (gN_hb (gR_now s)) (gN_x (gR_now s)) (gN_hg (gR_now s)) (gN_cc (gR_now s)) (gN_w (gR_now s)) (upd (gN_r (gR_now s)) (Int32.toNatClampNeg v15) x4) (gN_hd (gR_now s)) (gN_st (gR_now s)) (gN_ct (gR_now s)) (gN_tt (gR_now s)) (gN_ld (gR_now s)) (gN_ca (gR_now s))) (gR_tri s) (gR_s0 s) (gR_s1 s) (gR_s2 s) (gR_s3 s) (gR_s4 s) (gR_txt s))) rfl g18 ?_
  obtain rfl := Option.some.inj h
  exact mEv.tgt memR_mk (mEv.stp 1 (S' := (86, _, [none, some (.int x1), some (.int x2), none, some (.int x4), some (.ref 3), some (.int v15), some (.int ((gN_r (gR_now s)) (Int32.toNatClampNeg v15)))], [.int ((gN_r (gR_now s)) (Int32.toNatClampNeg v15))], memRx (gR_sc s) (gR_ns s) (gR_bd s) (gR_no s) (gR_fu s) (mkN (gN_tc (gR_now s)) (gN_hb (gR_now s)) (gN_x (gR_now s)) (gN_hg (gR_now s)) (gN_cc (gR_now s)) (gN_w (gR_now s)) (upd (gN_r (gR_now s)) (Int32.toNatClampNeg v15) x4) (gN_hd (gR_now s)) (gN_st (gR_now s)) (gN_ct (gR_now s)) (gN_tt (gR_now s)) (gN_ld (gR_now s)) (gN_ca (gR_now s))) (gR_tri s) (gR_s0 s) (gR_s1 s) (gR_s2 s) (gR_s3 s) (gR_s4 s) (gR_txt s))) rfl (mEv.reti ⟨_, rfl, rfl⟩))
def J_X2_link_61_2 (x1 : Int32) (x2 : Int32) (x4 : Int32) (s : RouS) : Option (Int32 × RouS) := (F_X0_linkCell x1 x2).bind (fun v19 => gI v19 36 (gI v19 36 (some ((((gN_w (gR_now s)) (Int32.toNatClampNeg v19)), (mkR (gR_sc s) (gR_ns s) (gR_bd s) (gR_no s) (gR_fu s) (mkN (gN_tc (gR_now s)) (gN_hb (gR_now s)) (gN_x (gR_now s)) (gN_hg (gR_now s)) (gN_cc (gR_now s)) (upd (gN_w (gR_now s)) (Int32.toNatClampNeg v19) x4) (gN_r (gR_now s)) (gN_hd (gR_now s)) (gN_st (gR_now s)) (gN_ct (gR_now s)) (gN_tt (gR_now s)) (gN_ld (gR_now s)) (gN_ca (gR_now s))) (gR_tri s) (gR_s0 s) (gR_s1 s) (gR_s2 s) (gR_s3 s) (gR_s4 s) (gR_txt s)))))))
set_option maxRecDepth 100000 in
theorem K_X2_link_61_2 {d : Nat} {x1 : Int32} {x2 : Int32} {x4 : Int32} {s : RouS} {q : Int32 × RouS} (h : J_X2_link_61_2 x1 x2 x4 s = some q) : mEv (d + 3) m_X2_link none (61, [], [none, some (.int x1), some (.int x2), none, some (.int x4), none, none, none], [.ref 2], memR s) (some (Value.int q.1)) (memR q.2) := by
  unfold J_X2_link_61_2 at h
  refine mEv.stp 4 (S' := (65, _, [none, some (.int x1), some (.int x2), none, some (.int x4), some (.ref 2), none, none], [.int x2, .int x1], memR s)) rfl ?_
  obtain ⟨v19, e20, h⟩ := bnd h
  refine mEv.callS (As := [.int x1, .int x2]) (st := []) (r := (some (.int v19))) (μ1 := memR s) lk_X2_60 rfl rfl rfl (A_X0_linkCell (d := d + 2) e20) ?_
  refine mEv.stp 0 (S' := (68, _, [none, some (.int x1), some (.int x2), none, some (.int x4), some (.ref 2), none, none], [.int v19], memR s)) rfl ?_
  obtain ⟨g21, h⟩ := gI_some h
  refine mEv.gd 4 (S' := (75, _, [none, some (.int x1), some (.int x2), none, some (.int x4), some (.ref 2), some (.int v19), none], [.int ((gN_w (gR_now s)) (Int32.toNatClampNeg v19))], memR s)) rfl g21 ?_
  obtain ⟨g22, h⟩ := gI_some h
  refine mEv.gd 5 (S' := (84, _, [none, some (.int x1), some (.int x2), none, some (.int x4), some (.ref 2), some (.int v19), some (.int ((gN_w (gR_now s)) (Int32.toNatClampNeg v19)))], [], memRx (gR_sc s) (gR_ns s) (gR_bd s) (gR_no s) (gR_fu s) (mkN (gN_tc (gR_now s)) (gN_hb (gR_now s)) (gN_x (gR_now s)) (gN_hg (gR_now s)) (gN_cc (gR_now s)) (upd (gN_w (gR_now s)) (Int32.toNatClampNeg v19) x4) (gN_r (gR_now s)) (gN_hd (gR_now s)) (gN_st (gR_now s)) (gN_ct (gR_now s)) (gN_tt (gR_now s)) (gN_ld (gR_now s)) (gN_ca (gR_now s))) (gR_tri s) (gR_s0 s) (gR_s1 s) (gR_s2 s) (gR_s3 s) (gR_s4 s) (gR_txt s))) rfl g22 ?_
  obtain rfl := Option.some.inj h
  exact mEv.tgt memR_mk (mEv.stp 1 (S' := (86, _, [none, some (.int x1), some (.int x2), none, some (.int x4), some (.ref 2), some (.int v19), some (.int ((gN_w (gR_now s)) (Int32.toNatClampNeg v19)))], [.int ((gN_w (gR_now s)) (Int32.toNatClampNeg v19))], memRx (gR_sc s) (gR_ns s) (gR_bd s) (gR_no s) (gR_fu s) (mkN (gN_tc (gR_now s)) (gN_hb (gR_now s)) (gN_x (gR_now s)) (gN_hg (gR_now s)) (gN_cc (gR_now s)) (upd (gN_w (gR_now s)) (Int32.toNatClampNeg v19) x4) (gN_r (gR_now s)) (gN_hd (gR_now s)) (gN_st (gR_now s)) (gN_ct (gR_now s)) (gN_tt (gR_now s)) (gN_ld (gR_now s)) (gN_ca (gR_now s))) (gR_tri s) (gR_s0 s) (gR_s1 s) (gR_s2 s) (gR_s3 s) (gR_s4 s) (gR_txt s))) rfl (mEv.reti ⟨_, rfl, rfl⟩))
def F_X2_link (p1 : Int32) (p2 : Int32) (p3 : Int32) (p4 : Int32) (s : RouS) : Option (Int32 × RouS) := (F_X2_isPair p1 p2 s).bind (fun v1 => if v1 = (nI 0) then (J_X2_link_29 s) else ((F_X2_within p3 (nI 0) (nI 1)).bind (fun v6 => if v6 = (nI 0) then (J_X2_link_29 s) else ((F_X2_within p4 (nI 0) (nI 30)).bind (fun v9 => if ¬ v9 = (nI 0) then ((F_X2_keepState s).bind (fun v12 => if ¬ p3 = (nI 0) then (J_X2_link_61 p1 p2 p4 v12) else (J_X2_link_61_2 p1 p2 p4 v12))) else (J_X2_link_29 s))))))
set_option maxRecDepth 100000 in
theorem E_X2_link {d : Nat} {p1 : Int32} {p2 : Int32} {p3 : Int32} {p4 : Int32} {s : RouS} {q : Int32 × RouS} (h : F_X2_link p1 p2 p3 p4 s = some q) : mEv (d + 3) m_X2_link none (0, [], [some (.ref 0), some (.int p1), some (.int p2), some (.int p3), some (.int p4), none, none, none], [], memR s) (some (Value.int q.1)) (memR q.2) := by
  unfold F_X2_link at h
  refine mEv.stp 4 (S' := (3, _, [some (.ref 0), some (.int p1), some (.int p2), some (.int p3), some (.int p4), none, none, none], [.int p2, .int p1, .ref 0], memR s)) rfl ?_
  obtain ⟨v1, e2, h⟩ := bnd h
  refine mEv.callV (As := [.int p1, .int p2]) (st := []) (h := 0) (r := (some (.int v1))) (μ1 := memR s) lk_X2_49 rfl rfl rfl rfl rfl (A_X2_isPair (d := d + 1) e2) ?_
  refine mEv.stp 0 (S' := (6, _, [some (.ref 0), some (.int p1), some (.int p2), some (.int p3), some (.int p4), none, none, none], [.int v1], memR s)) rfl ?_
  refine mEv.br 1 (S1 := (29, [], [some (.ref 0), some (.int p1), some (.int p2), some (.int p3), some (.int p4), none, none, none], [], memR s)) (S2 := (9, _, [some (.ref 0), some (.int p1), some (.int p2), some (.int p3), some (.int p4), none, none, none], [], memR s)) rfl (fun c3 => ?_) (fun c3 => ?_)
  · have h := (if_pos c3).symm.trans h
    refine mEv.fg [1, 2, 3, 4] (z' := [some (.ref 0), none, none, none, none, none, none, none]) rfl ?_
    exact K_X2_link_29 (d := d) h
  · have h := (if_neg c3).symm.trans h
    refine mEv.stp 3 (S' := (12, _, [some (.ref 0), some (.int p1), some (.int p2), some (.int p3), some (.int p4), none, none, none], [.int (nI 1), .int (nI 0), .int p3], memR s)) rfl ?_
    obtain ⟨v6, e7, h⟩ := bnd h
    refine mEv.callS (As := [.int p3, .int (nI 0), .int (nI 1)]) (st := []) (r := (some (.int v6))) (μ1 := memR s) lk_X2_30 rfl rfl rfl (A_X2_within (d := d + 2) e7) ?_
    refine mEv.stp 0 (S' := (15, _, [some (.ref 0), some (.int p1), some (.int p2), some (.int p3), some (.int p4), none, none, none], [.int v6], memR s)) rfl ?_
    refine mEv.br 1 (S1 := (29, [], [some (.ref 0), some (.int p1), some (.int p2), some (.int p3), some (.int p4), none, none, none], [], memR s)) (S2 := (18, _, [some (.ref 0), some (.int p1), some (.int p2), some (.int p3), some (.int p4), none, none, none], [], memR s)) rfl (fun c8 => ?_) (fun c8 => ?_)
    · have h := (if_pos c8).symm.trans h
      refine mEv.fg [1, 2, 3, 4] (z' := [some (.ref 0), none, none, none, none, none, none, none]) rfl ?_
      exact K_X2_link_29 (d := d) h
    · have h := (if_neg c8).symm.trans h
      refine mEv.stp 3 (S' := (23, _, [some (.ref 0), some (.int p1), some (.int p2), some (.int p3), some (.int p4), none, none, none], [.int (nI 30), .int (nI 0), .int p4], memR s)) rfl ?_
      obtain ⟨v9, e10, h⟩ := bnd h
      refine mEv.callS (As := [.int p4, .int (nI 0), .int (nI 30)]) (st := []) (r := (some (.int v9))) (μ1 := memR s) lk_X2_30 rfl rfl rfl (A_X2_within (d := d + 2) e10) ?_
      refine mEv.stp 0 (S' := (26, _, [some (.ref 0), some (.int p1), some (.int p2), some (.int p3), some (.int p4), none, none, none], [.int v9], memR s)) rfl ?_
      refine mEv.br 1 (S1 := (36, [], [some (.ref 0), some (.int p1), some (.int p2), some (.int p3), some (.int p4), none, none, none], [], memR s)) (S2 := (29, [], [some (.ref 0), some (.int p1), some (.int p2), some (.int p3), some (.int p4), none, none, none], [], memR s)) rfl (fun c11 => ?_) (fun c11 => ?_)
      · have h := (if_pos c11).symm.trans h
        refine mEv.stp 2 (S' := (37, _, [some (.ref 0), some (.int p1), some (.int p2), some (.int p3), some (.int p4), none, none, none], [.ref 0], memR s)) rfl ?_
        obtain ⟨v12, e13, h⟩ := bnd h
        refine mEv.callV (As := []) (st := []) (h := 0) (r := none) (μ1 := memR v12) lk_X2_38 rfl rfl rfl rfl rfl (A_X2_keepState (d := d + 0) e13) ?_
        refine mEv.stp 0 (S' := (40, _, [some (.ref 0), some (.int p1), some (.int p2), some (.int p3), some (.int p4), none, none, none], [], memR v12)) rfl ?_
        refine mEv.br 2 (S1 := (54, [], [some (.ref 0), some (.int p1), some (.int p2), some (.int p3), some (.int p4), none, none, none], [], memR v12)) (S2 := (44, _, [some (.ref 0), some (.int p1), some (.int p2), some (.int p3), some (.int p4), none, none, none], [], memR v12)) rfl (fun c14 => ?_) (fun c14 => ?_)
        · have h := (if_pos c14).symm.trans h
          refine mEv.stp 4 (S' := (61, [], [some (.ref 0), some (.int p1), some (.int p2), some (.int p3), some (.int p4), none, none, none], [.ref 3], memR v12)) rfl ?_
          refine mEv.fg [0, 3] (z' := [none, some (.int p1), some (.int p2), none, some (.int p4), none, none, none]) rfl ?_
          exact K_X2_link_61 (d := d) h
        · have h := (if_neg c14).symm.trans h
          refine mEv.stp 4 (S' := (61, [], [some (.ref 0), some (.int p1), some (.int p2), some (.int p3), some (.int p4), none, none, none], [.ref 2], memR v12)) rfl ?_
          refine mEv.fg [0, 3] (z' := [none, some (.int p1), some (.int p2), none, some (.int p4), none, none, none]) rfl ?_
          exact K_X2_link_61_2 (d := d) h
      · have h := (if_neg c11).symm.trans h
        refine mEv.fg [1, 2, 3, 4] (z' := [some (.ref 0), none, none, none, none, none, none, none]) rfl ?_
        exact K_X2_link_29 (d := d) h
theorem A_X2_link {d : Nat} {p1 : Int32} {p2 : Int32} {p3 : Int32} {p4 : Int32} {s : RouS} {q : Int32 × RouS} (h : F_X2_link p1 p2 p3 p4 s = some q) : mCall (d + 3) m_X2_link [.ref 0, .int p1, .int p2, .int p3, .int p4] (memR s) (some (Value.int q.1)) (memR q.2) := mCall.intro ok_X2_link pl_X2_link rfl (E_X2_link (d := d) h)
def J_X2_links_19  (s : RouS) : Option (Int32 × RouS) := (F_X2_refuse (-nI 2) s).bind (fun v4 => some ((v4.1, v4.2)))
set_option maxRecDepth 100000 in
theorem K_X2_links_19 {d : Nat}  {s : RouS} {q : Int32 × RouS} (h : J_X2_links_19 s = some q) : mEv (d + 3) m_X2_links none (19, [], [some (.ref 0), none, none], [], memR s) (some (Value.int q.1)) (memR q.2) := by
  unfold J_X2_links_19 at h
  refine mEv.stp 3 (S' := (22, _, [some (.ref 0), none, none], [.int (-nI 2), .ref 0], memR s)) rfl ?_
  obtain ⟨v4, e5, h⟩ := bnd h
  refine mEv.callV (As := [.int (-nI 2)]) (st := []) (h := 0) (r := (some (.int v4.1))) (μ1 := memR v4.2) lk_X2_34 rfl rfl rfl rfl rfl (A_X2_refuse (d := d + 2) e5) ?_
  refine mEv.stp 0 (S' := (25, _, [some (.ref 0), none, none], [.int v4.1], memR v4.2)) rfl ?_
  obtain rfl := Option.some.inj h
  exact mEv.reti ⟨_, rfl, rfl⟩
def J_X2_links_51 (x2 : Int32) (s : RouS) : Option (Int32 × RouS) := (F_X0_fill x2 36 (gN_r (gR_now s))).bind (fun v12 => gZ (nI 2) (some (((((gN_tc (gR_now s)) * ((gN_tc (gR_now s)) - (nI 1))) / (nI 2)), (mkR (gR_sc s) (gR_ns s) (gR_bd s) (gR_no s) (gR_fu s) (mkN (gN_tc (gR_now s)) (gN_hb (gR_now s)) (gN_x (gR_now s)) (gN_hg (gR_now s)) (gN_cc (gR_now s)) (gN_w (gR_now s)) v12 (gN_hd (gR_now s)) (gN_st (gR_now s)) (gN_ct (gR_now s)) (gN_tt (gR_now s)) (gN_ld (gR_now s)) (gN_ca (gR_now s))) (gR_tri s) (gR_s0 s) (gR_s1 s) (gR_s2 s) (gR_s3 s) (gR_s4 s) (gR_txt s))))))
set_option maxRecDepth 100000 in
theorem K_X2_links_51 {d : Nat} {x2 : Int32} {s : RouS} {q : Int32 × RouS} (h : J_X2_links_51 x2 s = some q) : mEv (d + 3) m_X2_links none (51, [], [some (.ref 0), none, some (.int x2)], [.ref 3], memR s) (some (Value.int q.1)) (memR q.2) := by
  unfold J_X2_links_51 at h
  refine mEv.stp 2 (S' := (52, _, [some (.ref 0), none, some (.int x2)], [.int x2, .ref 3], memR s)) rfl ?_
  obtain ⟨v12, e13, h⟩ := bnd h
  refine mEv.callS (As := [.ref 3, .int x2]) (st := []) (r := none) (μ1 := memRx (gR_sc s) (gR_ns s) (gR_bd s) (gR_no s) (gR_fu s) (mkN (gN_tc (gR_now s)) (gN_hb (gR_now s)) (gN_x (gR_now s)) (gN_hg (gR_now s)) (gN_cc (gR_now s)) (gN_w (gR_now s)) v12 (gN_hd (gR_now s)) (gN_st (gR_now s)) (gN_ct (gR_now s)) (gN_tt (gR_now s)) (gN_ld (gR_now s)) (gN_ca (gR_now s))) (gR_tri s) (gR_s0 s) (gR_s1 s) (gR_s2 s) (gR_s3 s) (gR_s4 s) (gR_txt s)) lk_X2_64 rfl rfl rfl (lf_F3 (as := [.ref 0, .int x2]) (r := none) (A_X0_fill (d := d + 2) e13)) ?_
  refine mEv.stp 0 (S' := (55, _, [some (.ref 0), none, some (.int x2)], [], memRx (gR_sc s) (gR_ns s) (gR_bd s) (gR_no s) (gR_fu s) (mkN (gN_tc (gR_now s)) (gN_hb (gR_now s)) (gN_x (gR_now s)) (gN_hg (gR_now s)) (gN_cc (gR_now s)) (gN_w (gR_now s)) v12 (gN_hd (gR_now s)) (gN_st (gR_now s)) (gN_ct (gR_now s)) (gN_tt (gR_now s)) (gN_ld (gR_now s)) (gN_ca (gR_now s))) (gR_tri s) (gR_s0 s) (gR_s1 s) (gR_s2 s) (gR_s3 s) (gR_s4 s) (gR_txt s))) rfl ?_
  obtain ⟨g14, h⟩ := gZ_some h
  refine mEv.gd 11 (S' := (74, _, [some (.ref 0), none, some (.int x2)], [.int (((gN_tc (gR_now s)) * ((gN_tc (gR_now s)) - (nI 1))) / (nI 2))], memRx (gR_sc s) (gR_ns s) (gR_bd s) (gR_no s) (gR_fu s) (mkN (gN_tc (gR_now s)) (gN_hb (gR_now s)) (gN_x (gR_now s)) (gN_hg (gR_now s)) (gN_cc (gR_now s)) (gN_w (gR_now s)) v12 (gN_hd (gR_now s)) (gN_st (gR_now s)) (gN_ct (gR_now s)) (gN_tt (gR_now s)) (gN_ld (gR_now s)) (gN_ca (gR_now s))) (gR_tri s) (gR_s0 s) (gR_s1 s) (gR_s2 s) (gR_s3 s) (gR_s4 s) (gR_txt s))) rfl g14 ?_
  obtain rfl := Option.some.inj h
  exact mEv.tgt memR_mk (mEv.reti ⟨_, rfl, rfl⟩)
def J_X2_links_51_2 (x2 : Int32) (s : RouS) : Option (Int32 × RouS) := (F_X0_fill x2 36 (gN_w (gR_now s))).bind (fun v15 => gZ (nI 2) (some (((((gN_tc (gR_now s)) * ((gN_tc (gR_now s)) - (nI 1))) / (nI 2)), (mkR (gR_sc s) (gR_ns s) (gR_bd s) (gR_no s) (gR_fu s) (mkN (gN_tc (gR_now s)) (gN_hb (gR_now s)) (gN_x (gR_now s)) (gN_hg (gR_now s)) (gN_cc (gR_now s)) v15 (gN_r (gR_now s)) (gN_hd (gR_now s)) (gN_st (gR_now s)) (gN_ct (gR_now s)) (gN_tt (gR_now s)) (gN_ld (gR_now s)) (gN_ca (gR_now s))) (gR_tri s) (gR_s0 s) (gR_s1 s) (gR_s2 s) (gR_s3 s) (gR_s4 s) (gR_txt s))))))
set_option maxRecDepth 100000 in
theorem K_X2_links_51_2 {d : Nat} {x2 : Int32} {s : RouS} {q : Int32 × RouS} (h : J_X2_links_51_2 x2 s = some q) : mEv (d + 3) m_X2_links none (51, [], [some (.ref 0), none, some (.int x2)], [.ref 2], memR s) (some (Value.int q.1)) (memR q.2) := by
  unfold J_X2_links_51_2 at h
  refine mEv.stp 2 (S' := (52, _, [some (.ref 0), none, some (.int x2)], [.int x2, .ref 2], memR s)) rfl ?_
  obtain ⟨v15, e16, h⟩ := bnd h
  refine mEv.callS (As := [.ref 2, .int x2]) (st := []) (r := none) (μ1 := memRx (gR_sc s) (gR_ns s) (gR_bd s) (gR_no s) (gR_fu s) (mkN (gN_tc (gR_now s)) (gN_hb (gR_now s)) (gN_x (gR_now s)) (gN_hg (gR_now s)) (gN_cc (gR_now s)) v15 (gN_r (gR_now s)) (gN_hd (gR_now s)) (gN_st (gR_now s)) (gN_ct (gR_now s)) (gN_tt (gR_now s)) (gN_ld (gR_now s)) (gN_ca (gR_now s))) (gR_tri s) (gR_s0 s) (gR_s1 s) (gR_s2 s) (gR_s3 s) (gR_s4 s) (gR_txt s)) lk_X2_64 rfl rfl rfl (lf_F2 (as := [.ref 0, .int x2]) (r := none) (A_X0_fill (d := d + 2) e16)) ?_
  refine mEv.stp 0 (S' := (55, _, [some (.ref 0), none, some (.int x2)], [], memRx (gR_sc s) (gR_ns s) (gR_bd s) (gR_no s) (gR_fu s) (mkN (gN_tc (gR_now s)) (gN_hb (gR_now s)) (gN_x (gR_now s)) (gN_hg (gR_now s)) (gN_cc (gR_now s)) v15 (gN_r (gR_now s)) (gN_hd (gR_now s)) (gN_st (gR_now s)) (gN_ct (gR_now s)) (gN_tt (gR_now s)) (gN_ld (gR_now s)) (gN_ca (gR_now s))) (gR_tri s) (gR_s0 s) (gR_s1 s) (gR_s2 s) (gR_s3 s) (gR_s4 s) (gR_txt s))) rfl ?_
  obtain ⟨g17, h⟩ := gZ_some h
  refine mEv.gd 11 (S' := (74, _, [some (.ref 0), none, some (.int x2)], [.int (((gN_tc (gR_now s)) * ((gN_tc (gR_now s)) - (nI 1))) / (nI 2))], memRx (gR_sc s) (gR_ns s) (gR_bd s) (gR_no s) (gR_fu s) (mkN (gN_tc (gR_now s)) (gN_hb (gR_now s)) (gN_x (gR_now s)) (gN_hg (gR_now s)) (gN_cc (gR_now s)) v15 (gN_r (gR_now s)) (gN_hd (gR_now s)) (gN_st (gR_now s)) (gN_ct (gR_now s)) (gN_tt (gR_now s)) (gN_ld (gR_now s)) (gN_ca (gR_now s))) (gR_tri s) (gR_s0 s) (gR_s1 s) (gR_s2 s) (gR_s3 s) (gR_s4 s) (gR_txt s))) rfl g17 ?_
  obtain rfl := Option.some.inj h
  exact mEv.tgt memR_mk (mEv.reti ⟨_, rfl, rfl⟩)
def F_X2_links (p1 : Int32) (p2 : Int32) (s : RouS) : Option (Int32 × RouS) := (F_X2_within p1 (nI 0) (nI 1)).bind (fun v1 => if v1 = (nI 0) then (J_X2_links_19 s) else ((F_X2_within p2 (nI 0) (nI 30)).bind (fun v6 => if ¬ v6 = (nI 0) then ((F_X2_keepState s).bind (fun v9 => if ¬ p1 = (nI 0) then (J_X2_links_51 p2 v9) else (J_X2_links_51_2 p2 v9))) else (J_X2_links_19 s))))
set_option maxRecDepth 100000 in
theorem E_X2_links {d : Nat} {p1 : Int32} {p2 : Int32} {s : RouS} {q : Int32 × RouS} (h : F_X2_links p1 p2 s = some q) : mEv (d + 3) m_X2_links none (0, [], [some (.ref 0), some (.int p1), some (.int p2)], [], memR s) (some (Value.int q.1)) (memR q.2) := by
  unfold F_X2_links at h
  refine mEv.stp 4 (S' := (3, _, [some (.ref 0), some (.int p1), some (.int p2)], [.int (nI 1), .int (nI 0), .int p1], memR s)) rfl ?_
  obtain ⟨v1, e2, h⟩ := bnd h
  refine mEv.callS (As := [.int p1, .int (nI 0), .int (nI 1)]) (st := []) (r := (some (.int v1))) (μ1 := memR s) lk_X2_30 rfl rfl rfl (A_X2_within (d := d + 2) e2) ?_
  refine mEv.stp 0 (S' := (6, _, [some (.ref 0), some (.int p1), some (.int p2)], [.int v1], memR s)) rfl ?_
  refine mEv.br 1 (S1 := (19, [], [some (.ref 0), some (.int p1), some (.int p2)], [], memR s)) (S2 := (9, _, [some (.ref 0), some (.int p1), some (.int p2)], [], memR s)) rfl (fun c3 => ?_) (fun c3 => ?_)
  · have h := (if_pos c3).symm.trans h
    refine mEv.fg [1, 2] (z' := [some (.ref 0), none, none]) rfl ?_
    exact K_X2_links_19 (d := d) h
  · have h := (if_neg c3).symm.trans h
    refine mEv.stp 3 (S' := (13, _, [some (.ref 0), some (.int p1), some (.int p2)], [.int (nI 30), .int (nI 0), .int p2], memR s)) rfl ?_
    obtain ⟨v6, e7, h⟩ := bnd h
    refine mEv.callS (As := [.int p2, .int (nI 0), .int (nI 30)]) (st := []) (r := (some (.int v6))) (μ1 := memR s) lk_X2_30 rfl rfl rfl (A_X2_within (d := d + 2) e7) ?_
    refine mEv.stp 0 (S' := (16, _, [some (.ref 0), some (.int p1), some (.int p2)], [.int v6], memR s)) rfl ?_
    refine mEv.br 1 (S1 := (26, [], [some (.ref 0), some (.int p1), some (.int p2)], [], memR s)) (S2 := (19, [], [some (.ref 0), some (.int p1), some (.int p2)], [], memR s)) rfl (fun c8 => ?_) (fun c8 => ?_)
    · have h := (if_pos c8).symm.trans h
      refine mEv.stp 2 (S' := (27, _, [some (.ref 0), some (.int p1), some (.int p2)], [.ref 0], memR s)) rfl ?_
      obtain ⟨v9, e10, h⟩ := bnd h
      refine mEv.callV (As := []) (st := []) (h := 0) (r := none) (μ1 := memR v9) lk_X2_38 rfl rfl rfl rfl rfl (A_X2_keepState (d := d + 0) e10) ?_
      refine mEv.stp 0 (S' := (30, _, [some (.ref 0), some (.int p1), some (.int p2)], [], memR v9)) rfl ?_
      refine mEv.br 2 (S1 := (44, [], [some (.ref 0), some (.int p1), some (.int p2)], [], memR v9)) (S2 := (34, _, [some (.ref 0), some (.int p1), some (.int p2)], [], memR v9)) rfl (fun c11 => ?_) (fun c11 => ?_)
      · have h := (if_pos c11).symm.trans h
        refine mEv.stp 4 (S' := (51, [], [some (.ref 0), some (.int p1), some (.int p2)], [.ref 3], memR v9)) rfl ?_
        refine mEv.fg [1] (z' := [some (.ref 0), none, some (.int p2)]) rfl ?_
        exact K_X2_links_51 (d := d) h
      · have h := (if_neg c11).symm.trans h
        refine mEv.stp 4 (S' := (51, [], [some (.ref 0), some (.int p1), some (.int p2)], [.ref 2], memR v9)) rfl ?_
        refine mEv.fg [1] (z' := [some (.ref 0), none, some (.int p2)]) rfl ?_
        exact K_X2_links_51_2 (d := d) h
    · have h := (if_neg c8).symm.trans h
      refine mEv.fg [1, 2] (z' := [some (.ref 0), none, none]) rfl ?_
      exact K_X2_links_19 (d := d) h
theorem A_X2_links {d : Nat} {p1 : Int32} {p2 : Int32} {s : RouS} {q : Int32 × RouS} (h : F_X2_links p1 p2 s = some q) : mCall (d + 3) m_X2_links [.ref 0, .int p1, .int p2] (memR s) (some (Value.int q.1)) (memR q.2) := mCall.intro ok_X2_links pl_X2_links rfl (E_X2_links (d := d) h)
def F_X2_back (p1 : Int32) (s : RouS) : Option (Int32 × RouS) := (F_X2_within p1 (nI 0) (nI 1)).bind (fun v1 => if ¬ v1 = (nI 0) then ((F_X2_keepState s).bind (fun v4 => some (((gN_hb (gR_now v4)), (mkR (gR_sc v4) (gR_ns v4) (gR_bd v4) (gR_no v4) (gR_fu v4) (mkN (gN_tc (gR_now v4)) p1 (gN_x (gR_now v4)) (gN_hg (gR_now v4)) (gN_cc (gR_now v4)) (gN_w (gR_now v4)) (gN_r (gR_now v4)) (gN_hd (gR_now v4)) (gN_st (gR_now v4)) (gN_ct (gR_now v4)) (gN_tt (gR_now v4)) (gN_ld (gR_now v4)) (gN_ca (gR_now v4))) (gR_tri v4) (gR_s0 v4) (gR_s1 v4) (gR_s2 v4) (gR_s3 v4) (gR_s4 v4) (gR_txt v4)))))) else ((F_X2_refuse (-nI 2) s).bind (fun v6 => some ((v6.1, v6.2)))))
set_option maxRecDepth 100000 in
theorem E_X2_back {d : Nat} {p1 : Int32} {s : RouS} {q : Int32 × RouS} (h : F_X2_back p1 s = some q) : mEv (d + 3) m_X2_back none (0, [], [some (.ref 0), some (.int p1), none], [], memR s) (some (Value.int q.1)) (memR q.2) := by
  unfold F_X2_back at h
  refine mEv.stp 4 (S' := (3, _, [some (.ref 0), some (.int p1), none], [.int (nI 1), .int (nI 0), .int p1], memR s)) rfl ?_
  obtain ⟨v1, e2, h⟩ := bnd h
  refine mEv.callS (As := [.int p1, .int (nI 0), .int (nI 1)]) (st := []) (r := (some (.int v1))) (μ1 := memR s) lk_X2_30 rfl rfl rfl (A_X2_within (d := d + 2) e2) ?_
  refine mEv.stp 0 (S' := (6, _, [some (.ref 0), some (.int p1), none], [.int v1], memR s)) rfl ?_
  refine mEv.br 1 (S1 := (16, [], [some (.ref 0), some (.int p1), none], [], memR s)) (S2 := (9, _, [some (.ref 0), some (.int p1), none], [], memR s)) rfl (fun c3 => ?_) (fun c3 => ?_)
  · have h := (if_pos c3).symm.trans h
    refine mEv.stp 2 (S' := (17, _, [some (.ref 0), some (.int p1), none], [.ref 0], memR s)) rfl ?_
    obtain ⟨v4, e5, h⟩ := bnd h
    refine mEv.callV (As := []) (st := []) (h := 0) (r := none) (μ1 := memR v4) lk_X2_38 rfl rfl rfl rfl rfl (A_X2_keepState (d := d + 0) e5) ?_
    refine mEv.stp 0 (S' := (20, _, [some (.ref 0), some (.int p1), none], [], memR v4)) rfl ?_
    obtain rfl := Option.some.inj h
    exact mEv.tgt memR_mk (mEv.stp 9 (S' := (37, _, [some (.ref 0), some (.int p1), some (.int (gN_hb (gR_now v4)))], [.int (gN_hb (gR_now v4))], memRx (gR_sc v4) (gR_ns v4) (gR_bd v4) (gR_no v4) (gR_fu v4) (mkN (gN_tc (gR_now v4)) p1 (gN_x (gR_now v4)) (gN_hg (gR_now v4)) (gN_cc (gR_now v4)) (gN_w (gR_now v4)) (gN_r (gR_now v4)) (gN_hd (gR_now v4)) (gN_st (gR_now v4)) (gN_ct (gR_now v4)) (gN_tt (gR_now v4)) (gN_ld (gR_now v4)) (gN_ca (gR_now v4))) (gR_tri v4) (gR_s0 v4) (gR_s1 v4) (gR_s2 v4) (gR_s3 v4) (gR_s4 v4) (gR_txt v4))) rfl (mEv.reti ⟨_, rfl, rfl⟩))
  · have h := (if_neg c3).symm.trans h
    refine mEv.stp 2 (S' := (12, _, [some (.ref 0), some (.int p1), none], [.int (-nI 2), .ref 0], memR s)) rfl ?_
    obtain ⟨v6, e7, h⟩ := bnd h
    refine mEv.callV (As := [.int (-nI 2)]) (st := []) (h := 0) (r := (some (.int v6.1))) (μ1 := memR v6.2) lk_X2_34 rfl rfl rfl rfl rfl (A_X2_refuse (d := d + 2) e7) ?_
    refine mEv.stp 0 (S' := (15, _, [some (.ref 0), some (.int p1), none], [.int v6.1], memR v6.2)) rfl ?_
    obtain rfl := Option.some.inj h
    exact mEv.reti ⟨_, rfl, rfl⟩
theorem A_X2_back {d : Nat} {p1 : Int32} {s : RouS} {q : Int32 × RouS} (h : F_X2_back p1 s = some q) : mCall (d + 3) m_X2_back [.ref 0, .int p1] (memR s) (some (Value.int q.1)) (memR q.2) := mCall.intro ok_X2_back pl_X2_back rfl (E_X2_back (d := d) h)
def J_X2_load_20  (s : RouS) : Option (Int32 × RouS) := (F_X2_refuse (-nI 2) s).bind (fun v4 => some ((v4.1, v4.2)))
set_option maxRecDepth 100000 in
theorem K_X2_load_20 {d : Nat}  {s : RouS} {q : Int32 × RouS} (h : J_X2_load_20 s = some q) : mEv (d + 3) m_X2_load none (20, [], [some (.ref 0), none, none, none], [], memR s) (some (Value.int q.1)) (memR q.2) := by
  unfold J_X2_load_20 at h
  refine mEv.stp 3 (S' := (23, _, [some (.ref 0), none, none, none], [.int (-nI 2), .ref 0], memR s)) rfl ?_
  obtain ⟨v4, e5, h⟩ := bnd h
  refine mEv.callV (As := [.int (-nI 2)]) (st := []) (h := 0) (r := (some (.int v4.1))) (μ1 := memR v4.2) lk_X2_34 rfl rfl rfl rfl rfl (A_X2_refuse (d := d + 2) e5) ?_
  refine mEv.stp 0 (S' := (26, _, [some (.ref 0), none, none, none], [.int v4.1], memR v4.2)) rfl ?_
  obtain rfl := Option.some.inj h
  exact mEv.reti ⟨_, rfl, rfl⟩
def F_X2_load (p1 : Int32) (p2 : Int32) (s : RouS) : Option (Int32 × RouS) := (F_X2_within p1 (nI 0) (nI 23)).bind (fun v1 => if v1 = (nI 0) then (J_X2_load_20 s) else ((F_X2_within p2 (nI 0) (nI 9)).bind (fun v6 => if ¬ v6 = (nI 0) then ((F_X2_keepState s).bind (fun v9 => gI p1 24 (gI p1 24 (some ((((gN_ld (gR_now v9)) (Int32.toNatClampNeg p1)), (mkR (gR_sc v9) (gR_ns v9) (gR_bd v9) (gR_no v9) (gR_fu v9) (mkN (gN_tc (gR_now v9)) (gN_hb (gR_now v9)) (gN_x (gR_now v9)) (gN_hg (gR_now v9)) (gN_cc (gR_now v9)) (gN_w (gR_now v9)) (gN_r (gR_now v9)) (gN_hd (gR_now v9)) (gN_st (gR_now v9)) (gN_ct (gR_now v9)) (gN_tt (gR_now v9)) (upd (gN_ld (gR_now v9)) (Int32.toNatClampNeg p1) p2) (gN_ca (gR_now v9))) (gR_tri v9) (gR_s0 v9) (gR_s1 v9) (gR_s2 v9) (gR_s3 v9) (gR_s4 v9) (gR_txt v9)))))))) else (J_X2_load_20 s))))
set_option maxRecDepth 100000 in
theorem E_X2_load {d : Nat} {p1 : Int32} {p2 : Int32} {s : RouS} {q : Int32 × RouS} (h : F_X2_load p1 p2 s = some q) : mEv (d + 3) m_X2_load none (0, [], [some (.ref 0), some (.int p1), some (.int p2), none], [], memR s) (some (Value.int q.1)) (memR q.2) := by
  unfold F_X2_load at h
  refine mEv.stp 4 (S' := (4, _, [some (.ref 0), some (.int p1), some (.int p2), none], [.int (nI 23), .int (nI 0), .int p1], memR s)) rfl ?_
  obtain ⟨v1, e2, h⟩ := bnd h
  refine mEv.callS (As := [.int p1, .int (nI 0), .int (nI 23)]) (st := []) (r := (some (.int v1))) (μ1 := memR s) lk_X2_30 rfl rfl rfl (A_X2_within (d := d + 2) e2) ?_
  refine mEv.stp 0 (S' := (7, _, [some (.ref 0), some (.int p1), some (.int p2), none], [.int v1], memR s)) rfl ?_
  refine mEv.br 1 (S1 := (20, [], [some (.ref 0), some (.int p1), some (.int p2), none], [], memR s)) (S2 := (10, _, [some (.ref 0), some (.int p1), some (.int p2), none], [], memR s)) rfl (fun c3 => ?_) (fun c3 => ?_)
  · have h := (if_pos c3).symm.trans h
    refine mEv.fg [1, 2] (z' := [some (.ref 0), none, none, none]) rfl ?_
    exact K_X2_load_20 (d := d) h
  · have h := (if_neg c3).symm.trans h
    refine mEv.stp 3 (S' := (14, _, [some (.ref 0), some (.int p1), some (.int p2), none], [.int (nI 9), .int (nI 0), .int p2], memR s)) rfl ?_
    obtain ⟨v6, e7, h⟩ := bnd h
    refine mEv.callS (As := [.int p2, .int (nI 0), .int (nI 9)]) (st := []) (r := (some (.int v6))) (μ1 := memR s) lk_X2_30 rfl rfl rfl (A_X2_within (d := d + 2) e7) ?_
    refine mEv.stp 0 (S' := (17, _, [some (.ref 0), some (.int p1), some (.int p2), none], [.int v6], memR s)) rfl ?_
    refine mEv.br 1 (S1 := (27, [], [some (.ref 0), some (.int p1), some (.int p2), none], [], memR s)) (S2 := (20, [], [some (.ref 0), some (.int p1), some (.int p2), none], [], memR s)) rfl (fun c8 => ?_) (fun c8 => ?_)
    · have h := (if_pos c8).symm.trans h
      refine mEv.stp 2 (S' := (28, _, [some (.ref 0), some (.int p1), some (.int p2), none], [.ref 0], memR s)) rfl ?_
      obtain ⟨v9, e10, h⟩ := bnd h
      refine mEv.callV (As := []) (st := []) (h := 0) (r := none) (μ1 := memR v9) lk_X2_38 rfl rfl rfl rfl rfl (A_X2_keepState (d := d + 0) e10) ?_
      refine mEv.stp 0 (S' := (31, _, [some (.ref 0), some (.int p1), some (.int p2), none], [], memR v9)) rfl ?_
      obtain ⟨g11, h⟩ := gI_some h
      refine mEv.gd 5 (S' := (40, _, [some (.ref 0), some (.int p1), some (.int p2), none], [.int ((gN_ld (gR_now v9)) (Int32.toNatClampNeg p1))], memR v9)) rfl g11 ?_
      obtain ⟨g12, h⟩ := gI_some h
      refine mEv.gd 7 (S' := (51, _, [some (.ref 0), some (.int p1), some (.int p2), some (.int ((gN_ld (gR_now v9)) (Int32.toNatClampNeg p1)))], [], memRx (gR_sc v9) (gR_ns v9) (gR_bd v9) (gR_no v9) (gR_fu v9) (mkN (gN_tc (gR_now v9)) (gN_hb (gR_now v9)) (gN_x (gR_now v9)) (gN_hg (gR_now v9)) (gN_cc (gR_now v9)) (gN_w (gR_now v9)) (gN_r (gR_now v9)) (gN_hd (gR_now v9)) (gN_st (gR_now v9)) (gN_ct (gR_now v9)) (gN_tt (gR_now v9)) (upd (gN_ld (gR_now v9)) (Int32.toNatClampNeg p1) p2) (gN_ca (gR_now v9))) (gR_tri v9) (gR_s0 v9) (gR_s1 v9) (gR_s2 v9) (gR_s3 v9) (gR_s4 v9) (gR_txt v9))) rfl g12 ?_
      obtain rfl := Option.some.inj h
      exact mEv.tgt memR_mk (mEv.stp 1 (S' := (52, _, [some (.ref 0), some (.int p1), some (.int p2), some (.int ((gN_ld (gR_now v9)) (Int32.toNatClampNeg p1)))], [.int ((gN_ld (gR_now v9)) (Int32.toNatClampNeg p1))], memRx (gR_sc v9) (gR_ns v9) (gR_bd v9) (gR_no v9) (gR_fu v9) (mkN (gN_tc (gR_now v9)) (gN_hb (gR_now v9)) (gN_x (gR_now v9)) (gN_hg (gR_now v9)) (gN_cc (gR_now v9)) (gN_w (gR_now v9)) (gN_r (gR_now v9)) (gN_hd (gR_now v9)) (gN_st (gR_now v9)) (gN_ct (gR_now v9)) (gN_tt (gR_now v9)) (upd (gN_ld (gR_now v9)) (Int32.toNatClampNeg p1) p2) (gN_ca (gR_now v9))) (gR_tri v9) (gR_s0 v9) (gR_s1 v9) (gR_s2 v9) (gR_s3 v9) (gR_s4 v9) (gR_txt v9))) rfl (mEv.reti ⟨_, rfl, rfl⟩))
    · have h := (if_neg c8).symm.trans h
      refine mEv.fg [1, 2] (z' := [some (.ref 0), none, none, none]) rfl ?_
      exact K_X2_load_20 (d := d) h
theorem A_X2_load {d : Nat} {p1 : Int32} {p2 : Int32} {s : RouS} {q : Int32 × RouS} (h : F_X2_load p1 p2 s = some q) : mCall (d + 3) m_X2_load [.ref 0, .int p1, .int p2] (memR s) (some (Value.int q.1)) (memR q.2) := mCall.intro ok_X2_load pl_X2_load rfl (E_X2_load (d := d) h)
def F_X2_seed (p1 : Int32) (s : RouS) : Option (Int32 × RouS) := (F_X2_within p1 (nI 0) (nI 999999)).bind (fun v1 => if ¬ v1 = (nI 0) then ((F_X2_keepState s).bind (fun v4 => some (((nI 1), (mkR (gR_sc v4) (gR_ns v4) (gR_bd v4) (gR_no v4) (gR_fu v4) (mkN (gN_tc (gR_now v4)) (gN_hb (gR_now v4)) p1 (gN_hg (gR_now v4)) (gN_cc (gR_now v4)) (gN_w (gR_now v4)) (gN_r (gR_now v4)) (gN_hd (gR_now v4)) (gN_st (gR_now v4)) (gN_ct (gR_now v4)) (gN_tt (gR_now v4)) (gN_ld (gR_now v4)) (gN_ca (gR_now v4))) (gR_tri v4) (gR_s0 v4) (gR_s1 v4) (gR_s2 v4) (gR_s3 v4) (gR_s4 v4) (gR_txt v4)))))) else ((F_X2_refuse (-nI 2) s).bind (fun v6 => some ((v6.1, v6.2)))))
set_option maxRecDepth 100000 in
theorem E_X2_seed {d : Nat} {p1 : Int32} {s : RouS} {q : Int32 × RouS} (h : F_X2_seed p1 s = some q) : mEv (d + 3) m_X2_seed none (0, [], [some (.ref 0), some (.int p1)], [], memR s) (some (Value.int q.1)) (memR q.2) := by
  unfold F_X2_seed at h
  refine mEv.stp 4 (S' := (4, _, [some (.ref 0), some (.int p1)], [.int (nI 999999), .int (nI 0), .int p1], memR s)) rfl ?_
  obtain ⟨v1, e2, h⟩ := bnd h
  refine mEv.callS (As := [.int p1, .int (nI 0), .int (nI 999999)]) (st := []) (r := (some (.int v1))) (μ1 := memR s) lk_X2_30 rfl rfl rfl (A_X2_within (d := d + 2) e2) ?_
  refine mEv.stp 0 (S' := (7, _, [some (.ref 0), some (.int p1)], [.int v1], memR s)) rfl ?_
  refine mEv.br 1 (S1 := (17, [], [some (.ref 0), some (.int p1)], [], memR s)) (S2 := (10, _, [some (.ref 0), some (.int p1)], [], memR s)) rfl (fun c3 => ?_) (fun c3 => ?_)
  · have h := (if_pos c3).symm.trans h
    refine mEv.stp 2 (S' := (18, _, [some (.ref 0), some (.int p1)], [.ref 0], memR s)) rfl ?_
    obtain ⟨v4, e5, h⟩ := bnd h
    refine mEv.callV (As := []) (st := []) (h := 0) (r := none) (μ1 := memR v4) lk_X2_38 rfl rfl rfl rfl rfl (A_X2_keepState (d := d + 0) e5) ?_
    refine mEv.stp 0 (S' := (21, _, [some (.ref 0), some (.int p1)], [], memR v4)) rfl ?_
    obtain rfl := Option.some.inj h
    exact mEv.tgt memR_mk (mEv.stp 5 (S' := (30, _, [some (.ref 0), some (.int p1)], [.int (nI 1)], memRx (gR_sc v4) (gR_ns v4) (gR_bd v4) (gR_no v4) (gR_fu v4) (mkN (gN_tc (gR_now v4)) (gN_hb (gR_now v4)) p1 (gN_hg (gR_now v4)) (gN_cc (gR_now v4)) (gN_w (gR_now v4)) (gN_r (gR_now v4)) (gN_hd (gR_now v4)) (gN_st (gR_now v4)) (gN_ct (gR_now v4)) (gN_tt (gR_now v4)) (gN_ld (gR_now v4)) (gN_ca (gR_now v4))) (gR_tri v4) (gR_s0 v4) (gR_s1 v4) (gR_s2 v4) (gR_s3 v4) (gR_s4 v4) (gR_txt v4))) rfl (mEv.reti ⟨_, rfl, rfl⟩))
  · have h := (if_neg c3).symm.trans h
    refine mEv.stp 2 (S' := (13, _, [some (.ref 0), some (.int p1)], [.int (-nI 2), .ref 0], memR s)) rfl ?_
    obtain ⟨v6, e7, h⟩ := bnd h
    refine mEv.callV (As := [.int (-nI 2)]) (st := []) (h := 0) (r := (some (.int v6.1))) (μ1 := memR v6.2) lk_X2_34 rfl rfl rfl rfl rfl (A_X2_refuse (d := d + 2) e7) ?_
    refine mEv.stp 0 (S' := (16, _, [some (.ref 0), some (.int p1)], [.int v6.1], memR v6.2)) rfl ?_
    obtain rfl := Option.some.inj h
    exact mEv.reti ⟨_, rfl, rfl⟩
theorem A_X2_seed {d : Nat} {p1 : Int32} {s : RouS} {q : Int32 × RouS} (h : F_X2_seed p1 s = some q) : mCall (d + 3) m_X2_seed [.ref 0, .int p1] (memR s) (some (Value.int q.1)) (memR q.2) := mCall.intro ok_X2_seed pl_X2_seed rfl (E_X2_seed (d := d) h)
def J_X2_of_18  (s : RouS) : Option (Int32 × RouS) := (F_X2_refuse (-nI 2) s).bind (fun v4 => some ((v4.1, v4.2)))
set_option maxRecDepth 100000 in
theorem K_X2_of_18 {d : Nat}  {s : RouS} {q : Int32 × RouS} (h : J_X2_of_18 s = some q) : mEv (d + 2) m_X2_of none (18, [], [some (.ref 0), none, none, none, none], [], memR s) (some (Value.int q.1)) (memR q.2) := by
  unfold J_X2_of_18 at h
  refine mEv.stp 3 (S' := (21, _, [some (.ref 0), none, none, none, none], [.int (-nI 2), .ref 0], memR s)) rfl ?_
  obtain ⟨v4, e5, h⟩ := bnd h
  refine mEv.callV (As := [.int (-nI 2)]) (st := []) (h := 0) (r := (some (.int v4.1))) (μ1 := memR v4.2) lk_X2_34 rfl rfl rfl rfl rfl (A_X2_refuse (d := d + 1) e5) ?_
  refine mEv.stp 0 (S' := (24, _, [some (.ref 0), none, none, none, none], [.int v4.1], memR v4.2)) rfl ?_
  obtain rfl := Option.some.inj h
  exact mEv.reti ⟨_, rfl, rfl⟩
def F_X2_of (p1 : Int32) (p2 : Int32) (p3 : Int32) (s : RouS) : Option (Int32 × RouS) := (F_X2_isPair p1 p2 s).bind (fun v1 => if v1 = (nI 0) then (J_X2_of_18 s) else ((F_X2_within p3 (nI 0) (nI 3)).bind (fun v6 => if ¬ v6 = (nI 0) then ((F_X0_linkCell p1 p2).bind (fun v9 => if p3 = (nI 0) then (gI v9 36 (some ((((gN_w (gR_now s)) (Int32.toNatClampNeg v9)), s)))) else (if p3 = (nI 1) then (gI v9 36 (some ((((gN_r (gR_now s)) (Int32.toNatClampNeg v9)), s)))) else (if p3 = (nI 2) then ((F_X0_freeWires v9 (gR_now s)).bind (fun v16 => some ((v16, s)))) else ((F_X0_callsOverLink v9 (gR_now s)).bind (fun v18 => some ((v18, s)))))))) else (J_X2_of_18 s))))
set_option maxRecDepth 100000 in
theorem E_X2_of {d : Nat} {p1 : Int32} {p2 : Int32} {p3 : Int32} {s : RouS} {q : Int32 × RouS} (h : F_X2_of p1 p2 p3 s = some q) : mEv (d + 2) m_X2_of none (0, [], [some (.ref 0), some (.int p1), some (.int p2), some (.int p3), none], [], memR s) (some (Value.int q.1)) (memR q.2) := by
  unfold F_X2_of at h
  refine mEv.stp 4 (S' := (3, _, [some (.ref 0), some (.int p1), some (.int p2), some (.int p3), none], [.int p2, .int p1, .ref 0], memR s)) rfl ?_
  obtain ⟨v1, e2, h⟩ := bnd h
  refine mEv.callV (As := [.int p1, .int p2]) (st := []) (h := 0) (r := (some (.int v1))) (μ1 := memR s) lk_X2_49 rfl rfl rfl rfl rfl (A_X2_isPair (d := d + 0) e2) ?_
  refine mEv.stp 0 (S' := (6, _, [some (.ref 0), some (.int p1), some (.int p2), some (.int p3), none], [.int v1], memR s)) rfl ?_
  refine mEv.br 1 (S1 := (18, [], [some (.ref 0), some (.int p1), some (.int p2), some (.int p3), none], [], memR s)) (S2 := (9, _, [some (.ref 0), some (.int p1), some (.int p2), some (.int p3), none], [], memR s)) rfl (fun c3 => ?_) (fun c3 => ?_)
  · have h := (if_pos c3).symm.trans h
    refine mEv.fg [1, 2, 3] (z' := [some (.ref 0), none, none, none, none]) rfl ?_
    exact K_X2_of_18 (d := d) h
  · have h := (if_neg c3).symm.trans h
    refine mEv.stp 3 (S' := (12, _, [some (.ref 0), some (.int p1), some (.int p2), some (.int p3), none], [.int (nI 3), .int (nI 0), .int p3], memR s)) rfl ?_
    obtain ⟨v6, e7, h⟩ := bnd h
    refine mEv.callS (As := [.int p3, .int (nI 0), .int (nI 3)]) (st := []) (r := (some (.int v6))) (μ1 := memR s) lk_X2_30 rfl rfl rfl (A_X2_within (d := d + 1) e7) ?_
    refine mEv.stp 0 (S' := (15, _, [some (.ref 0), some (.int p1), some (.int p2), some (.int p3), none], [.int v6], memR s)) rfl ?_
    refine mEv.br 1 (S1 := (25, [], [some (.ref 0), some (.int p1), some (.int p2), some (.int p3), none], [], memR s)) (S2 := (18, [], [some (.ref 0), some (.int p1), some (.int p2), some (.int p3), none], [], memR s)) rfl (fun c8 => ?_) (fun c8 => ?_)
    · have h := (if_pos c8).symm.trans h
      refine mEv.stp 3 (S' := (27, _, [some (.ref 0), some (.int p1), some (.int p2), some (.int p3), none], [.int p2, .int p1], memR s)) rfl ?_
      obtain ⟨v9, e10, h⟩ := bnd h
      refine mEv.callS (As := [.int p1, .int p2]) (st := []) (r := (some (.int v9))) (μ1 := memR s) lk_X2_60 rfl rfl rfl (A_X0_linkCell (d := d + 1) e10) ?_
      refine mEv.stp 0 (S' := (30, _, [some (.ref 0), some (.int p1), some (.int p2), some (.int p3), none], [.int v9], memR s)) rfl ?_
      refine mEv.stp 3 (S' := (mSw p3 [(nI 0, 60), (nI 1, 71), (nI 2, 82)] 92, [], [some (.ref 0), some (.int p1), some (.int p2), some (.int p3), some (.int v9)], [], memR s)) rfl ?_
      refine mEv.sw (fun c11 => ?_) (fun c11 => ?_)
      · have h := (if_pos c11).symm.trans h
        obtain ⟨g12, h⟩ := gI_some h
        refine mEv.gd 6 (S' := (70, _, [some (.ref 0), some (.int p1), some (.int p2), some (.int p3), some (.int v9)], [.int ((gN_w (gR_now s)) (Int32.toNatClampNeg v9))], memR s)) rfl g12 ?_
        obtain rfl := Option.some.inj h
        exact mEv.reti ⟨_, rfl, rfl⟩
      · have h := (if_neg c11).symm.trans h
        refine mEv.sw (fun c13 => ?_) (fun c13 => ?_)
        · have h := (if_pos c13).symm.trans h
          obtain ⟨g14, h⟩ := gI_some h
          refine mEv.gd 6 (S' := (81, _, [some (.ref 0), some (.int p1), some (.int p2), some (.int p3), some (.int v9)], [.int ((gN_r (gR_now s)) (Int32.toNatClampNeg v9))], memR s)) rfl g14 ?_
          obtain rfl := Option.some.inj h
          exact mEv.reti ⟨_, rfl, rfl⟩
        · have h := (if_neg c13).symm.trans h
          refine mEv.sw (fun c15 => ?_) (fun c15 => ?_)
          · have h := (if_pos c15).symm.trans h
            refine mEv.stp 4 (S' := (88, _, [some (.ref 0), some (.int p1), some (.int p2), some (.int p3), some (.int v9)], [.int v9, .ref 1], memR s)) rfl ?_
            obtain ⟨v16, e17, h⟩ := bnd h
            refine mEv.callV (As := [.int v9]) (st := []) (h := 1) (r := (some (.int v16))) (μ1 := memR s) lk_X2_78 rfl rfl rfl rfl rfl (lf_N1 (as := [.ref 0, .int v9]) (r := (some (.int v16))) (A_X0_freeWires (d := d + 1) e17)) ?_
            refine mEv.stp 0 (S' := (91, _, [some (.ref 0), some (.int p1), some (.int p2), some (.int p3), some (.int v9)], [.int v16], memR s)) rfl ?_
            obtain rfl := Option.some.inj h
            exact mEv.reti ⟨_, rfl, rfl⟩
          · have h := (if_neg c15).symm.trans h
            refine mEv.stp 0 (S' := (92, [], [some (.ref 0), some (.int p1), some (.int p2), some (.int p3), some (.int v9)], [], memR s)) rfl ?_
            refine mEv.stp 4 (S' := (98, _, [some (.ref 0), some (.int p1), some (.int p2), some (.int p3), some (.int v9)], [.int v9, .ref 1], memR s)) rfl ?_
            obtain ⟨v18, e19, h⟩ := bnd h
            refine mEv.callV (As := [.int v9]) (st := []) (h := 1) (r := (some (.int v18))) (μ1 := memR s) lk_X2_81 rfl rfl rfl rfl rfl (lf_N1 (as := [.ref 0, .int v9]) (r := (some (.int v18))) (A_X0_callsOverLink (d := d + 0) e19)) ?_
            refine mEv.stp 0 (S' := (101, _, [some (.ref 0), some (.int p1), some (.int p2), some (.int p3), some (.int v9)], [.int v18], memR s)) rfl ?_
            obtain rfl := Option.some.inj h
            exact mEv.reti ⟨_, rfl, rfl⟩
    · have h := (if_neg c8).symm.trans h
      refine mEv.fg [1, 2, 3] (z' := [some (.ref 0), none, none, none, none]) rfl ?_
      exact K_X2_of_18 (d := d) h
theorem A_X2_of {d : Nat} {p1 : Int32} {p2 : Int32} {p3 : Int32} {s : RouS} {q : Int32 × RouS} (h : F_X2_of p1 p2 p3 s = some q) : mCall (d + 2) m_X2_of [.ref 0, .int p1, .int p2, .int p3] (memR s) (some (Value.int q.1)) (memR q.2) := mCall.intro ok_X2_of pl_X2_of rfl (E_X2_of (d := d) h)
def F_X2_sticky (p1 : Int32) (p2 : Int32) (s : RouS) : Option (Int32 × RouS) := (F_X2_isPair p1 p2 s).bind (fun v1 => if v1 = (nI 0) then ((F_X2_refuse (-nI 2) s).bind (fun v4 => some ((v4.1, v4.2)))) else ((F_X0_pairCell p1 p2).bind (fun v6 => gI v6 36 (some ((((gN_st (gR_now s)) (Int32.toNatClampNeg v6)), s))))))
set_option maxRecDepth 100000 in
theorem E_X2_sticky {d : Nat} {p1 : Int32} {p2 : Int32} {s : RouS} {q : Int32 × RouS} (h : F_X2_sticky p1 p2 s = some q) : mEv (d + 2) m_X2_sticky none (0, [], [some (.ref 0), some (.int p1), some (.int p2)], [], memR s) (some (Value.int q.1)) (memR q.2) := by
  unfold F_X2_sticky at h
  refine mEv.stp 4 (S' := (3, _, [some (.ref 0), some (.int p1), some (.int p2)], [.int p2, .int p1, .ref 0], memR s)) rfl ?_
  obtain ⟨v1, e2, h⟩ := bnd h
  refine mEv.callV (As := [.int p1, .int p2]) (st := []) (h := 0) (r := (some (.int v1))) (μ1 := memR s) lk_X2_49 rfl rfl rfl rfl rfl (A_X2_isPair (d := d + 0) e2) ?_
  refine mEv.stp 0 (S' := (6, _, [some (.ref 0), some (.int p1), some (.int p2)], [.int v1], memR s)) rfl ?_
  refine mEv.br 1 (S1 := (25, [], [some (.ref 0), some (.int p1), some (.int p2)], [], memR s)) (S2 := (9, _, [some (.ref 0), some (.int p1), some (.int p2)], [], memR s)) rfl (fun c3 => ?_) (fun c3 => ?_)
  · have h := (if_pos c3).symm.trans h
    refine mEv.stp 3 (S' := (28, _, [some (.ref 0), some (.int p1), some (.int p2)], [.int (-nI 2), .ref 0], memR s)) rfl ?_
    obtain ⟨v4, e5, h⟩ := bnd h
    refine mEv.callV (As := [.int (-nI 2)]) (st := []) (h := 0) (r := (some (.int v4.1))) (μ1 := memR v4.2) lk_X2_34 rfl rfl rfl rfl rfl (A_X2_refuse (d := d + 1) e5) ?_
    refine mEv.stp 0 (S' := (31, [], [some (.ref 0), some (.int p1), some (.int p2)], [.int v4.1], memR v4.2)) rfl ?_
    obtain rfl := Option.some.inj h
    exact mEv.stp 1 (S' := (31, _, [some (.ref 0), some (.int p1), some (.int p2)], [.int v4.1], memR v4.2)) rfl (mEv.reti ⟨_, rfl, rfl⟩)
  · have h := (if_neg c3).symm.trans h
    refine mEv.stp 5 (S' := (18, _, [some (.ref 0), some (.int p1), some (.int p2)], [.int p2, .int p1, .ref 5], memR s)) rfl ?_
    obtain ⟨v6, e7, h⟩ := bnd h
    refine mEv.callS (As := [.int p1, .int p2]) (st := [.ref 5]) (r := (some (.int v6))) (μ1 := memR s) lk_X2_87 rfl rfl rfl (A_X0_pairCell (d := d + 1) e7) ?_
    refine mEv.stp 0 (S' := (21, _, [some (.ref 0), some (.int p1), some (.int p2)], [.int v6, .ref 5], memR s)) rfl ?_
    obtain ⟨g8, h⟩ := gI_some h
    refine mEv.gd 1 (S' := (22, _, [some (.ref 0), some (.int p1), some (.int p2)], [.int ((gN_st (gR_now s)) (Int32.toNatClampNeg v6))], memR s)) rfl g8 ?_
    obtain rfl := Option.some.inj h
    exact mEv.stp 2 (S' := (31, _, [some (.ref 0), some (.int p1), some (.int p2)], [.int ((gN_st (gR_now s)) (Int32.toNatClampNeg v6))], memR s)) rfl (mEv.reti ⟨_, rfl, rfl⟩)
theorem A_X2_sticky {d : Nat} {p1 : Int32} {p2 : Int32} {s : RouS} {q : Int32 × RouS} (h : F_X2_sticky p1 p2 s = some q) : mCall (d + 2) m_X2_sticky [.ref 0, .int p1, .int p2] (memR s) (some (Value.int q.1)) (memR q.2) := mCall.intro ok_X2_sticky pl_X2_sticky rfl (E_X2_sticky (d := d) h)
def J_X2_call_19  (s : RouS) : Option (Int32 × RouS) := (F_X2_refuse (-nI 2) s).bind (fun v4 => some ((v4.1, v4.2)))
set_option maxRecDepth 100000 in
theorem K_X2_call_19 {d : Nat}  {s : RouS} {q : Int32 × RouS} (h : J_X2_call_19 s = some q) : mEv (d + 3) m_X2_call none (19, [], [some (.ref 0), none, none, none], [], memR s) (some (Value.int q.1)) (memR q.2) := by
  unfold J_X2_call_19 at h
  refine mEv.stp 3 (S' := (22, _, [some (.ref 0), none, none, none], [.int (-nI 2), .ref 0], memR s)) rfl ?_
  obtain ⟨v4, e5, h⟩ := bnd h
  refine mEv.callV (As := [.int (-nI 2)]) (st := []) (h := 0) (r := (some (.int v4.1))) (μ1 := memR v4.2) lk_X2_34 rfl rfl rfl rfl rfl (A_X2_refuse (d := d + 2) e5) ?_
  refine mEv.stp 0 (S' := (25, _, [some (.ref 0), none, none, none], [.int v4.1], memR v4.2)) rfl ?_
  obtain rfl := Option.some.inj h
  exact mEv.reti ⟨_, rfl, rfl⟩
def F_X2_call (p1 : Int32) (p2 : Int32) (p3 : Int32) (s : RouS) : Option (Int32 × RouS) := (F_X2_isPair p1 p2 s).bind (fun v1 => if v1 = (nI 0) then (J_X2_call_19 s) else ((F_X2_within p3 (nI 1) (nI 24)).bind (fun v6 => if ¬ v6 = (nI 0) then (if (gN_cc (gR_now s)) < (nI 80) then ((F_X2_keepState s).bind (fun v10 => (F_X0_ask p1 p2 p3 (gR_now v10)).bind (fun v12 => some ((v12.1, (mkR (gR_sc v10) (gR_ns v10) (gR_bd v10) (gR_no v10) (gR_fu v10) v12.2 (gR_tri v10) (gR_s0 v10) (gR_s1 v10) (gR_s2 v10) (gR_s3 v10) (gR_s4 v10) (gR_txt v10))))))) else ((F_X2_refuse (-nI 4) s).bind (fun v14 => some ((v14.1, v14.2))))) else (J_X2_call_19 s))))
set_option maxRecDepth 100000 in
theorem E_X2_call {d : Nat} {p1 : Int32} {p2 : Int32} {p3 : Int32} {s : RouS} {q : Int32 × RouS} (h : F_X2_call p1 p2 p3 s = some q) : mEv (d + 3) m_X2_call none (0, [], [some (.ref 0), some (.int p1), some (.int p2), some (.int p3)], [], memR s) (some (Value.int q.1)) (memR q.2) := by
  unfold F_X2_call at h
  refine mEv.stp 4 (S' := (3, _, [some (.ref 0), some (.int p1), some (.int p2), some (.int p3)], [.int p2, .int p1, .ref 0], memR s)) rfl ?_
  obtain ⟨v1, e2, h⟩ := bnd h
  refine mEv.callV (As := [.int p1, .int p2]) (st := []) (h := 0) (r := (some (.int v1))) (μ1 := memR s) lk_X2_49 rfl rfl rfl rfl rfl (A_X2_isPair (d := d + 1) e2) ?_
  refine mEv.stp 0 (S' := (6, _, [some (.ref 0), some (.int p1), some (.int p2), some (.int p3)], [.int v1], memR s)) rfl ?_
  refine mEv.br 1 (S1 := (19, [], [some (.ref 0), some (.int p1), some (.int p2), some (.int p3)], [], memR s)) (S2 := (9, _, [some (.ref 0), some (.int p1), some (.int p2), some (.int p3)], [], memR s)) rfl (fun c3 => ?_) (fun c3 => ?_)
  · have h := (if_pos c3).symm.trans h
    refine mEv.fg [1, 2, 3] (z' := [some (.ref 0), none, none, none]) rfl ?_
    exact K_X2_call_19 (d := d) h
  · have h := (if_neg c3).symm.trans h
    refine mEv.stp 3 (S' := (13, _, [some (.ref 0), some (.int p1), some (.int p2), some (.int p3)], [.int (nI 24), .int (nI 1), .int p3], memR s)) rfl ?_
    obtain ⟨v6, e7, h⟩ := bnd h
    refine mEv.callS (As := [.int p3, .int (nI 1), .int (nI 24)]) (st := []) (r := (some (.int v6))) (μ1 := memR s) lk_X2_30 rfl rfl rfl (A_X2_within (d := d + 2) e7) ?_
    refine mEv.stp 0 (S' := (16, _, [some (.ref 0), some (.int p1), some (.int p2), some (.int p3)], [.int v6], memR s)) rfl ?_
    refine mEv.br 1 (S1 := (26, [], [some (.ref 0), some (.int p1), some (.int p2), some (.int p3)], [], memR s)) (S2 := (19, [], [some (.ref 0), some (.int p1), some (.int p2), some (.int p3)], [], memR s)) rfl (fun c8 => ?_) (fun c8 => ?_)
    · have h := (if_pos c8).symm.trans h
      refine mEv.br 6 (S1 := (45, [], [some (.ref 0), some (.int p1), some (.int p2), some (.int p3)], [], memR s)) (S2 := (38, _, [some (.ref 0), some (.int p1), some (.int p2), some (.int p3)], [], memR s)) rfl (fun c9 => ?_) (fun c9 => ?_)
      · have h := (if_pos c9).symm.trans h
        refine mEv.stp 2 (S' := (46, _, [some (.ref 0), some (.int p1), some (.int p2), some (.int p3)], [.ref 0], memR s)) rfl ?_
        obtain ⟨v10, e11, h⟩ := bnd h
        refine mEv.callV (As := []) (st := []) (h := 0) (r := none) (μ1 := memR v10) lk_X2_38 rfl rfl rfl rfl rfl (A_X2_keepState (d := d + 0) e11) ?_
        refine mEv.stp 0 (S' := (49, _, [some (.ref 0), some (.int p1), some (.int p2), some (.int p3)], [], memR v10)) rfl ?_
        refine mEv.stp 5 (S' := (56, _, [some (.ref 0), some (.int p1), some (.int p2), some (.int p3)], [.int p3, .int p2, .int p1, .ref 1], memR v10)) rfl ?_
        obtain ⟨v12, e13, h⟩ := bnd h
        refine mEv.callV (As := [.int p1, .int p2, .int p3]) (st := []) (h := 1) (r := (some (.int v12.1))) (μ1 := memRx (gR_sc v10) (gR_ns v10) (gR_bd v10) (gR_no v10) (gR_fu v10) v12.2 (gR_tri v10) (gR_s0 v10) (gR_s1 v10) (gR_s2 v10) (gR_s3 v10) (gR_s4 v10) (gR_txt v10)) lk_X2_93 rfl rfl rfl rfl rfl (lf_N1 (as := [.ref 0, .int p1, .int p2, .int p3]) (r := (some (.int v12.1))) (A_X0_ask (d := d + 0) e13)) ?_
        refine mEv.stp 0 (S' := (59, _, [some (.ref 0), some (.int p1), some (.int p2), some (.int p3)], [.int v12.1], memRx (gR_sc v10) (gR_ns v10) (gR_bd v10) (gR_no v10) (gR_fu v10) v12.2 (gR_tri v10) (gR_s0 v10) (gR_s1 v10) (gR_s2 v10) (gR_s3 v10) (gR_s4 v10) (gR_txt v10))) rfl ?_
        obtain rfl := Option.some.inj h
        exact mEv.tgt memR_mk (mEv.reti ⟨_, rfl, rfl⟩)
      · have h := (if_neg c9).symm.trans h
        refine mEv.stp 2 (S' := (41, _, [some (.ref 0), some (.int p1), some (.int p2), some (.int p3)], [.int (-nI 4), .ref 0], memR s)) rfl ?_
        obtain ⟨v14, e15, h⟩ := bnd h
        refine mEv.callV (As := [.int (-nI 4)]) (st := []) (h := 0) (r := (some (.int v14.1))) (μ1 := memR v14.2) lk_X2_34 rfl rfl rfl rfl rfl (A_X2_refuse (d := d + 2) e15) ?_
        refine mEv.stp 0 (S' := (44, _, [some (.ref 0), some (.int p1), some (.int p2), some (.int p3)], [.int v14.1], memR v14.2)) rfl ?_
        obtain rfl := Option.some.inj h
        exact mEv.reti ⟨_, rfl, rfl⟩
    · have h := (if_neg c8).symm.trans h
      refine mEv.fg [1, 2, 3] (z' := [some (.ref 0), none, none, none]) rfl ?_
      exact K_X2_call_19 (d := d) h
theorem A_X2_call {d : Nat} {p1 : Int32} {p2 : Int32} {p3 : Int32} {s : RouS} {q : Int32 × RouS} (h : F_X2_call p1 p2 p3 s = some q) : mCall (d + 3) m_X2_call [.ref 0, .int p1, .int p2, .int p3] (memR s) (some (Value.int q.1)) (memR q.2) := mCall.intro ok_X2_call pl_X2_call rfl (E_X2_call (d := d) h)
def F_X2_hours (p1 : Int32) (s : RouS) : Option (Int32 × RouS) := (F_X2_within p1 (nI 1) (nI 48)).bind (fun v1 => if ¬ v1 = (nI 0) then ((F_X2_keepState s).bind (fun v4 => (F_X0_passHours p1 (gR_now v4)).bind (fun v6 => some ((v6.1, (mkR (gR_sc v4) (gR_ns v4) (gR_bd v4) (gR_no v4) (gR_fu v4) v6.2 (gR_tri v4) (gR_s0 v4) (gR_s1 v4) (gR_s2 v4) (gR_s3 v4) (gR_s4 v4) (gR_txt v4))))))) else ((F_X2_refuse (-nI 2) s).bind (fun v8 => some ((v8.1, v8.2)))))
set_option maxRecDepth 100000 in
theorem E_X2_hours {d : Nat} {p1 : Int32} {s : RouS} {q : Int32 × RouS} (h : F_X2_hours p1 s = some q) : mEv (d + 5) m_X2_hours none (0, [], [some (.ref 0), some (.int p1)], [], memR s) (some (Value.int q.1)) (memR q.2) := by
  unfold F_X2_hours at h
  refine mEv.stp 4 (S' := (4, _, [some (.ref 0), some (.int p1)], [.int (nI 48), .int (nI 1), .int p1], memR s)) rfl ?_
  obtain ⟨v1, e2, h⟩ := bnd h
  refine mEv.callS (As := [.int p1, .int (nI 1), .int (nI 48)]) (st := []) (r := (some (.int v1))) (μ1 := memR s) lk_X2_30 rfl rfl rfl (A_X2_within (d := d + 4) e2) ?_
  refine mEv.stp 0 (S' := (7, _, [some (.ref 0), some (.int p1)], [.int v1], memR s)) rfl ?_
  refine mEv.br 1 (S1 := (17, [], [some (.ref 0), some (.int p1)], [], memR s)) (S2 := (10, _, [some (.ref 0), some (.int p1)], [], memR s)) rfl (fun c3 => ?_) (fun c3 => ?_)
  · have h := (if_pos c3).symm.trans h
    refine mEv.stp 2 (S' := (18, _, [some (.ref 0), some (.int p1)], [.ref 0], memR s)) rfl ?_
    obtain ⟨v4, e5, h⟩ := bnd h
    refine mEv.callV (As := []) (st := []) (h := 0) (r := none) (μ1 := memR v4) lk_X2_38 rfl rfl rfl rfl rfl (A_X2_keepState (d := d + 2) e5) ?_
    refine mEv.stp 0 (S' := (21, _, [some (.ref 0), some (.int p1)], [], memR v4)) rfl ?_
    refine mEv.stp 3 (S' := (26, _, [some (.ref 0), some (.int p1)], [.int p1, .ref 1], memR v4)) rfl ?_
    obtain ⟨v6, e7, h⟩ := bnd h
    refine mEv.callV (As := [.int p1]) (st := []) (h := 1) (r := (some (.int v6.1))) (μ1 := memRx (gR_sc v4) (gR_ns v4) (gR_bd v4) (gR_no v4) (gR_fu v4) v6.2 (gR_tri v4) (gR_s0 v4) (gR_s1 v4) (gR_s2 v4) (gR_s3 v4) (gR_s4 v4) (gR_txt v4)) lk_X2_97 rfl rfl rfl rfl rfl (lf_N1 (as := [.ref 0, .int p1]) (r := (some (.int v6.1))) (A_X0_passHours (d := d + 0) e7)) ?_
    refine mEv.stp 0 (S' := (29, _, [some (.ref 0), some (.int p1)], [.int v6.1], memRx (gR_sc v4) (gR_ns v4) (gR_bd v4) (gR_no v4) (gR_fu v4) v6.2 (gR_tri v4) (gR_s0 v4) (gR_s1 v4) (gR_s2 v4) (gR_s3 v4) (gR_s4 v4) (gR_txt v4))) rfl ?_
    obtain rfl := Option.some.inj h
    exact mEv.tgt memR_mk (mEv.reti ⟨_, rfl, rfl⟩)
  · have h := (if_neg c3).symm.trans h
    refine mEv.stp 2 (S' := (13, _, [some (.ref 0), some (.int p1)], [.int (-nI 2), .ref 0], memR s)) rfl ?_
    obtain ⟨v8, e9, h⟩ := bnd h
    refine mEv.callV (As := [.int (-nI 2)]) (st := []) (h := 0) (r := (some (.int v8.1))) (μ1 := memR v8.2) lk_X2_34 rfl rfl rfl rfl rfl (A_X2_refuse (d := d + 4) e9) ?_
    refine mEv.stp 0 (S' := (16, _, [some (.ref 0), some (.int p1)], [.int v8.1], memR v8.2)) rfl ?_
    obtain rfl := Option.some.inj h
    exact mEv.reti ⟨_, rfl, rfl⟩
theorem A_X2_hours {d : Nat} {p1 : Int32} {s : RouS} {q : Int32 × RouS} (h : F_X2_hours p1 s = some q) : mCall (d + 5) m_X2_hours [.ref 0, .int p1] (memR s) (some (Value.int q.1)) (memR q.2) := mCall.intro ok_X2_hours pl_X2_hours rfl (E_X2_hours (d := d) h)
def J_X2_going_13  (s : RouS) : Option (Int32 × RouS) := (F_X2_refuse (-nI 2) s).bind (fun v2 => some ((v2.1, v2.2)))
set_option maxRecDepth 100000 in
theorem K_X2_going_13 {d : Nat}  {s : RouS} {q : Int32 × RouS} (h : J_X2_going_13 s = some q) : mEv (d + 1) m_X2_going none (13, [], [some (.ref 0), none, none], [], memR s) (some (Value.int q.1)) (memR q.2) := by
  unfold J_X2_going_13 at h
  refine mEv.stp 3 (S' := (16, _, [some (.ref 0), none, none], [.int (-nI 2), .ref 0], memR s)) rfl ?_
  obtain ⟨v2, e3, h⟩ := bnd h
  refine mEv.callV (As := [.int (-nI 2)]) (st := []) (h := 0) (r := (some (.int v2.1))) (μ1 := memR v2.2) lk_X2_34 rfl rfl rfl rfl rfl (A_X2_refuse (d := d + 0) e3) ?_
  refine mEv.stp 0 (S' := (19, _, [some (.ref 0), none, none], [.int v2.1], memR v2.2)) rfl ?_
  obtain rfl := Option.some.inj h
  exact mEv.reti ⟨_, rfl, rfl⟩
def F_X2_going (p1 : Int32) (p2 : Int32) (s : RouS) : Option (Int32 × RouS) := if p1 < (nI 0) then (J_X2_going_13 s) else ((F_X2_within p2 (nI 0) (nI 3)).bind (fun v4 => if ¬ v4 = (nI 0) then (if (gN_cc (gR_now s)) ≤ p1 then (some (((-nI 1), s))) else (gI ((p1 * (nI 4)) + p2) 320 (some ((((gN_ca (gR_now s)) (Int32.toNatClampNeg ((p1 * (nI 4)) + p2))), s))))) else (J_X2_going_13 s)))
set_option maxRecDepth 100000 in
theorem E_X2_going {d : Nat} {p1 : Int32} {p2 : Int32} {s : RouS} {q : Int32 × RouS} (h : F_X2_going p1 p2 s = some q) : mEv (d + 1) m_X2_going none (0, [], [some (.ref 0), some (.int p1), some (.int p2)], [], memR s) (some (Value.int q.1)) (memR q.2) := by
  unfold F_X2_going at h
  refine mEv.br 3 (S1 := (13, [], [some (.ref 0), some (.int p1), some (.int p2)], [], memR s)) (S2 := (4, _, [some (.ref 0), some (.int p1), some (.int p2)], [], memR s)) rfl (fun c1 => ?_) (fun c1 => ?_)
  · have h := (if_pos c1).symm.trans h
    refine mEv.fg [1, 2] (z' := [some (.ref 0), none, none]) rfl ?_
    exact K_X2_going_13 (d := d) h
  · have h := (if_neg c1).symm.trans h
    refine mEv.stp 3 (S' := (7, _, [some (.ref 0), some (.int p1), some (.int p2)], [.int (nI 3), .int (nI 0), .int p2], memR s)) rfl ?_
    obtain ⟨v4, e5, h⟩ := bnd h
    refine mEv.callS (As := [.int p2, .int (nI 0), .int (nI 3)]) (st := []) (r := (some (.int v4))) (μ1 := memR s) lk_X2_30 rfl rfl rfl (A_X2_within (d := d + 0) e5) ?_
    refine mEv.stp 0 (S' := (10, _, [some (.ref 0), some (.int p1), some (.int p2)], [.int v4], memR s)) rfl ?_
    refine mEv.br 1 (S1 := (20, [], [some (.ref 0), some (.int p1), some (.int p2)], [], memR s)) (S2 := (13, [], [some (.ref 0), some (.int p1), some (.int p2)], [], memR s)) rfl (fun c6 => ?_) (fun c6 => ?_)
    · have h := (if_pos c6).symm.trans h
      refine mEv.br 6 (S1 := (47, [], [some (.ref 0), some (.int p1), some (.int p2)], [], memR s)) (S2 := (31, _, [some (.ref 0), some (.int p1), some (.int p2)], [], memR s)) rfl (fun c7 => ?_) (fun c7 => ?_)
      · have h := (if_pos c7).symm.trans h
        obtain rfl := Option.some.inj h
        exact mEv.stp 3 (S' := (48, _, [some (.ref 0), some (.int p1), some (.int p2)], [.int (-nI 1)], memR s)) rfl (mEv.reti ⟨_, rfl, rfl⟩)
      · have h := (if_neg c7).symm.trans h
        obtain ⟨g8, h⟩ := gI_some h
        refine mEv.gd 9 (S' := (44, _, [some (.ref 0), some (.int p1), some (.int p2)], [.int ((gN_ca (gR_now s)) (Int32.toNatClampNeg ((p1 * (nI 4)) + p2)))], memR s)) rfl g8 ?_
        obtain rfl := Option.some.inj h
        exact mEv.stp 2 (S' := (48, _, [some (.ref 0), some (.int p1), some (.int p2)], [.int ((gN_ca (gR_now s)) (Int32.toNatClampNeg ((p1 * (nI 4)) + p2)))], memR s)) rfl (mEv.reti ⟨_, rfl, rfl⟩)
    · have h := (if_neg c6).symm.trans h
      refine mEv.fg [1, 2] (z' := [some (.ref 0), none, none]) rfl ?_
      exact K_X2_going_13 (d := d) h
theorem A_X2_going {d : Nat} {p1 : Int32} {p2 : Int32} {s : RouS} {q : Int32 × RouS} (h : F_X2_going p1 p2 s = some q) : mCall (d + 1) m_X2_going [.ref 0, .int p1, .int p2] (memR s) (some (Value.int q.1)) (memR q.2) := mCall.intro ok_X2_going pl_X2_going rfl (E_X2_going (d := d) h)
def F_X2_ends (p1 : Int32) (s : RouS) : Option (Int32 × RouS) := if (nI 0) ≤ p1 then (if p1 < (gN_cc (gR_now s)) then ((F_X2_keepState s).bind (fun v3 => (F_X0_endCall p1 (gR_now v3)).bind (fun v5 => some (((gN_cc v5), (mkR (gR_sc v3) (gR_ns v3) (gR_bd v3) (gR_no v3) (gR_fu v3) v5 (gR_tri v3) (gR_s0 v3) (gR_s1 v3) (gR_s2 v3) (gR_s3 v3) (gR_s4 v3) (gR_txt v3))))))) else ((F_X2_refuse (-nI 3) s).bind (fun v7 => some ((v7.1, v7.2))))) else ((F_X2_refuse (-nI 2) s).bind (fun v9 => some ((v9.1, v9.2))))
set_option maxRecDepth 100000 in
theorem E_X2_ends {d : Nat} {p1 : Int32} {s : RouS} {q : Int32 × RouS} (h : F_X2_ends p1 s = some q) : mEv (d + 3) m_X2_ends none (0, [], [some (.ref 0), some (.int p1)], [], memR s) (some (Value.int q.1)) (memR q.2) := by
  unfold F_X2_ends at h
  refine mEv.br 3 (S1 := (11, [], [some (.ref 0), some (.int p1)], [], memR s)) (S2 := (4, _, [some (.ref 0), some (.int p1)], [], memR s)) rfl (fun c1 => ?_) (fun c1 => ?_)
  · have h := (if_pos c1).symm.trans h
    refine mEv.br 6 (S1 := (29, [], [some (.ref 0), some (.int p1)], [], memR s)) (S2 := (22, _, [some (.ref 0), some (.int p1)], [], memR s)) rfl (fun c2 => ?_) (fun c2 => ?_)
    · have h := (if_pos c2).symm.trans h
      refine mEv.stp 2 (S' := (30, _, [some (.ref 0), some (.int p1)], [.ref 0], memR s)) rfl ?_
      obtain ⟨v3, e4, h⟩ := bnd h
      refine mEv.callV (As := []) (st := []) (h := 0) (r := none) (μ1 := memR v3) lk_X2_38 rfl rfl rfl rfl rfl (A_X2_keepState (d := d + 0) e4) ?_
      refine mEv.stp 0 (S' := (33, _, [some (.ref 0), some (.int p1)], [], memR v3)) rfl ?_
      refine mEv.stp 3 (S' := (38, _, [some (.ref 0), some (.int p1)], [.int p1, .ref 1], memR v3)) rfl ?_
      obtain ⟨v5, e6, h⟩ := bnd h
      refine mEv.callV (As := [.int p1]) (st := []) (h := 1) (r := none) (μ1 := memRx (gR_sc v3) (gR_ns v3) (gR_bd v3) (gR_no v3) (gR_fu v3) v5 (gR_tri v3) (gR_s0 v3) (gR_s1 v3) (gR_s2 v3) (gR_s3 v3) (gR_s4 v3) (gR_txt v3)) lk_X2_103 rfl rfl rfl rfl rfl (lf_N1 (as := [.ref 0, .int p1]) (r := none) (A_X0_endCall (d := d + 0) e6)) ?_
      refine mEv.stp 0 (S' := (41, _, [some (.ref 0), some (.int p1)], [], memRx (gR_sc v3) (gR_ns v3) (gR_bd v3) (gR_no v3) (gR_fu v3) v5 (gR_tri v3) (gR_s0 v3) (gR_s1 v3) (gR_s2 v3) (gR_s3 v3) (gR_s4 v3) (gR_txt v3))) rfl ?_
      obtain rfl := Option.some.inj h
      exact mEv.tgt memR_mk (mEv.stp 3 (S' := (48, _, [some (.ref 0), some (.int p1)], [.int (gN_cc v5)], memRx (gR_sc v3) (gR_ns v3) (gR_bd v3) (gR_no v3) (gR_fu v3) v5 (gR_tri v3) (gR_s0 v3) (gR_s1 v3) (gR_s2 v3) (gR_s3 v3) (gR_s4 v3) (gR_txt v3))) rfl (mEv.reti ⟨_, rfl, rfl⟩))
    · have h := (if_neg c2).symm.trans h
      refine mEv.stp 2 (S' := (25, _, [some (.ref 0), some (.int p1)], [.int (-nI 3), .ref 0], memR s)) rfl ?_
      obtain ⟨v7, e8, h⟩ := bnd h
      refine mEv.callV (As := [.int (-nI 3)]) (st := []) (h := 0) (r := (some (.int v7.1))) (μ1 := memR v7.2) lk_X2_34 rfl rfl rfl rfl rfl (A_X2_refuse (d := d + 2) e8) ?_
      refine mEv.stp 0 (S' := (28, _, [some (.ref 0), some (.int p1)], [.int v7.1], memR v7.2)) rfl ?_
      obtain rfl := Option.some.inj h
      exact mEv.reti ⟨_, rfl, rfl⟩
  · have h := (if_neg c1).symm.trans h
    refine mEv.stp 2 (S' := (7, _, [some (.ref 0), some (.int p1)], [.int (-nI 2), .ref 0], memR s)) rfl ?_
    obtain ⟨v9, e10, h⟩ := bnd h
    refine mEv.callV (As := [.int (-nI 2)]) (st := []) (h := 0) (r := (some (.int v9.1))) (μ1 := memR v9.2) lk_X2_34 rfl rfl rfl rfl rfl (A_X2_refuse (d := d + 2) e10) ?_
    refine mEv.stp 0 (S' := (10, _, [some (.ref 0), some (.int p1)], [.int v9.1], memR v9.2)) rfl ?_
    obtain rfl := Option.some.inj h
    exact mEv.reti ⟨_, rfl, rfl⟩
theorem A_X2_ends {d : Nat} {p1 : Int32} {s : RouS} {q : Int32 × RouS} (h : F_X2_ends p1 s = some q) : mCall (d + 3) m_X2_ends [.ref 0, .int p1] (memR s) (some (Value.int q.1)) (memR q.2) := mCall.intro ok_X2_ends pl_X2_ends rfl (E_X2_ends (d := d) h)
def F_X2_all (p1 : Int32) (s : RouS) : Option (Int32 × RouS) := (F_X2_within p1 (nI 0) (nI 4)).bind (fun v1 => if v1 = (nI 0) then ((F_X2_refuse (-nI 2) s).bind (fun v4 => some ((v4.1, v4.2)))) else (gI p1 5 (some ((((gN_tt (gR_now s)) (Int32.toNatClampNeg p1)), s)))))
set_option maxRecDepth 100000 in
theorem E_X2_all {d : Nat} {p1 : Int32} {s : RouS} {q : Int32 × RouS} (h : F_X2_all p1 s = some q) : mEv (d + 1) m_X2_all none (0, [], [some (.ref 0), some (.int p1)], [], memR s) (some (Value.int q.1)) (memR q.2) := by
  unfold F_X2_all at h
  refine mEv.stp 4 (S' := (3, _, [some (.ref 0), some (.int p1)], [.int (nI 4), .int (nI 0), .int p1], memR s)) rfl ?_
  obtain ⟨v1, e2, h⟩ := bnd h
  refine mEv.callS (As := [.int p1, .int (nI 0), .int (nI 4)]) (st := []) (r := (some (.int v1))) (μ1 := memR s) lk_X2_30 rfl rfl rfl (A_X2_within (d := d + 0) e2) ?_
  refine mEv.stp 0 (S' := (6, _, [some (.ref 0), some (.int p1)], [.int v1], memR s)) rfl ?_
  refine mEv.br 1 (S1 := (21, [], [some (.ref 0), some (.int p1)], [], memR s)) (S2 := (9, _, [some (.ref 0), some (.int p1)], [], memR s)) rfl (fun c3 => ?_) (fun c3 => ?_)
  · have h := (if_pos c3).symm.trans h
    refine mEv.stp 3 (S' := (24, _, [some (.ref 0), some (.int p1)], [.int (-nI 2), .ref 0], memR s)) rfl ?_
    obtain ⟨v4, e5, h⟩ := bnd h
    refine mEv.callV (As := [.int (-nI 2)]) (st := []) (h := 0) (r := (some (.int v4.1))) (μ1 := memR v4.2) lk_X2_34 rfl rfl rfl rfl rfl (A_X2_refuse (d := d + 0) e5) ?_
    refine mEv.stp 0 (S' := (27, [], [some (.ref 0), some (.int p1)], [.int v4.1], memR v4.2)) rfl ?_
    obtain rfl := Option.some.inj h
    exact mEv.stp 1 (S' := (27, _, [some (.ref 0), some (.int p1)], [.int v4.1], memR v4.2)) rfl (mEv.reti ⟨_, rfl, rfl⟩)
  · have h := (if_neg c3).symm.trans h
    obtain ⟨g6, h⟩ := gI_some h
    refine mEv.gd 5 (S' := (18, _, [some (.ref 0), some (.int p1)], [.int ((gN_tt (gR_now s)) (Int32.toNatClampNeg p1))], memR s)) rfl g6 ?_
    obtain rfl := Option.some.inj h
    exact mEv.stp 2 (S' := (27, _, [some (.ref 0), some (.int p1)], [.int ((gN_tt (gR_now s)) (Int32.toNatClampNeg p1))], memR s)) rfl (mEv.reti ⟨_, rfl, rfl⟩)
theorem A_X2_all {d : Nat} {p1 : Int32} {s : RouS} {q : Int32 × RouS} (h : F_X2_all p1 s = some q) : mCall (d + 1) m_X2_all [.ref 0, .int p1] (memR s) (some (Value.int q.1)) (memR q.2) := mCall.intro ok_X2_all pl_X2_all rfl (E_X2_all (d := d) h)
def J_X2_pair_18  (s : RouS) : Option (Int32 × RouS) := (F_X2_refuse (-nI 2) s).bind (fun v4 => some ((v4.1, v4.2)))
set_option maxRecDepth 100000 in
theorem K_X2_pair_18 {d : Nat}  {s : RouS} {q : Int32 × RouS} (h : J_X2_pair_18 s = some q) : mEv (d + 2) m_X2_pair none (18, [], [some (.ref 0), none, none, none], [], memR s) (some (Value.int q.1)) (memR q.2) := by
  unfold J_X2_pair_18 at h
  refine mEv.stp 3 (S' := (21, _, [some (.ref 0), none, none, none], [.int (-nI 2), .ref 0], memR s)) rfl ?_
  obtain ⟨v4, e5, h⟩ := bnd h
  refine mEv.callV (As := [.int (-nI 2)]) (st := []) (h := 0) (r := (some (.int v4.1))) (μ1 := memR v4.2) lk_X2_34 rfl rfl rfl rfl rfl (A_X2_refuse (d := d + 1) e5) ?_
  refine mEv.stp 0 (S' := (24, _, [some (.ref 0), none, none, none], [.int v4.1], memR v4.2)) rfl ?_
  obtain rfl := Option.some.inj h
  exact mEv.reti ⟨_, rfl, rfl⟩
def F_X2_pair (p1 : Int32) (p2 : Int32) (p3 : Int32) (s : RouS) : Option (Int32 × RouS) := (F_X2_isPair p1 p2 s).bind (fun v1 => if v1 = (nI 0) then (J_X2_pair_18 s) else ((F_X2_within p3 (nI 0) (nI 4)).bind (fun v6 => if ¬ v6 = (nI 0) then ((F_X0_pairCell p1 p2).bind (fun v9 => gI ((p3 * (nI 36)) + v9) 180 (some ((((gN_ct (gR_now s)) (Int32.toNatClampNeg ((p3 * (nI 36)) + v9))), s))))) else (J_X2_pair_18 s))))
set_option maxRecDepth 100000 in
theorem E_X2_pair {d : Nat} {p1 : Int32} {p2 : Int32} {p3 : Int32} {s : RouS} {q : Int32 × RouS} (h : F_X2_pair p1 p2 p3 s = some q) : mEv (d + 2) m_X2_pair none (0, [], [some (.ref 0), some (.int p1), some (.int p2), some (.int p3)], [], memR s) (some (Value.int q.1)) (memR q.2) := by
  unfold F_X2_pair at h
  refine mEv.stp 4 (S' := (3, _, [some (.ref 0), some (.int p1), some (.int p2), some (.int p3)], [.int p2, .int p1, .ref 0], memR s)) rfl ?_
  obtain ⟨v1, e2, h⟩ := bnd h
  refine mEv.callV (As := [.int p1, .int p2]) (st := []) (h := 0) (r := (some (.int v1))) (μ1 := memR s) lk_X2_49 rfl rfl rfl rfl rfl (A_X2_isPair (d := d + 0) e2) ?_
  refine mEv.stp 0 (S' := (6, _, [some (.ref 0), some (.int p1), some (.int p2), some (.int p3)], [.int v1], memR s)) rfl ?_
  refine mEv.br 1 (S1 := (18, [], [some (.ref 0), some (.int p1), some (.int p2), some (.int p3)], [], memR s)) (S2 := (9, _, [some (.ref 0), some (.int p1), some (.int p2), some (.int p3)], [], memR s)) rfl (fun c3 => ?_) (fun c3 => ?_)
  · have h := (if_pos c3).symm.trans h
    refine mEv.fg [1, 2, 3] (z' := [some (.ref 0), none, none, none]) rfl ?_
    exact K_X2_pair_18 (d := d) h
  · have h := (if_neg c3).symm.trans h
    refine mEv.stp 3 (S' := (12, _, [some (.ref 0), some (.int p1), some (.int p2), some (.int p3)], [.int (nI 4), .int (nI 0), .int p3], memR s)) rfl ?_
    obtain ⟨v6, e7, h⟩ := bnd h
    refine mEv.callS (As := [.int p3, .int (nI 0), .int (nI 4)]) (st := []) (r := (some (.int v6))) (μ1 := memR s) lk_X2_30 rfl rfl rfl (A_X2_within (d := d + 1) e7) ?_
    refine mEv.stp 0 (S' := (15, _, [some (.ref 0), some (.int p1), some (.int p2), some (.int p3)], [.int v6], memR s)) rfl ?_
    refine mEv.br 1 (S1 := (25, [], [some (.ref 0), some (.int p1), some (.int p2), some (.int p3)], [], memR s)) (S2 := (18, [], [some (.ref 0), some (.int p1), some (.int p2), some (.int p3)], [], memR s)) rfl (fun c8 => ?_) (fun c8 => ?_)
    · have h := (if_pos c8).symm.trans h
      refine mEv.stp 9 (S' := (38, _, [some (.ref 0), some (.int p1), some (.int p2), some (.int p3)], [.int p2, .int p1, .int (p3 * (nI 36)), .ref 6], memR s)) rfl ?_
      obtain ⟨v9, e10, h⟩ := bnd h
      refine mEv.callS (As := [.int p1, .int p2]) (st := [.int (p3 * (nI 36)), .ref 6]) (r := (some (.int v9))) (μ1 := memR s) lk_X2_87 rfl rfl rfl (A_X0_pairCell (d := d + 1) e10) ?_
      refine mEv.stp 0 (S' := (41, _, [some (.ref 0), some (.int p1), some (.int p2), some (.int p3)], [.int v9, .int (p3 * (nI 36)), .ref 6], memR s)) rfl ?_
      obtain ⟨g11, h⟩ := gI_some h
      refine mEv.gd 2 (S' := (43, _, [some (.ref 0), some (.int p1), some (.int p2), some (.int p3)], [.int ((gN_ct (gR_now s)) (Int32.toNatClampNeg ((p3 * (nI 36)) + v9)))], memR s)) rfl g11 ?_
      obtain rfl := Option.some.inj h
      exact mEv.reti ⟨_, rfl, rfl⟩
    · have h := (if_neg c8).symm.trans h
      refine mEv.fg [1, 2, 3] (z' := [some (.ref 0), none, none, none]) rfl ?_
      exact K_X2_pair_18 (d := d) h
theorem A_X2_pair {d : Nat} {p1 : Int32} {p2 : Int32} {p3 : Int32} {s : RouS} {q : Int32 × RouS} (h : F_X2_pair p1 p2 p3 s = some q) : mCall (d + 2) m_X2_pair [.ref 0, .int p1, .int p2, .int p3] (memR s) (some (Value.int q.1)) (memR q.2) := mCall.intro ok_X2_pair pl_X2_pair rfl (E_X2_pair (d := d) h)
def J_X2_worst_38 (x1 : Int32) (y0 : Int32) (s : RouS) : Option (Int32 × RouS) := if x1 = (nI 1) then ((F_X0_refusedAt y0 (gR_now s)).bind (fun v8 => some ((v8, s)))) else (if x1 = (nI 3) then ((F_X0_freeWires y0 (gR_now s)).bind (fun v11 => some ((v11, s)))) else (gZ (nI 6) (gZ (nI 6) (some (((((y0 / (nI 6)) * (nI 10)) + (y0 - y0 / (nI 6) * (nI 6))), s))))))
set_option maxRecDepth 100000 in
theorem K_X2_worst_38 {d : Nat} {x1 : Int32} {y0 : Int32} {s : RouS} {q : Int32 × RouS} (h : J_X2_worst_38 x1 y0 s = some q) : mEv (d + 2) m_X2_worst none (38, [], [some (.ref 0), some (.int x1), none], [.int y0], memR s) (some (Value.int q.1)) (memR q.2) := by
  unfold J_X2_worst_38 at h
  refine mEv.stp 4 (S' := (mSw x1 [(nI 1, 68), (nI 3, 77)] 86, [], [some (.ref 0), some (.int x1), some (.int y0)], [], memR s)) rfl ?_
  refine mEv.sw (fun c7 => ?_) (fun c7 => ?_)
  · have h := (if_pos c7).symm.trans h
    refine mEv.stp 4 (S' := (73, _, [some (.ref 0), some (.int x1), some (.int y0)], [.int y0, .ref 1], memR s)) rfl ?_
    obtain ⟨v8, e9, h⟩ := bnd h
    refine mEv.callV (As := [.int y0]) (st := []) (h := 1) (r := (some (.int v8))) (μ1 := memR s) lk_X2_119 rfl rfl rfl rfl rfl (lf_N1 (as := [.ref 0, .int y0]) (r := (some (.int v8))) (A_X0_refusedAt (d := d + 1) e9)) ?_
    refine mEv.stp 0 (S' := (76, _, [some (.ref 0), some (.int x1), some (.int y0)], [.int v8], memR s)) rfl ?_
    obtain rfl := Option.some.inj h
    exact mEv.reti ⟨_, rfl, rfl⟩
  · have h := (if_neg c7).symm.trans h
    refine mEv.sw (fun c10 => ?_) (fun c10 => ?_)
    · have h := (if_pos c10).symm.trans h
      refine mEv.stp 4 (S' := (82, _, [some (.ref 0), some (.int x1), some (.int y0)], [.int y0, .ref 1], memR s)) rfl ?_
      obtain ⟨v11, e12, h⟩ := bnd h
      refine mEv.callV (As := [.int y0]) (st := []) (h := 1) (r := (some (.int v11))) (μ1 := memR s) lk_X2_78 rfl rfl rfl rfl rfl (lf_N1 (as := [.ref 0, .int y0]) (r := (some (.int v11))) (A_X0_freeWires (d := d + 1) e12)) ?_
      refine mEv.stp 0 (S' := (85, _, [some (.ref 0), some (.int x1), some (.int y0)], [.int v11], memR s)) rfl ?_
      obtain rfl := Option.some.inj h
      exact mEv.reti ⟨_, rfl, rfl⟩
    · have h := (if_neg c10).symm.trans h
      refine mEv.stp 0 (S' := (86, [], [some (.ref 0), some (.int x1), some (.int y0)], [], memR s)) rfl ?_
      obtain ⟨g13, h⟩ := gZ_some h
      refine mEv.gd 4 (S' := (90, _, [some (.ref 0), some (.int x1), some (.int y0)], [.int (y0 / (nI 6))], memR s)) rfl g13 ?_
      obtain ⟨g14, h⟩ := gZ_some h
      refine mEv.gd 5 (S' := (97, _, [some (.ref 0), some (.int x1), some (.int y0)], [.int (y0 - y0 / (nI 6) * (nI 6)), .int ((y0 / (nI 6)) * (nI 10))], memR s)) rfl g14 ?_
      obtain rfl := Option.some.inj h
      exact mEv.stp 1 (S' := (98, _, [some (.ref 0), some (.int x1), some (.int y0)], [.int (((y0 / (nI 6)) * (nI 10)) + (y0 - y0 / (nI 6) * (nI 6)))], memR s)) rfl (mEv.reti ⟨_, rfl, rfl⟩)
def F_X2_worst (p1 : Int32) (s : RouS) : Option (Int32 × RouS) := (F_X2_within p1 (nI 0) (nI 3)).bind (fun v1 => if ¬ v1 = (nI 0) then (if (nI 2) ≤ p1 then ((F_X0_scarcestLink (gR_now s)).bind (fun v5 => J_X2_worst_38 p1 v5 s)) else ((F_X0_mostRefusedPair (gR_now s)).bind (fun v15 => J_X2_worst_38 p1 v15 s))) else ((F_X2_refuse (-nI 2) s).bind (fun v17 => some ((v17.1, v17.2)))))
set_option maxRecDepth 100000 in
theorem E_X2_worst {d : Nat} {p1 : Int32} {s : RouS} {q : Int32 × RouS} (h : F_X2_worst p1 s = some q) : mEv (d + 2) m_X2_worst none (0, [], [some (.ref 0), some (.int p1), none], [], memR s) (some (Value.int q.1)) (memR q.2) := by
  unfold F_X2_worst at h
  refine mEv.stp 4 (S' := (3, _, [some (.ref 0), some (.int p1), none], [.int (nI 3), .int (nI 0), .int p1], memR s)) rfl ?_
  obtain ⟨v1, e2, h⟩ := bnd h
  refine mEv.callS (As := [.int p1, .int (nI 0), .int (nI 3)]) (st := []) (r := (some (.int v1))) (μ1 := memR s) lk_X2_30 rfl rfl rfl (A_X2_within (d := d + 1) e2) ?_
  refine mEv.stp 0 (S' := (6, _, [some (.ref 0), some (.int p1), none], [.int v1], memR s)) rfl ?_
  refine mEv.br 1 (S1 := (16, [], [some (.ref 0), some (.int p1), none], [], memR s)) (S2 := (9, _, [some (.ref 0), some (.int p1), none], [], memR s)) rfl (fun c3 => ?_) (fun c3 => ?_)
  · have h := (if_pos c3).symm.trans h
    refine mEv.br 4 (S1 := (31, [], [some (.ref 0), some (.int p1), none], [], memR s)) (S2 := (21, _, [some (.ref 0), some (.int p1), none], [], memR s)) rfl (fun c4 => ?_) (fun c4 => ?_)
    · have h := (if_pos c4).symm.trans h
      refine mEv.stp 3 (S' := (35, _, [some (.ref 0), some (.int p1), none], [.ref 1], memR s)) rfl ?_
      obtain ⟨v5, e6, h⟩ := bnd h
      refine mEv.callV (As := []) (st := []) (h := 1) (r := (some (.int v5))) (μ1 := memR s) lk_X2_116 rfl rfl rfl rfl rfl (lf_N1 (as := [.ref 0]) (r := (some (.int v5))) (A_X0_scarcestLink (d := d + 0) e6)) ?_
      refine mEv.stp 0 (S' := (38, [], [some (.ref 0), some (.int p1), none], [.int v5], memR s)) rfl ?_
      exact K_X2_worst_38 (d := d) h
    · have h := (if_neg c4).symm.trans h
      refine mEv.stp 2 (S' := (25, _, [some (.ref 0), some (.int p1), none], [.ref 1], memR s)) rfl ?_
      obtain ⟨v15, e16, h⟩ := bnd h
      refine mEv.callV (As := []) (st := []) (h := 1) (r := (some (.int v15))) (μ1 := memR s) lk_X2_112 rfl rfl rfl rfl rfl (lf_N1 (as := [.ref 0]) (r := (some (.int v15))) (A_X0_mostRefusedPair (d := d + 0) e16)) ?_
      refine mEv.stp 0 (S' := (28, _, [some (.ref 0), some (.int p1), none], [.int v15], memR s)) rfl ?_
      refine mEv.stp 1 (S' := (38, [], [some (.ref 0), some (.int p1), none], [.int v15], memR s)) rfl ?_
      exact K_X2_worst_38 (d := d) h
  · have h := (if_neg c3).symm.trans h
    refine mEv.stp 2 (S' := (12, _, [some (.ref 0), some (.int p1), none], [.int (-nI 2), .ref 0], memR s)) rfl ?_
    obtain ⟨v17, e18, h⟩ := bnd h
    refine mEv.callV (As := [.int (-nI 2)]) (st := []) (h := 0) (r := (some (.int v17.1))) (μ1 := memR v17.2) lk_X2_34 rfl rfl rfl rfl rfl (A_X2_refuse (d := d + 1) e18) ?_
    refine mEv.stp 0 (S' := (15, _, [some (.ref 0), some (.int p1), none], [.int v17.1], memR v17.2)) rfl ?_
    obtain rfl := Option.some.inj h
    exact mEv.reti ⟨_, rfl, rfl⟩
theorem A_X2_worst {d : Nat} {p1 : Int32} {s : RouS} {q : Int32 × RouS} (h : F_X2_worst p1 s = some q) : mCall (d + 2) m_X2_worst [.ref 0, .int p1] (memR s) (some (Value.int q.1)) (memR q.2) := mCall.intro ok_X2_worst pl_X2_worst rfl (E_X2_worst (d := d) h)
def F_X2_burden  (s : RouS) : Option (Int32) := if ¬ (gN_cc (gR_now s)) = (nI 0) then ((F_X0_wiresHeld (gR_now s)).bind (fun v2 => gZ (gN_cc (gR_now s)) (some (((v2 * (nI 1000)) / (gN_cc (gR_now s))))))) else (some ((nI 0)))
set_option maxRecDepth 100000 in
theorem E_X2_burden {d : Nat}  {s : RouS} {q : Int32} (h : F_X2_burden s = some q) : mEv (d + 1) m_X2_burden none (0, [], [some (.ref 0)], [], memR s) (some (Value.int q)) (memR s) := by
  unfold F_X2_burden at h
  refine mEv.br 5 (S1 := (14, [], [some (.ref 0)], [], memR s)) (S2 := (10, _, [some (.ref 0)], [], memR s)) rfl (fun c1 => ?_) (fun c1 => ?_)
  · have h := (if_pos c1).symm.trans h
    refine mEv.stp 3 (S' := (18, _, [some (.ref 0)], [.ref 1], memR s)) rfl ?_
    obtain ⟨v2, e3, h⟩ := bnd h
    refine mEv.callV (As := []) (st := []) (h := 1) (r := (some (.int v2))) (μ1 := memR s) lk_X2_122 rfl rfl rfl rfl rfl (lf_N1 (as := [.ref 0]) (r := (some (.int v2))) (A_X0_wiresHeld (d := d + 0) e3)) ?_
    refine mEv.stp 0 (S' := (21, _, [some (.ref 0)], [.int v2], memR s)) rfl ?_
    obtain ⟨g4, h⟩ := gZ_some h
    refine mEv.gd 6 (S' := (33, [], [some (.ref 0)], [.int ((v2 * (nI 1000)) / (gN_cc (gR_now s)))], memR s)) rfl g4 ?_
    obtain rfl := Option.some.inj h
    exact mEv.stp 1 (S' := (33, _, [some (.ref 0)], [.int ((v2 * (nI 1000)) / (gN_cc (gR_now s)))], memR s)) rfl (mEv.reti ⟨_, rfl, rfl⟩)
  · have h := (if_neg c1).symm.trans h
    obtain rfl := Option.some.inj h
    exact mEv.stp 3 (S' := (33, _, [some (.ref 0)], [.int (nI 0)], memR s)) rfl (mEv.reti ⟨_, rfl, rfl⟩)
theorem A_X2_burden {d : Nat}  {s : RouS} {q : Int32} (h : F_X2_burden s = some q) : mCall (d + 1) m_X2_burden [.ref 0] (memR s) (some (Value.int q)) (memR s) := mCall.intro ok_X2_burden pl_X2_burden rfl (E_X2_burden (d := d) h)
def B_X2_refusedWith_28 (x2 : Int32) (x3 : Int32) (x4 : Int32) (x5 : Int32) (s : RouS) : Option ((Int32 × Int32 × RouS) ⊕ (Int32 × RouS)) := if x2 ≤ x5 then (some (.inr (x4, s))) else (if x3 ≤ x4 then (some (.inr (x4, s))) else ((F_X0_passHours (nI 1) (gR_tri s)).bind (fun v7 => gI (nI 4) 5 (gI (nI 4) 5 (some (.inl ((((gN_tt v7.2) (Int32.toNatClampNeg (nI 4))) - ((gN_tt (gR_now s)) (Int32.toNatClampNeg (nI 4)))), (x5 + (nI 1)), (mkR (gR_sc s) (gR_ns s) (gR_bd s) (gR_no s) (gR_fu s) (gR_now s) v7.2 (gR_s0 s) (gR_s1 s) (gR_s2 s) (gR_s3 s) (gR_s4 s) (gR_txt s)))))))))
set_option maxRecDepth 100000 in
theorem H_X2_refusedWith_28 {d : Nat} {x2 : Int32} {x3 : Int32} {x4 : Int32} {x5 : Int32} {s : RouS} {q : (Int32 × Int32 × RouS) ⊕ (Int32 × RouS)} {r0 : Option Value} {mu0 : MMe} (h : B_X2_refusedWith_28 x2 x3 x4 x5 s = some q) (hk : Sum.elim (fun x : Int32 × Int32 × RouS => mEv (d + 5) m_X2_refusedWith none (28, [], [some (.ref 0), none, some (.int x2), some (.int x3), some (.int x.1), some (.int x.2.1)], [], memR x.2.2) r0 mu0) (fun z : Int32 × RouS => mEv (d + 5) m_X2_refusedWith none (76, [], [none, none, none, none, some (.int z.1), none], [], memR z.2) r0 mu0) q) : mEv (d + 5) m_X2_refusedWith none (28, [], [some (.ref 0), none, some (.int x2), some (.int x3), some (.int x4), some (.int x5)], [], memR s) r0 mu0 := by
  unfold B_X2_refusedWith_28 at h
  refine mEv.br 4 (S1 := (76, [], [some (.ref 0), none, some (.int x2), some (.int x3), some (.int x4), some (.int x5)], [], memR s)) (S2 := (34, _, [some (.ref 0), none, some (.int x2), some (.int x3), some (.int x4), some (.int x5)], [], memR s)) rfl (fun c5 => ?_) (fun c5 => ?_)
  · have h := (if_pos c5).symm.trans h
    refine mEv.fg [0, 2, 3, 5] (z' := [none, none, none, none, some (.int x4), none]) rfl ?_
    obtain rfl := Option.some.inj h
    exact hk
  · have h := (if_neg c5).symm.trans h
    refine mEv.br 3 (S1 := (76, [], [some (.ref 0), none, some (.int x2), some (.int x3), some (.int x4), some (.int x5)], [], memR s)) (S2 := (40, _, [some (.ref 0), none, some (.int x2), some (.int x3), some (.int x4), some (.int x5)], [], memR s)) rfl (fun c6 => ?_) (fun c6 => ?_)
    · have h := (if_pos c6).symm.trans h
      refine mEv.fg [0, 2, 3, 5] (z' := [none, none, none, none, some (.int x4), none]) rfl ?_
      obtain rfl := Option.some.inj h
      exact hk
    · have h := (if_neg c6).symm.trans h
      refine mEv.stp 3 (S' := (45, _, [some (.ref 0), none, some (.int x2), some (.int x3), some (.int x4), some (.int x5)], [.int (nI 1), .ref 10], memR s)) rfl ?_
      obtain ⟨v7, e8, h⟩ := bnd h
      refine mEv.callV (As := [.int (nI 1)]) (st := []) (h := 10) (r := (some (.int v7.1))) (μ1 := memRx (gR_sc s) (gR_ns s) (gR_bd s) (gR_no s) (gR_fu s) (gR_now s) v7.2 (gR_s0 s) (gR_s1 s) (gR_s2 s) (gR_s3 s) (gR_s4 s) (gR_txt s)) lk_X2_97 rfl rfl rfl rfl rfl (lf_N10 (as := [.ref 0, .int (nI 1)]) (r := (some (.int v7.1))) (A_X0_passHours (d := d + 0) e8)) ?_
      refine mEv.stp 0 (S' := (48, _, [some (.ref 0), none, some (.int x2), some (.int x3), some (.int x4), some (.int x5)], [.int v7.1], memRx (gR_sc s) (gR_ns s) (gR_bd s) (gR_no s) (gR_fu s) (gR_now s) v7.2 (gR_s0 s) (gR_s1 s) (gR_s2 s) (gR_s3 s) (gR_s4 s) (gR_txt s))) rfl ?_
      obtain ⟨g9, h⟩ := gI_some h
      refine mEv.gd 6 (S' := (58, _, [some (.ref 0), none, some (.int x2), some (.int x3), some (.int x4), some (.int x5)], [.int ((gN_tt v7.2) (Int32.toNatClampNeg (nI 4)))], memRx (gR_sc s) (gR_ns s) (gR_bd s) (gR_no s) (gR_fu s) (gR_now s) v7.2 (gR_s0 s) (gR_s1 s) (gR_s2 s) (gR_s3 s) (gR_s4 s) (gR_txt s))) rfl g9 ?_
      obtain ⟨g10, h⟩ := gI_some h
      refine mEv.gd 5 (S' := (67, _, [some (.ref 0), none, some (.int x2), some (.int x3), some (.int x4), some (.int x5)], [.int ((gN_tt (gR_now s)) (Int32.toNatClampNeg (nI 4))), .int ((gN_tt v7.2) (Int32.toNatClampNeg (nI 4)))], memRx (gR_sc s) (gR_ns s) (gR_bd s) (gR_no s) (gR_fu s) (gR_now s) v7.2 (gR_s0 s) (gR_s1 s) (gR_s2 s) (gR_s3 s) (gR_s4 s) (gR_txt s))) rfl g10 ?_
      refine mEv.stp 4 (S' := (28, [], [some (.ref 0), none, some (.int x2), some (.int x3), some (.int (((gN_tt v7.2) (Int32.toNatClampNeg (nI 4))) - ((gN_tt (gR_now s)) (Int32.toNatClampNeg (nI 4))))), some (.int (x5 + (nI 1)))], [], memRx (gR_sc s) (gR_ns s) (gR_bd s) (gR_no s) (gR_fu s) (gR_now s) v7.2 (gR_s0 s) (gR_s1 s) (gR_s2 s) (gR_s3 s) (gR_s4 s) (gR_txt s))) rfl ?_
      refine mEv.mem memR_mk ?_
      obtain rfl := Option.some.inj h
      exact hk
def F_X2_refusedWith (p1 : Int32) (p2 : Int32) (p3 : Int32) (s : RouS) : Option (Int32 × RouS) := (F_X0_copyFrom (gR_now s) (gR_tri s)).bind (fun v1 => (F_X0_fill p1 36 (gN_r v1)).bind (fun v3 => (mWh (fun x => B_X2_refusedWith_28 p2 p3 x.1 x.2.1 x.2.2) fuel0 ((nI 0), (nI 0), (mkR (gR_sc s) (gR_ns s) (gR_bd s) (gR_no s) (gR_fu s) (gR_now s) (mkN (gN_tc v1) (gN_hb v1) (gN_x v1) (gN_hg v1) (gN_cc v1) (gN_w v1) v3 (gN_hd v1) (gN_st v1) (gN_ct v1) (gN_tt v1) (gN_ld v1) (gN_ca v1)) (gR_s0 s) (gR_s1 s) (gR_s2 s) (gR_s3 s) (gR_s4 s) (gR_txt s)))).bind (fun z11 => some ((z11.1, z11.2)))))
set_option maxRecDepth 100000 in
theorem E_X2_refusedWith {d : Nat} {p1 : Int32} {p2 : Int32} {p3 : Int32} {s : RouS} {q : Int32 × RouS} (h : F_X2_refusedWith p1 p2 p3 s = some q) : mEv (d + 5) m_X2_refusedWith none (0, [], [some (.ref 0), some (.int p1), some (.int p2), some (.int p3), none, none], [], memR s) (some (Value.int q.1)) (memR q.2) := by
  unfold F_X2_refusedWith at h
  refine mEv.stp 5 (S' := (8, _, [some (.ref 0), some (.int p1), some (.int p2), some (.int p3), none, none], [.ref 1, .ref 10], memR s)) rfl ?_
  obtain ⟨v1, e2, h⟩ := bnd h
  refine mEv.callV (As := [.ref 1]) (st := []) (h := 10) (r := none) (μ1 := memRx (gR_sc s) (gR_ns s) (gR_bd s) (gR_no s) (gR_fu s) (gR_now s) v1 (gR_s0 s) (gR_s1 s) (gR_s2 s) (gR_s3 s) (gR_s4 s) (gR_txt s)) lk_X2_161 rfl rfl rfl rfl rfl (lf_NN10_1 (as := [.ref 0, .ref 9]) (r := none) (A_X0_copyFrom (d := d + 3) e2)) ?_
  refine mEv.stp 0 (S' := (11, _, [some (.ref 0), some (.int p1), some (.int p2), some (.int p3), none, none], [], memRx (gR_sc s) (gR_ns s) (gR_bd s) (gR_no s) (gR_fu s) (gR_now s) v1 (gR_s0 s) (gR_s1 s) (gR_s2 s) (gR_s3 s) (gR_s4 s) (gR_txt s))) rfl ?_
  refine mEv.stp 4 (S' := (19, _, [some (.ref 0), some (.int p1), some (.int p2), some (.int p3), none, none], [.int p1, .ref 12], memRx (gR_sc s) (gR_ns s) (gR_bd s) (gR_no s) (gR_fu s) (gR_now s) v1 (gR_s0 s) (gR_s1 s) (gR_s2 s) (gR_s3 s) (gR_s4 s) (gR_txt s))) rfl ?_
  obtain ⟨v3, e4, h⟩ := bnd h
  refine mEv.callS (As := [.ref 12, .int p1]) (st := []) (r := none) (μ1 := memRx (gR_sc s) (gR_ns s) (gR_bd s) (gR_no s) (gR_fu s) (gR_now s) (mkN (gN_tc v1) (gN_hb v1) (gN_x v1) (gN_hg v1) (gN_cc v1) (gN_w v1) v3 (gN_hd v1) (gN_st v1) (gN_ct v1) (gN_tt v1) (gN_ld v1) (gN_ca v1)) (gR_s0 s) (gR_s1 s) (gR_s2 s) (gR_s3 s) (gR_s4 s) (gR_txt s)) lk_X2_64 rfl rfl rfl (lf_F12 (as := [.ref 0, .int p1]) (r := none) (A_X0_fill (d := d + 4) e4)) ?_
  refine mEv.stp 0 (S' := (22, _, [some (.ref 0), some (.int p1), some (.int p2), some (.int p3), none, none], [], memRx (gR_sc s) (gR_ns s) (gR_bd s) (gR_no s) (gR_fu s) (gR_now s) (mkN (gN_tc v1) (gN_hb v1) (gN_x v1) (gN_hg v1) (gN_cc v1) (gN_w v1) v3 (gN_hd v1) (gN_st v1) (gN_ct v1) (gN_tt v1) (gN_ld v1) (gN_ca v1)) (gR_s0 s) (gR_s1 s) (gR_s2 s) (gR_s3 s) (gR_s4 s) (gR_txt s))) rfl ?_
  refine mEv.stp 4 (S' := (28, [], [some (.ref 0), some (.int p1), some (.int p2), some (.int p3), some (.int (nI 0)), some (.int (nI 0))], [], memRx (gR_sc s) (gR_ns s) (gR_bd s) (gR_no s) (gR_fu s) (gR_now s) (mkN (gN_tc v1) (gN_hb v1) (gN_x v1) (gN_hg v1) (gN_cc v1) (gN_w v1) v3 (gN_hd v1) (gN_st v1) (gN_ct v1) (gN_tt v1) (gN_ld v1) (gN_ca v1)) (gR_s0 s) (gR_s1 s) (gR_s2 s) (gR_s3 s) (gR_s4 s) (gR_txt s))) rfl ?_
  refine mEv.fg [1] (z' := [some (.ref 0), none, some (.int p2), some (.int p3), some (.int (nI 0)), some (.int (nI 0))]) rfl ?_
  refine mEv.mem memR_mk ?_
  obtain ⟨z11, e12, h⟩ := bnd h
  refine mWh_ind (b := (fun x => B_X2_refusedWith_28 p2 p3 x.1 x.2.1 x.2.2)) (P := fun x : Int32 × Int32 × RouS => mEv (d + 5) m_X2_refusedWith none (28, [], [some (.ref 0), none, some (.int p2), some (.int p3), some (.int x.1), some (.int x.2.1)], [], memR x.2.2) (some (Value.int q.1)) (memR q.2)) (K := fun z : Int32 × RouS => mEv (d + 5) m_X2_refusedWith none (76, [], [none, none, none, none, some (.int z.1), none], [], memR z.2) (some (Value.int q.1)) (memR q.2)) (fun x u hq hk => H_X2_refusedWith_28 (d := d) (x2 := p2) (x3 := p3) (x4 := x.1) (x5 := x.2.1) (s := x.2.2) (q := u) (r0 := (some (Value.int q.1))) (mu0 := (memR q.2)) hq hk) fuel0 ((nI 0), (nI 0), (mkR (gR_sc s) (gR_ns s) (gR_bd s) (gR_no s) (gR_fu s) (gR_now s) (mkN (gN_tc v1) (gN_hb v1) (gN_x v1) (gN_hg v1) (gN_cc v1) (gN_w v1) v3 (gN_hd v1) (gN_st v1) (gN_ct v1) (gN_tt v1) (gN_ld v1) (gN_ca v1)) (gR_s0 s) (gR_s1 s) (gR_s2 s) (gR_s3 s) (gR_s4 s) (gR_txt s))) z11 e12 ?_
  refine mEv.stp 0 (S' := (76, [], [none, none, none, none, some (.int z11.1), none], [], memR z11.2)) rfl ?_
  obtain rfl := Option.some.inj h
  exact mEv.stp 2 (S' := (78, _, [none, none, none, none, some (.int z11.1), none], [.int z11.1], memR z11.2)) rfl (mEv.reti ⟨_, rfl, rfl⟩)
theorem A_X2_refusedWith {d : Nat} {p1 : Int32} {p2 : Int32} {p3 : Int32} {s : RouS} {q : Int32 × RouS} (h : F_X2_refusedWith p1 p2 p3 s = some q) : mCall (d + 5) m_X2_refusedWith [.ref 0, .int p1, .int p2, .int p3] (memR s) (some (Value.int q.1)) (memR q.2) := mCall.intro ok_X2_refusedWith pl_X2_refusedWith rfl (E_X2_refusedWith (d := d) h)
def J_X2_would_20  (s : RouS) : Option (Int32 × RouS) := (F_X2_refuse (-nI 2) s).bind (fun v4 => some ((v4.1, v4.2)))
set_option maxRecDepth 100000 in
theorem K_X2_would_20 {d : Nat}  {s : RouS} {q : Int32 × RouS} (h : J_X2_would_20 s = some q) : mEv (d + 6) m_X2_would none (20, [], [some (.ref 0), none, none], [], memR s) (some (Value.int q.1)) (memR q.2) := by
  unfold J_X2_would_20 at h
  refine mEv.stp 3 (S' := (23, _, [some (.ref 0), none, none], [.int (-nI 2), .ref 0], memR s)) rfl ?_
  obtain ⟨v4, e5, h⟩ := bnd h
  refine mEv.callV (As := [.int (-nI 2)]) (st := []) (h := 0) (r := (some (.int v4.1))) (μ1 := memR v4.2) lk_X2_34 rfl rfl rfl rfl rfl (A_X2_refuse (d := d + 5) e5) ?_
  refine mEv.stp 0 (S' := (26, _, [some (.ref 0), none, none], [.int v4.1], memR v4.2)) rfl ?_
  obtain rfl := Option.some.inj h
  exact mEv.reti ⟨_, rfl, rfl⟩
def F_X2_would (p1 : Int32) (p2 : Int32) (s : RouS) : Option (Int32 × RouS) := (F_X2_within p1 (nI 1) (nI 48)).bind (fun v1 => if v1 = (nI 0) then (J_X2_would_20 s) else ((F_X2_within p2 (nI 0) (nI 30)).bind (fun v6 => if ¬ v6 = (nI 0) then ((F_X2_refusedWith p2 p1 (nI 1000000) s).bind (fun v9 => some ((v9.1, v9.2)))) else (J_X2_would_20 s))))
set_option maxRecDepth 100000 in
theorem E_X2_would {d : Nat} {p1 : Int32} {p2 : Int32} {s : RouS} {q : Int32 × RouS} (h : F_X2_would p1 p2 s = some q) : mEv (d + 6) m_X2_would none (0, [], [some (.ref 0), some (.int p1), some (.int p2)], [], memR s) (some (Value.int q.1)) (memR q.2) := by
  unfold F_X2_would at h
  refine mEv.stp 4 (S' := (4, _, [some (.ref 0), some (.int p1), some (.int p2)], [.int (nI 48), .int (nI 1), .int p1], memR s)) rfl ?_
  obtain ⟨v1, e2, h⟩ := bnd h
  refine mEv.callS (As := [.int p1, .int (nI 1), .int (nI 48)]) (st := []) (r := (some (.int v1))) (μ1 := memR s) lk_X2_30 rfl rfl rfl (A_X2_within (d := d + 5) e2) ?_
  refine mEv.stp 0 (S' := (7, _, [some (.ref 0), some (.int p1), some (.int p2)], [.int v1], memR s)) rfl ?_
  refine mEv.br 1 (S1 := (20, [], [some (.ref 0), some (.int p1), some (.int p2)], [], memR s)) (S2 := (10, _, [some (.ref 0), some (.int p1), some (.int p2)], [], memR s)) rfl (fun c3 => ?_) (fun c3 => ?_)
  · have h := (if_pos c3).symm.trans h
    refine mEv.fg [1, 2] (z' := [some (.ref 0), none, none]) rfl ?_
    exact K_X2_would_20 (d := d) h
  · have h := (if_neg c3).symm.trans h
    refine mEv.stp 3 (S' := (14, _, [some (.ref 0), some (.int p1), some (.int p2)], [.int (nI 30), .int (nI 0), .int p2], memR s)) rfl ?_
    obtain ⟨v6, e7, h⟩ := bnd h
    refine mEv.callS (As := [.int p2, .int (nI 0), .int (nI 30)]) (st := []) (r := (some (.int v6))) (μ1 := memR s) lk_X2_30 rfl rfl rfl (A_X2_within (d := d + 5) e7) ?_
    refine mEv.stp 0 (S' := (17, _, [some (.ref 0), some (.int p1), some (.int p2)], [.int v6], memR s)) rfl ?_
    refine mEv.br 1 (S1 := (27, [], [some (.ref 0), some (.int p1), some (.int p2)], [], memR s)) (S2 := (20, [], [some (.ref 0), some (.int p1), some (.int p2)], [], memR s)) rfl (fun c8 => ?_) (fun c8 => ?_)
    · have h := (if_pos c8).symm.trans h
      refine mEv.stp 5 (S' := (32, _, [some (.ref 0), some (.int p1), some (.int p2)], [.int (nI 1000000), .int p1, .int p2, .ref 0], memR s)) rfl ?_
      obtain ⟨v9, e10, h⟩ := bnd h
      refine mEv.callV (As := [.int p2, .int p1, .int (nI 1000000)]) (st := []) (h := 0) (r := (some (.int v9.1))) (μ1 := memR v9.2) lk_X2_126 rfl rfl rfl rfl rfl (A_X2_refusedWith (d := d + 0) e10) ?_
      refine mEv.stp 0 (S' := (35, _, [some (.ref 0), some (.int p1), some (.int p2)], [.int v9.1], memR v9.2)) rfl ?_
      obtain rfl := Option.some.inj h
      exact mEv.reti ⟨_, rfl, rfl⟩
    · have h := (if_neg c8).symm.trans h
      refine mEv.fg [1, 2] (z' := [some (.ref 0), none, none]) rfl ?_
      exact K_X2_would_20 (d := d) h
theorem A_X2_would {d : Nat} {p1 : Int32} {p2 : Int32} {s : RouS} {q : Int32 × RouS} (h : F_X2_would p1 p2 s = some q) : mCall (d + 6) m_X2_would [.ref 0, .int p1, .int p2] (memR s) (some (Value.int q.1)) (memR q.2) := mCall.intro ok_X2_would pl_X2_would rfl (E_X2_would (d := d) h)
def J_X2_best_19  (s : RouS) : Option (Int32 × RouS) := (F_X2_refuse (-nI 2) s).bind (fun v4 => some ((v4.1, v4.2)))
set_option maxRecDepth 100000 in
theorem K_X2_best_19 {d : Nat}  {s : RouS} {q : Int32 × RouS} (h : J_X2_best_19 s = some q) : mEv (d + 6) m_X2_best none (19, [], [some (.ref 0), none, none, none, none, none, none], [], memR s) (some (Value.int q.1)) (memR q.2) := by
  unfold J_X2_best_19 at h
  refine mEv.stp 3 (S' := (22, _, [some (.ref 0), none, none, none, none, none, none], [.int (-nI 2), .ref 0], memR s)) rfl ?_
  obtain ⟨v4, e5, h⟩ := bnd h
  refine mEv.callV (As := [.int (-nI 2)]) (st := []) (h := 0) (r := (some (.int v4.1))) (μ1 := memR v4.2) lk_X2_34 rfl rfl rfl rfl rfl (A_X2_refuse (d := d + 5) e5) ?_
  refine mEv.stp 0 (S' := (25, _, [some (.ref 0), none, none, none, none, none, none], [.int v4.1], memR v4.2)) rfl ?_
  obtain rfl := Option.some.inj h
  exact mEv.reti ⟨_, rfl, rfl⟩
def B_X2_best_35 (x1 : Int32) (x2 : Int32) (x3 : Int32) (x4 : Int32) (x5 : Int32) (s : RouS) : Option ((Int32 × Int32 × Int32 × RouS) ⊕ (Int32 × Int32 × RouS)) := if (nI 30) < x5 then (some (.inr (x3, x4, s))) else (if x4 ≤ (nI 0) then (some (.inr (x3, x4, s))) else ((F_X2_refusedWith x5 x1 x4 s).bind (fun v11 => if x4 ≤ v11.1 then (some (.inl (x3, x4, (x5 + (nI 1)), v11.2))) else (some (.inl (x5, v11.1, (x5 + (nI 1)), v11.2))))))
set_option maxRecDepth 100000 in
theorem H_X2_best_35 {d : Nat} {x1 : Int32} {x2 : Int32} {x3 : Int32} {x4 : Int32} {x5 : Int32} {s : RouS} {q : (Int32 × Int32 × Int32 × RouS) ⊕ (Int32 × Int32 × RouS)} {r0 : Option Value} {mu0 : MMe} (h : B_X2_best_35 x1 x2 x3 x4 x5 s = some q) (hk : Sum.elim (fun x : Int32 × Int32 × Int32 × RouS => mEv (d + 6) m_X2_best none (35, [], [some (.ref 0), some (.int x1), some (.int x2), some (.int x.1), some (.int x.2.1), some (.int x.2.2.1), none], [], memR x.2.2.2) r0 mu0) (fun z : Int32 × Int32 × RouS => mEv (d + 6) m_X2_best none (78, [], [none, none, some (.int x2), some (.int z.1), some (.int z.2.1), none, none], [], memR z.2.2) r0 mu0) q) : mEv (d + 6) m_X2_best none (35, [], [some (.ref 0), some (.int x1), some (.int x2), some (.int x3), some (.int x4), some (.int x5), none], [], memR s) r0 mu0 := by
  unfold B_X2_best_35 at h
  refine mEv.br 4 (S1 := (78, [], [some (.ref 0), some (.int x1), some (.int x2), some (.int x3), some (.int x4), some (.int x5), none], [], memR s)) (S2 := (42, _, [some (.ref 0), some (.int x1), some (.int x2), some (.int x3), some (.int x4), some (.int x5), none], [], memR s)) rfl (fun c9 => ?_) (fun c9 => ?_)
  · have h := (if_pos c9).symm.trans h
    refine mEv.fg [0, 1, 5] (z' := [none, none, some (.int x2), some (.int x3), some (.int x4), none, none]) rfl ?_
    obtain rfl := Option.some.inj h
    exact hk
  · have h := (if_neg c9).symm.trans h
    refine mEv.br 2 (S1 := (78, [], [some (.ref 0), some (.int x1), some (.int x2), some (.int x3), some (.int x4), some (.int x5), none], [], memR s)) (S2 := (47, _, [some (.ref 0), some (.int x1), some (.int x2), some (.int x3), some (.int x4), some (.int x5), none], [], memR s)) rfl (fun c10 => ?_) (fun c10 => ?_)
    · have h := (if_pos c10).symm.trans h
      refine mEv.fg [0, 1, 5] (z' := [none, none, some (.int x2), some (.int x3), some (.int x4), none, none]) rfl ?_
      obtain rfl := Option.some.inj h
      exact hk
    · have h := (if_neg c10).symm.trans h
      refine mEv.stp 4 (S' := (53, _, [some (.ref 0), some (.int x1), some (.int x2), some (.int x3), some (.int x4), some (.int x5), none], [.int x4, .int x1, .int x5, .ref 0], memR s)) rfl ?_
      obtain ⟨v11, e12, h⟩ := bnd h
      refine mEv.callV (As := [.int x5, .int x1, .int x4]) (st := []) (h := 0) (r := (some (.int v11.1))) (μ1 := memR v11.2) lk_X2_126 rfl rfl rfl rfl rfl (A_X2_refusedWith (d := d + 0) e12) ?_
      refine mEv.stp 0 (S' := (56, _, [some (.ref 0), some (.int x1), some (.int x2), some (.int x3), some (.int x4), some (.int x5), none], [.int v11.1], memR v11.2)) rfl ?_
      refine mEv.br 4 (S1 := (72, [], [some (.ref 0), some (.int x1), some (.int x2), some (.int x3), some (.int x4), some (.int x5), some (.int v11.1)], [], memR v11.2)) (S2 := (65, _, [some (.ref 0), some (.int x1), some (.int x2), some (.int x3), some (.int x4), some (.int x5), some (.int v11.1)], [], memR v11.2)) rfl (fun c13 => ?_) (fun c13 => ?_)
      · have h := (if_pos c13).symm.trans h
        refine mEv.stp 3 (S' := (35, [], [some (.ref 0), some (.int x1), some (.int x2), some (.int x3), some (.int x4), some (.int (x5 + (nI 1))), some (.int v11.1)], [], memR v11.2)) rfl ?_
        refine mEv.fg [6] (z' := [some (.ref 0), some (.int x1), some (.int x2), some (.int x3), some (.int x4), some (.int (x5 + (nI 1))), none]) rfl ?_
        obtain rfl := Option.some.inj h
        exact hk
      · have h := (if_neg c13).symm.trans h
        refine mEv.stp 7 (S' := (35, [], [some (.ref 0), some (.int x1), some (.int x2), some (.int x5), some (.int v11.1), some (.int (x5 + (nI 1))), some (.int v11.1)], [], memR v11.2)) rfl ?_
        refine mEv.fg [6] (z' := [some (.ref 0), some (.int x1), some (.int x2), some (.int x5), some (.int v11.1), some (.int (x5 + (nI 1))), none]) rfl ?_
        obtain rfl := Option.some.inj h
        exact hk
def F_X2_best (p1 : Int32) (p2 : Int32) (s : RouS) : Option (Int32 × RouS) := (F_X2_within p1 (nI 1) (nI 48)).bind (fun v1 => if v1 = (nI 0) then (J_X2_best_19 s) else ((F_X2_within p2 (nI 0) (nI 1)).bind (fun v6 => if ¬ v6 = (nI 0) then ((mWh (fun x => B_X2_best_35 p1 p2 x.1 x.2.1 x.2.2.1 x.2.2.2) fuel0 ((nI 0), (nI 1000000), (nI 0), s)).bind (fun z14 => if ¬ p2 = (nI 0) then (some ((z14.2.1, z14.2.2))) else (some ((z14.1, z14.2.2))))) else (J_X2_best_19 s))))
set_option maxRecDepth 100000 in
theorem E_X2_best {d : Nat} {p1 : Int32} {p2 : Int32} {s : RouS} {q : Int32 × RouS} (h : F_X2_best p1 p2 s = some q) : mEv (d + 6) m_X2_best none (0, [], [some (.ref 0), some (.int p1), some (.int p2), none, none, none, none], [], memR s) (some (Value.int q.1)) (memR q.2) := by
  unfold F_X2_best at h
  refine mEv.stp 4 (S' := (4, _, [some (.ref 0), some (.int p1), some (.int p2), none, none, none, none], [.int (nI 48), .int (nI 1), .int p1], memR s)) rfl ?_
  obtain ⟨v1, e2, h⟩ := bnd h
  refine mEv.callS (As := [.int p1, .int (nI 1), .int (nI 48)]) (st := []) (r := (some (.int v1))) (μ1 := memR s) lk_X2_30 rfl rfl rfl (A_X2_within (d := d + 5) e2) ?_
  refine mEv.stp 0 (S' := (7, _, [some (.ref 0), some (.int p1), some (.int p2), none, none, none, none], [.int v1], memR s)) rfl ?_
  refine mEv.br 1 (S1 := (19, [], [some (.ref 0), some (.int p1), some (.int p2), none, none, none, none], [], memR s)) (S2 := (10, _, [some (.ref 0), some (.int p1), some (.int p2), none, none, none, none], [], memR s)) rfl (fun c3 => ?_) (fun c3 => ?_)
  · have h := (if_pos c3).symm.trans h
    refine mEv.fg [1, 2] (z' := [some (.ref 0), none, none, none, none, none, none]) rfl ?_
    exact K_X2_best_19 (d := d) h
  · have h := (if_neg c3).symm.trans h
    refine mEv.stp 3 (S' := (13, _, [some (.ref 0), some (.int p1), some (.int p2), none, none, none, none], [.int (nI 1), .int (nI 0), .int p2], memR s)) rfl ?_
    obtain ⟨v6, e7, h⟩ := bnd h
    refine mEv.callS (As := [.int p2, .int (nI 0), .int (nI 1)]) (st := []) (r := (some (.int v6))) (μ1 := memR s) lk_X2_30 rfl rfl rfl (A_X2_within (d := d + 5) e7) ?_
    refine mEv.stp 0 (S' := (16, _, [some (.ref 0), some (.int p1), some (.int p2), none, none, none, none], [.int v6], memR s)) rfl ?_
    refine mEv.br 1 (S1 := (26, [], [some (.ref 0), some (.int p1), some (.int p2), none, none, none, none], [], memR s)) (S2 := (19, [], [some (.ref 0), some (.int p1), some (.int p2), none, none, none, none], [], memR s)) rfl (fun c8 => ?_) (fun c8 => ?_)
    · have h := (if_pos c8).symm.trans h
      refine mEv.stp 7 (S' := (35, [], [some (.ref 0), some (.int p1), some (.int p2), some (.int (nI 0)), some (.int (nI 1000000)), some (.int (nI 0)), none], [], memR s)) rfl ?_
      obtain ⟨z14, e15, h⟩ := bnd h
      refine mWh_ind (b := (fun x => B_X2_best_35 p1 p2 x.1 x.2.1 x.2.2.1 x.2.2.2)) (P := fun x : Int32 × Int32 × Int32 × RouS => mEv (d + 6) m_X2_best none (35, [], [some (.ref 0), some (.int p1), some (.int p2), some (.int x.1), some (.int x.2.1), some (.int x.2.2.1), none], [], memR x.2.2.2) (some (Value.int q.1)) (memR q.2)) (K := fun z : Int32 × Int32 × RouS => mEv (d + 6) m_X2_best none (78, [], [none, none, some (.int p2), some (.int z.1), some (.int z.2.1), none, none], [], memR z.2.2) (some (Value.int q.1)) (memR q.2)) (fun x u hq hk => H_X2_best_35 (d := d) (x1 := p1) (x2 := p2) (x3 := x.1) (x4 := x.2.1) (x5 := x.2.2.1) (s := x.2.2.2) (q := u) (r0 := (some (Value.int q.1))) (mu0 := (memR q.2)) hq hk) fuel0 ((nI 0), (nI 1000000), (nI 0), s) z14 e15 ?_
      refine mEv.stp 0 (S' := (78, [], [none, none, some (.int p2), some (.int z14.1), some (.int z14.2.1), none, none], [], memR z14.2.2)) rfl ?_
      refine mEv.br 3 (S1 := (86, [], [none, none, some (.int p2), some (.int z14.1), some (.int z14.2.1), none, none], [], memR z14.2.2)) (S2 := (82, _, [none, none, some (.int p2), some (.int z14.1), some (.int z14.2.1), none, none], [], memR z14.2.2)) rfl (fun c16 => ?_) (fun c16 => ?_)
      · have h := (if_pos c16).symm.trans h
        obtain rfl := Option.some.inj h
        exact mEv.stp 3 (S' := (88, _, [none, none, some (.int p2), some (.int z14.1), some (.int z14.2.1), none, none], [.int z14.2.1], memR z14.2.2)) rfl (mEv.reti ⟨_, rfl, rfl⟩)
      · have h := (if_neg c16).symm.trans h
        obtain rfl := Option.some.inj h
        exact mEv.stp 3 (S' := (88, _, [none, none, some (.int p2), some (.int z14.1), some (.int z14.2.1), none, none], [.int z14.1], memR z14.2.2)) rfl (mEv.reti ⟨_, rfl, rfl⟩)
    · have h := (if_neg c8).symm.trans h
      refine mEv.fg [1, 2] (z' := [some (.ref 0), none, none, none, none, none, none]) rfl ?_
      exact K_X2_best_19 (d := d) h
theorem A_X2_best {d : Nat} {p1 : Int32} {p2 : Int32} {s : RouS} {q : Int32 × RouS} (h : F_X2_best p1 p2 s = some q) : mCall (d + 6) m_X2_best [.ref 0, .int p1, .int p2] (memR s) (some (Value.int q.1)) (memR q.2) := mCall.intro ok_X2_best pl_X2_best rfl (E_X2_best (d := d) h)
def B_X2_choked_34 (x1 : Int32) (x3 : Int32) (x2 : Int32) (x4 : Int32) (s : RouS) : Option ((Int32 × Int32) ⊕ (Int32)) := if (gN_tc (gR_now s)) ≤ x4 then (some (.inr (x2))) else (if x3 = x4 then (some (.inl (x2, (x4 + (nI 1))))) else (if ¬ x1 = (nI 0) then ((F_X0_hasAnyWay x3 x4 (gR_now s)).bind (fun v8 => if ¬ v8 = (nI 0) then (some (.inl (x2, (x4 + (nI 1))))) else (some (.inl ((x2 + (nI 1)), (x4 + (nI 1))))))) else ((F_X0_wayNow x3 x4 (gR_now s)).bind (fun v11 => if ¬ v11 = (-nI 5) then (some (.inl (x2, (x4 + (nI 1))))) else (some (.inl ((x2 + (nI 1)), (x4 + (nI 1)))))))))
set_option maxRecDepth 100000 in
theorem H_X2_choked_34 {d : Nat} {x1 : Int32} {x3 : Int32} {x2 : Int32} {x4 : Int32} {s : RouS} {q : (Int32 × Int32) ⊕ (Int32)} {r0 : Option Value} {mu0 : MMe} (h : B_X2_choked_34 x1 x3 x2 x4 s = some q) (hk : Sum.elim (fun x : Int32 × Int32 => mEv (d + 2) m_X2_choked none (34, [], [some (.ref 0), some (.int x1), some (.int x.1), some (.int x3), some (.int x.2)], [], memR s) r0 mu0) (fun z : Int32 => mEv (d + 2) m_X2_choked none (96, [], [some (.ref 0), some (.int x1), some (.int z), some (.int x3), none], [], memR s) r0 mu0) q) : mEv (d + 2) m_X2_choked none (34, [], [some (.ref 0), some (.int x1), some (.int x2), some (.int x3), some (.int x4)], [], memR s) r0 mu0 := by
  unfold B_X2_choked_34 at h
  refine mEv.br 6 (S1 := (96, [], [some (.ref 0), some (.int x1), some (.int x2), some (.int x3), some (.int x4)], [], memR s)) (S2 := (46, _, [some (.ref 0), some (.int x1), some (.int x2), some (.int x3), some (.int x4)], [], memR s)) rfl (fun c5 => ?_) (fun c5 => ?_)
  · have h := (if_pos c5).symm.trans h
    refine mEv.fg [4] (z' := [some (.ref 0), some (.int x1), some (.int x2), some (.int x3), none]) rfl ?_
    obtain rfl := Option.some.inj h
    exact hk
  · have h := (if_neg c5).symm.trans h
    refine mEv.br 3 (S1 := (90, [], [some (.ref 0), some (.int x1), some (.int x2), some (.int x3), some (.int x4)], [], memR s)) (S2 := (52, _, [some (.ref 0), some (.int x1), some (.int x2), some (.int x3), some (.int x4)], [], memR s)) rfl (fun c6 => ?_) (fun c6 => ?_)
    · have h := (if_pos c6).symm.trans h
      refine mEv.stp 3 (S' := (34, [], [some (.ref 0), some (.int x1), some (.int x2), some (.int x3), some (.int (x4 + (nI 1)))], [], memR s)) rfl ?_
      obtain rfl := Option.some.inj h
      exact hk
    · have h := (if_neg c6).symm.trans h
      refine mEv.br 2 (S1 := (74, [], [some (.ref 0), some (.int x1), some (.int x2), some (.int x3), some (.int x4)], [], memR s)) (S2 := (56, _, [some (.ref 0), some (.int x1), some (.int x2), some (.int x3), some (.int x4)], [], memR s)) rfl (fun c7 => ?_) (fun c7 => ?_)
      · have h := (if_pos c7).symm.trans h
        refine mEv.stp 5 (S' := (81, _, [some (.ref 0), some (.int x1), some (.int x2), some (.int x3), some (.int x4)], [.int x4, .int x3, .ref 1], memR s)) rfl ?_
        obtain ⟨v8, e9, h⟩ := bnd h
        refine mEv.callV (As := [.int x3, .int x4]) (st := []) (h := 1) (r := (some (.int v8))) (μ1 := memR s) lk_X2_132 rfl rfl rfl rfl rfl (lf_N1 (as := [.ref 0, .int x3, .int x4]) (r := (some (.int v8))) (A_X0_hasAnyWay (d := d + 0) e9)) ?_
        refine mEv.stp 0 (S' := (84, _, [some (.ref 0), some (.int x1), some (.int x2), some (.int x3), some (.int x4)], [.int v8], memR s)) rfl ?_
        refine mEv.br 1 (S1 := (90, [], [some (.ref 0), some (.int x1), some (.int x2), some (.int x3), some (.int x4)], [], memR s)) (S2 := (87, [], [some (.ref 0), some (.int x1), some (.int x2), some (.int x3), some (.int x4)], [], memR s)) rfl (fun c10 => ?_) (fun c10 => ?_)
        · have h := (if_pos c10).symm.trans h
          refine mEv.stp 3 (S' := (34, [], [some (.ref 0), some (.int x1), some (.int x2), some (.int x3), some (.int (x4 + (nI 1)))], [], memR s)) rfl ?_
          obtain rfl := Option.some.inj h
          exact hk
        · have h := (if_neg c10).symm.trans h
          refine mEv.stp 5 (S' := (34, [], [some (.ref 0), some (.int x1), some (.int (x2 + (nI 1))), some (.int x3), some (.int (x4 + (nI 1)))], [], memR s)) rfl ?_
          obtain rfl := Option.some.inj h
          exact hk
      · have h := (if_neg c7).symm.trans h
        refine mEv.stp 4 (S' := (63, _, [some (.ref 0), some (.int x1), some (.int x2), some (.int x3), some (.int x4)], [.int x4, .int x3, .ref 1], memR s)) rfl ?_
        obtain ⟨v11, e12, h⟩ := bnd h
        refine mEv.callV (As := [.int x3, .int x4]) (st := []) (h := 1) (r := (some (.int v11))) (μ1 := memR s) lk_X2_129 rfl rfl rfl rfl rfl (lf_N1 (as := [.ref 0, .int x3, .int x4]) (r := (some (.int v11))) (A_X0_wayNow (d := d + 0) e12)) ?_
        refine mEv.stp 0 (S' := (66, _, [some (.ref 0), some (.int x1), some (.int x2), some (.int x3), some (.int x4)], [.int v11], memR s)) rfl ?_
        refine mEv.br 2 (S1 := (90, [], [some (.ref 0), some (.int x1), some (.int x2), some (.int x3), some (.int x4)], [], memR s)) (S2 := (71, _, [some (.ref 0), some (.int x1), some (.int x2), some (.int x3), some (.int x4)], [], memR s)) rfl (fun c13 => ?_) (fun c13 => ?_)
        · have h := (if_pos c13).symm.trans h
          refine mEv.stp 3 (S' := (34, [], [some (.ref 0), some (.int x1), some (.int x2), some (.int x3), some (.int (x4 + (nI 1)))], [], memR s)) rfl ?_
          obtain rfl := Option.some.inj h
          exact hk
        · have h := (if_neg c13).symm.trans h
          refine mEv.stp 6 (S' := (34, [], [some (.ref 0), some (.int x1), some (.int (x2 + (nI 1))), some (.int x3), some (.int (x4 + (nI 1)))], [], memR s)) rfl ?_
          obtain rfl := Option.some.inj h
          exact hk
def B_X2_choked_20 (x1 : Int32) (x2 : Int32) (x3 : Int32) (s : RouS) : Option ((Int32 × Int32) ⊕ (Int32)) := if (gN_tc (gR_now s)) ≤ x3 then (some (.inr (x2))) else ((mWh (fun x => B_X2_choked_34 x1 x3 x.1 x.2 s) fuel0 (x2, (nI 0))).bind (fun z14 => some (.inl (z14, (x3 + (nI 1))))))
set_option maxRecDepth 100000 in
theorem H_X2_choked_20 {d : Nat} {x1 : Int32} {x2 : Int32} {x3 : Int32} {s : RouS} {q : (Int32 × Int32) ⊕ (Int32)} {r0 : Option Value} {mu0 : MMe} (h : B_X2_choked_20 x1 x2 x3 s = some q) (hk : Sum.elim (fun x : Int32 × Int32 => mEv (d + 2) m_X2_choked none (20, [], [some (.ref 0), some (.int x1), some (.int x.1), some (.int x.2), none], [], memR s) r0 mu0) (fun z : Int32 => mEv (d + 2) m_X2_choked none (102, [], [none, none, some (.int z), none, none], [], memR s) r0 mu0) q) : mEv (d + 2) m_X2_choked none (20, [], [some (.ref 0), some (.int x1), some (.int x2), some (.int x3), none], [], memR s) r0 mu0 := by
  unfold B_X2_choked_20 at h
  refine mEv.br 6 (S1 := (102, [], [some (.ref 0), some (.int x1), some (.int x2), some (.int x3), none], [], memR s)) (S2 := (31, _, [some (.ref 0), some (.int x1), some (.int x2), some (.int x3), none], [], memR s)) rfl (fun c4 => ?_) (fun c4 => ?_)
  · have h := (if_pos c4).symm.trans h
    refine mEv.fg [0, 1, 3] (z' := [none, none, some (.int x2), none, none]) rfl ?_
    obtain rfl := Option.some.inj h
    exact hk
  · have h := (if_neg c4).symm.trans h
    refine mEv.stp 2 (S' := (34, [], [some (.ref 0), some (.int x1), some (.int x2), some (.int x3), some (.int (nI 0))], [], memR s)) rfl ?_
    obtain ⟨z14, e15, h⟩ := bnd h
    refine mWh_ind (b := (fun x => B_X2_choked_34 x1 x3 x.1 x.2 s)) (P := fun x : Int32 × Int32 => mEv (d + 2) m_X2_choked none (34, [], [some (.ref 0), some (.int x1), some (.int x.1), some (.int x3), some (.int x.2)], [], memR s) r0 mu0) (K := fun z : Int32 => mEv (d + 2) m_X2_choked none (96, [], [some (.ref 0), some (.int x1), some (.int z), some (.int x3), none], [], memR s) r0 mu0) (fun x u hq hk => H_X2_choked_34 (d := d) (x1 := x1) (x3 := x3) (x2 := x.1) (x4 := x.2) (s := s) (q := u) (r0 := r0) (mu0 := mu0) hq hk) fuel0 (x2, (nI 0)) z14 e15 ?_
    refine mEv.stp 0 (S' := (96, [], [some (.ref 0), some (.int x1), some (.int z14), some (.int x3), none], [], memR s)) rfl ?_
    refine mEv.stp 3 (S' := (20, [], [some (.ref 0), some (.int x1), some (.int z14), some (.int (x3 + (nI 1))), none], [], memR s)) rfl ?_
    obtain rfl := Option.some.inj h
    exact hk
def F_X2_choked (p1 : Int32) (s : RouS) : Option (Int32 × RouS) := (F_X2_within p1 (nI 0) (nI 1)).bind (fun v1 => if ¬ v1 = (nI 0) then ((mWh (fun x => B_X2_choked_20 p1 x.1 x.2 s) fuel0 ((nI 0), (nI 0))).bind (fun z16 => some ((z16, s)))) else ((F_X2_refuse (-nI 2) s).bind (fun v18 => some ((v18.1, v18.2)))))
set_option maxRecDepth 100000 in
theorem E_X2_choked {d : Nat} {p1 : Int32} {s : RouS} {q : Int32 × RouS} (h : F_X2_choked p1 s = some q) : mEv (d + 2) m_X2_choked none (0, [], [some (.ref 0), some (.int p1), none, none, none], [], memR s) (some (Value.int q.1)) (memR q.2) := by
  unfold F_X2_choked at h
  refine mEv.stp 4 (S' := (3, _, [some (.ref 0), some (.int p1), none, none, none], [.int (nI 1), .int (nI 0), .int p1], memR s)) rfl ?_
  obtain ⟨v1, e2, h⟩ := bnd h
  refine mEv.callS (As := [.int p1, .int (nI 0), .int (nI 1)]) (st := []) (r := (some (.int v1))) (μ1 := memR s) lk_X2_30 rfl rfl rfl (A_X2_within (d := d + 1) e2) ?_
  refine mEv.stp 0 (S' := (6, _, [some (.ref 0), some (.int p1), none, none, none], [.int v1], memR s)) rfl ?_
  refine mEv.br 1 (S1 := (16, [], [some (.ref 0), some (.int p1), none, none, none], [], memR s)) (S2 := (9, _, [some (.ref 0), some (.int p1), none, none, none], [], memR s)) rfl (fun c3 => ?_) (fun c3 => ?_)
  · have h := (if_pos c3).symm.trans h
    refine mEv.stp 5 (S' := (20, [], [some (.ref 0), some (.int p1), some (.int (nI 0)), some (.int (nI 0)), none], [], memR s)) rfl ?_
    obtain ⟨z16, e17, h⟩ := bnd h
    refine mWh_ind (b := (fun x => B_X2_choked_20 p1 x.1 x.2 s)) (P := fun x : Int32 × Int32 => mEv (d + 2) m_X2_choked none (20, [], [some (.ref 0), some (.int p1), some (.int x.1), some (.int x.2), none], [], memR s) (some (Value.int q.1)) (memR q.2)) (K := fun z : Int32 => mEv (d + 2) m_X2_choked none (102, [], [none, none, some (.int z), none, none], [], memR s) (some (Value.int q.1)) (memR q.2)) (fun x u hq hk => H_X2_choked_20 (d := d) (x1 := p1) (x2 := x.1) (x3 := x.2) (s := s) (q := u) (r0 := (some (Value.int q.1))) (mu0 := (memR q.2)) hq hk) fuel0 ((nI 0), (nI 0)) z16 e17 ?_
    refine mEv.stp 0 (S' := (102, [], [none, none, some (.int z16), none, none], [], memR s)) rfl ?_
    obtain rfl := Option.some.inj h
    exact mEv.stp 2 (S' := (103, _, [none, none, some (.int z16), none, none], [.int z16], memR s)) rfl (mEv.reti ⟨_, rfl, rfl⟩)
  · have h := (if_neg c3).symm.trans h
    refine mEv.stp 2 (S' := (12, _, [some (.ref 0), some (.int p1), none, none, none], [.int (-nI 2), .ref 0], memR s)) rfl ?_
    obtain ⟨v18, e19, h⟩ := bnd h
    refine mEv.callV (As := [.int (-nI 2)]) (st := []) (h := 0) (r := (some (.int v18.1))) (μ1 := memR v18.2) lk_X2_34 rfl rfl rfl rfl rfl (A_X2_refuse (d := d + 1) e19) ?_
    refine mEv.stp 0 (S' := (15, _, [some (.ref 0), some (.int p1), none, none, none], [.int v18.1], memR v18.2)) rfl ?_
    obtain rfl := Option.some.inj h
    exact mEv.reti ⟨_, rfl, rfl⟩
theorem A_X2_choked {d : Nat} {p1 : Int32} {s : RouS} {q : Int32 × RouS} (h : F_X2_choked p1 s = some q) : mCall (d + 2) m_X2_choked [.ref 0, .int p1] (memR s) (some (Value.int q.1)) (memR q.2) := mCall.intro ok_X2_choked pl_X2_choked rfl (E_X2_choked (d := d) h)
def F_X2_type (p1 : Int32) (s : RouS) : Option (Int32 × RouS) := (F_X2_within p1 (nI 0) (nI 127)).bind (fun v1 => if ¬ v1 = (nI 0) then ((F_X1_append p1 (gR_txt s)).bind (fun v4 => if v4.1 = (nI 0) then ((F_X2_refuse (-nI 4) (mkR (gR_sc s) (gR_ns s) (gR_bd s) (gR_no s) (gR_fu s) (gR_now s) (gR_tri s) (gR_s0 s) (gR_s1 s) (gR_s2 s) (gR_s3 s) (gR_s4 s) v4.2)).bind (fun v7 => some ((v7.1, v7.2)))) else (some (((gT_ln v4.2), (mkR (gR_sc s) (gR_ns s) (gR_bd s) (gR_no s) (gR_fu s) (gR_now s) (gR_tri s) (gR_s0 s) (gR_s1 s) (gR_s2 s) (gR_s3 s) (gR_s4 s) v4.2)))))) else ((F_X2_refuse (-nI 2) s).bind (fun v9 => some ((v9.1, v9.2)))))
set_option maxRecDepth 100000 in
theorem E_X2_type {d : Nat} {p1 : Int32} {s : RouS} {q : Int32 × RouS} (h : F_X2_type p1 s = some q) : mEv (d + 1) m_X2_type none (0, [], [some (.ref 0), some (.int p1)], [], memR s) (some (Value.int q.1)) (memR q.2) := by
  unfold F_X2_type at h
  refine mEv.stp 4 (S' := (4, _, [some (.ref 0), some (.int p1)], [.int (nI 127), .int (nI 0), .int p1], memR s)) rfl ?_
  obtain ⟨v1, e2, h⟩ := bnd h
  refine mEv.callS (As := [.int p1, .int (nI 0), .int (nI 127)]) (st := []) (r := (some (.int v1))) (μ1 := memR s) lk_X2_30 rfl rfl rfl (A_X2_within (d := d + 0) e2) ?_
  refine mEv.stp 0 (S' := (7, _, [some (.ref 0), some (.int p1)], [.int v1], memR s)) rfl ?_
  refine mEv.br 1 (S1 := (17, [], [some (.ref 0), some (.int p1)], [], memR s)) (S2 := (10, _, [some (.ref 0), some (.int p1)], [], memR s)) rfl (fun c3 => ?_) (fun c3 => ?_)
  · have h := (if_pos c3).symm.trans h
    refine mEv.stp 4 (S' := (22, _, [some (.ref 0), some (.int p1)], [.int p1, .ref 65], memR s)) rfl ?_
    obtain ⟨v4, e5, h⟩ := bnd h
    refine mEv.callV (As := [.int p1]) (st := []) (h := 65) (r := (some (.int v4.1))) (μ1 := memRx (gR_sc s) (gR_ns s) (gR_bd s) (gR_no s) (gR_fu s) (gR_now s) (gR_tri s) (gR_s0 s) (gR_s1 s) (gR_s2 s) (gR_s3 s) (gR_s4 s) v4.2) lk_X2_135 rfl rfl rfl rfl rfl (lf_T65 (as := [.ref 0, .int p1]) (r := (some (.int v4.1))) (A_X1_append (d := d + 0) e5)) ?_
    refine mEv.stp 0 (S' := (25, _, [some (.ref 0), some (.int p1)], [.int v4.1], memRx (gR_sc s) (gR_ns s) (gR_bd s) (gR_no s) (gR_fu s) (gR_now s) (gR_tri s) (gR_s0 s) (gR_s1 s) (gR_s2 s) (gR_s3 s) (gR_s4 s) v4.2)) rfl ?_
    refine mEv.br 1 (S1 := (38, [], [some (.ref 0), some (.int p1)], [], memRx (gR_sc s) (gR_ns s) (gR_bd s) (gR_no s) (gR_fu s) (gR_now s) (gR_tri s) (gR_s0 s) (gR_s1 s) (gR_s2 s) (gR_s3 s) (gR_s4 s) v4.2)) (S2 := (28, _, [some (.ref 0), some (.int p1)], [], memRx (gR_sc s) (gR_ns s) (gR_bd s) (gR_no s) (gR_fu s) (gR_now s) (gR_tri s) (gR_s0 s) (gR_s1 s) (gR_s2 s) (gR_s3 s) (gR_s4 s) v4.2)) rfl (fun c6 => ?_) (fun c6 => ?_)
    · have h := (if_pos c6).symm.trans h
      refine mEv.stp 3 (S' := (41, _, [some (.ref 0), some (.int p1)], [.int (-nI 4), .ref 0], memRx (gR_sc s) (gR_ns s) (gR_bd s) (gR_no s) (gR_fu s) (gR_now s) (gR_tri s) (gR_s0 s) (gR_s1 s) (gR_s2 s) (gR_s3 s) (gR_s4 s) v4.2)) rfl ?_
      obtain ⟨v7, e8, h⟩ := bnd h
      refine mEv.callV (As := [.int (-nI 4)]) (st := []) (h := 0) (r := (some (.int v7.1))) (μ1 := memR v7.2) lk_X2_34 rfl rfl rfl rfl rfl (mCall.cast memR_mk (A_X2_refuse (d := d + 0) e8)) ?_
      refine mEv.stp 0 (S' := (44, [], [some (.ref 0), some (.int p1)], [.int v7.1], memR v7.2)) rfl ?_
      obtain rfl := Option.some.inj h
      exact mEv.stp 1 (S' := (44, _, [some (.ref 0), some (.int p1)], [.int v7.1], memR v7.2)) rfl (mEv.reti ⟨_, rfl, rfl⟩)
    · have h := (if_neg c6).symm.trans h
      obtain rfl := Option.some.inj h
      exact mEv.tgt memR_mk (mEv.stp 5 (S' := (44, _, [some (.ref 0), some (.int p1)], [.int (gT_ln v4.2)], memRx (gR_sc s) (gR_ns s) (gR_bd s) (gR_no s) (gR_fu s) (gR_now s) (gR_tri s) (gR_s0 s) (gR_s1 s) (gR_s2 s) (gR_s3 s) (gR_s4 s) v4.2)) rfl (mEv.reti ⟨_, rfl, rfl⟩))
  · have h := (if_neg c3).symm.trans h
    refine mEv.stp 2 (S' := (13, _, [some (.ref 0), some (.int p1)], [.int (-nI 2), .ref 0], memR s)) rfl ?_
    obtain ⟨v9, e10, h⟩ := bnd h
    refine mEv.callV (As := [.int (-nI 2)]) (st := []) (h := 0) (r := (some (.int v9.1))) (μ1 := memR v9.2) lk_X2_34 rfl rfl rfl rfl rfl (A_X2_refuse (d := d + 0) e10) ?_
    refine mEv.stp 0 (S' := (16, _, [some (.ref 0), some (.int p1)], [.int v9.1], memR v9.2)) rfl ?_
    obtain rfl := Option.some.inj h
    exact mEv.reti ⟨_, rfl, rfl⟩
theorem A_X2_type {d : Nat} {p1 : Int32} {s : RouS} {q : Int32 × RouS} (h : F_X2_type p1 s = some q) : mCall (d + 1) m_X2_type [.ref 0, .int p1] (memR s) (some (Value.int q.1)) (memR q.2) := mCall.intro ok_X2_type pl_X2_type rfl (E_X2_type (d := d) h)
def F_X2_clear  (s : RouS) : Option (Int32 × RouS) := some (((gT_ln (gR_txt s)), (mkR (gR_sc s) (gR_ns s) (gR_bd s) (gR_no s) (gR_fu s) (gR_now s) (gR_tri s) (gR_s0 s) (gR_s1 s) (gR_s2 s) (gR_s3 s) (gR_s4 s) (mkT (nI 0) (gT_oc (gR_txt s)) (gT_tn (gR_txt s)) (gT_pl (gR_txt s)) (gT_ft (gR_txt s)) (gT_by (gR_txt s)) (gT_od (gR_txt s))))))
set_option maxRecDepth 100000 in
theorem E_X2_clear {d : Nat}  {s : RouS} {q : Int32 × RouS} (h : F_X2_clear s = some q) : mEv d m_X2_clear none (0, [], [some (.ref 0), none], [], memR s) (some (Value.int q.1)) (memR q.2) := by
  unfold F_X2_clear at h
  obtain rfl := Option.some.inj h
  exact mEv.tgt memR_mk (mEv.stp 10 (S' := (17, _, [some (.ref 0), some (.int (gT_ln (gR_txt s)))], [.int (gT_ln (gR_txt s))], memRx (gR_sc s) (gR_ns s) (gR_bd s) (gR_no s) (gR_fu s) (gR_now s) (gR_tri s) (gR_s0 s) (gR_s1 s) (gR_s2 s) (gR_s3 s) (gR_s4 s) (mkT (nI 0) (gT_oc (gR_txt s)) (gT_tn (gR_txt s)) (gT_pl (gR_txt s)) (gT_ft (gR_txt s)) (gT_by (gR_txt s)) (gT_od (gR_txt s))))) rfl (mEv.reti ⟨_, rfl, rfl⟩))
theorem A_X2_clear {d : Nat}  {s : RouS} {q : Int32 × RouS} (h : F_X2_clear s = some q) : mCall d m_X2_clear [.ref 0] (memR s) (some (Value.int q.1)) (memR q.2) := mCall.intro ok_X2_clear pl_X2_clear rfl (E_X2_clear (d := d) h)
def B_X2_does_33 (x2 : Int32) (x3 : Int32) (s : RouS) : Option ((Int32 × Int32 × RouS) ⊕ (Int32 × RouS)) := if (gT_oc (gR_txt s)) ≤ x3 then (some (.inr (x2, s))) else ((F_X0_doOrder (x3 * (nI 4)) (gT_od (gR_txt s)) (gR_now s)).bind (fun v7 => if v7.1 = (nI 0) then (some (.inl (x2, (x3 + (nI 1)), (mkR (gR_sc s) (gR_ns s) (gR_bd s) (gR_no s) (gR_fu s) v7.2 (gR_tri s) (gR_s0 s) (gR_s1 s) (gR_s2 s) (gR_s3 s) (gR_s4 s) (gR_txt s))))) else (some (.inl ((x2 + (nI 1)), (x3 + (nI 1)), (mkR (gR_sc s) (gR_ns s) (gR_bd s) (gR_no s) (gR_fu s) v7.2 (gR_tri s) (gR_s0 s) (gR_s1 s) (gR_s2 s) (gR_s3 s) (gR_s4 s) (gR_txt s)))))))
set_option maxRecDepth 100000 in
theorem H_X2_does_33 {d : Nat} {x2 : Int32} {x3 : Int32} {s : RouS} {q : (Int32 × Int32 × RouS) ⊕ (Int32 × RouS)} {r0 : Option Value} {mu0 : MMe} (h : B_X2_does_33 x2 x3 s = some q) (hk : Sum.elim (fun x : Int32 × Int32 × RouS => mEv (d + 6) m_X2_does none (33, [], [some (.ref 0), none, some (.int x.1), some (.int x.2.1)], [], memR x.2.2) r0 mu0) (fun z : Int32 × RouS => mEv (d + 6) m_X2_does none (73, [], [none, none, some (.int z.1), none], [], memR z.2) r0 mu0) q) : mEv (d + 6) m_X2_does none (33, [], [some (.ref 0), none, some (.int x2), some (.int x3)], [], memR s) r0 mu0 := by
  unfold B_X2_does_33 at h
  refine mEv.br 6 (S1 := (73, [], [some (.ref 0), none, some (.int x2), some (.int x3)], [], memR s)) (S2 := (44, _, [some (.ref 0), none, some (.int x2), some (.int x3)], [], memR s)) rfl (fun c6 => ?_) (fun c6 => ?_)
  · have h := (if_pos c6).symm.trans h
    refine mEv.fg [0, 3] (z' := [none, none, some (.int x2), none]) rfl ?_
    obtain rfl := Option.some.inj h
    exact hk
  · have h := (if_neg c6).symm.trans h
    refine mEv.stp 8 (S' := (58, _, [some (.ref 0), none, some (.int x2), some (.int x3)], [.int (x3 * (nI 4)), .ref 67, .ref 1], memR s)) rfl ?_
    obtain ⟨v7, e8, h⟩ := bnd h
    refine mEv.callV (As := [.ref 67, .int (x3 * (nI 4))]) (st := []) (h := 1) (r := (some (.int v7.1))) (μ1 := memRx (gR_sc s) (gR_ns s) (gR_bd s) (gR_no s) (gR_fu s) v7.2 (gR_tri s) (gR_s0 s) (gR_s1 s) (gR_s2 s) (gR_s3 s) (gR_s4 s) (gR_txt s)) lk_X2_151 rfl rfl rfl rfl rfl (lf_NO1_67 (as := [.ref 0, .ref 9, .int (x3 * (nI 4))]) (r := (some (.int v7.1))) (A_X0_doOrder (d := d + 0) e8)) ?_
    refine mEv.stp 0 (S' := (61, _, [some (.ref 0), none, some (.int x2), some (.int x3)], [.int v7.1], memRx (gR_sc s) (gR_ns s) (gR_bd s) (gR_no s) (gR_fu s) v7.2 (gR_tri s) (gR_s0 s) (gR_s1 s) (gR_s2 s) (gR_s3 s) (gR_s4 s) (gR_txt s))) rfl ?_
    refine mEv.br 1 (S1 := (67, [], [some (.ref 0), none, some (.int x2), some (.int x3)], [], memRx (gR_sc s) (gR_ns s) (gR_bd s) (gR_no s) (gR_fu s) v7.2 (gR_tri s) (gR_s0 s) (gR_s1 s) (gR_s2 s) (gR_s3 s) (gR_s4 s) (gR_txt s))) (S2 := (64, _, [some (.ref 0), none, some (.int x2), some (.int x3)], [], memRx (gR_sc s) (gR_ns s) (gR_bd s) (gR_no s) (gR_fu s) v7.2 (gR_tri s) (gR_s0 s) (gR_s1 s) (gR_s2 s) (gR_s3 s) (gR_s4 s) (gR_txt s))) rfl (fun c9 => ?_) (fun c9 => ?_)
    · have h := (if_pos c9).symm.trans h
      refine mEv.stp 3 (S' := (33, [], [some (.ref 0), none, some (.int x2), some (.int (x3 + (nI 1)))], [], memRx (gR_sc s) (gR_ns s) (gR_bd s) (gR_no s) (gR_fu s) v7.2 (gR_tri s) (gR_s0 s) (gR_s1 s) (gR_s2 s) (gR_s3 s) (gR_s4 s) (gR_txt s))) rfl ?_
      refine mEv.mem memR_mk ?_
      obtain rfl := Option.some.inj h
      exact hk
    · have h := (if_neg c9).symm.trans h
      refine mEv.stp 4 (S' := (33, [], [some (.ref 0), none, some (.int (x2 + (nI 1))), some (.int (x3 + (nI 1)))], [], memRx (gR_sc s) (gR_ns s) (gR_bd s) (gR_no s) (gR_fu s) v7.2 (gR_tri s) (gR_s0 s) (gR_s1 s) (gR_s2 s) (gR_s3 s) (gR_s4 s) (gR_txt s))) rfl ?_
      refine mEv.mem memR_mk ?_
      obtain rfl := Option.some.inj h
      exact hk
def F_X2_does  (s : RouS) : Option (Int32 × RouS) := (F_X1_read (gN_tc (gR_now s)) (gR_txt s)).bind (fun v1 => if v1.1 = (-nI 1) then ((F_X2_keepState (mkR (gR_sc s) (gR_ns s) (gR_bd s) (gR_no s) (gR_fu s) (gR_now s) (gR_tri s) (gR_s0 s) (gR_s1 s) (gR_s2 s) (gR_s3 s) (gR_s4 s) v1.2)).bind (fun v4 => (mWh (fun x => B_X2_does_33 x.1 x.2.1 x.2.2) fuel0 ((nI 0), (nI 0), v4)).bind (fun z10 => some ((z10.1, z10.2))))) else (some ((((-nI 10) - v1.1), (mkR (gR_sc s) (gR_ns s) (gR_bd s) (gR_no s) (gR_fu s) (gR_now s) (gR_tri s) (gR_s0 s) (gR_s1 s) (gR_s2 s) (gR_s3 s) (gR_s4 s) v1.2)))))
set_option maxRecDepth 100000 in
theorem E_X2_does {d : Nat}  {s : RouS} {q : Int32 × RouS} (h : F_X2_does s = some q) : mEv (d + 6) m_X2_does none (0, [], [some (.ref 0), none, none, none], [], memR s) (some (Value.int q.1)) (memR q.2) := by
  unfold F_X2_does at h
  refine mEv.stp 6 (S' := (11, _, [some (.ref 0), none, none, none], [.int (gN_tc (gR_now s)), .ref 65], memR s)) rfl ?_
  obtain ⟨v1, e2, h⟩ := bnd h
  refine mEv.callV (As := [.int (gN_tc (gR_now s))]) (st := []) (h := 65) (r := (some (.int v1.1))) (μ1 := memRx (gR_sc s) (gR_ns s) (gR_bd s) (gR_no s) (gR_fu s) (gR_now s) (gR_tri s) (gR_s0 s) (gR_s1 s) (gR_s2 s) (gR_s3 s) (gR_s4 s) v1.2) lk_X2_142 rfl rfl rfl rfl rfl (lf_T65 (as := [.ref 0, .int (gN_tc (gR_now s))]) (r := (some (.int v1.1))) (A_X1_read (d := d + 1) e2)) ?_
  refine mEv.stp 0 (S' := (14, _, [some (.ref 0), none, none, none], [.int v1.1], memRx (gR_sc s) (gR_ns s) (gR_bd s) (gR_no s) (gR_fu s) (gR_now s) (gR_tri s) (gR_s0 s) (gR_s1 s) (gR_s2 s) (gR_s3 s) (gR_s4 s) v1.2)) rfl ?_
  refine mEv.br 4 (S1 := (25, [], [some (.ref 0), some (.int v1.1), none, none], [], memRx (gR_sc s) (gR_ns s) (gR_bd s) (gR_no s) (gR_fu s) (gR_now s) (gR_tri s) (gR_s0 s) (gR_s1 s) (gR_s2 s) (gR_s3 s) (gR_s4 s) v1.2)) (S2 := (20, _, [some (.ref 0), some (.int v1.1), none, none], [], memRx (gR_sc s) (gR_ns s) (gR_bd s) (gR_no s) (gR_fu s) (gR_now s) (gR_tri s) (gR_s0 s) (gR_s1 s) (gR_s2 s) (gR_s3 s) (gR_s4 s) v1.2)) rfl (fun c3 => ?_) (fun c3 => ?_)
  · have h := (if_pos c3).symm.trans h
    refine mEv.stp 2 (S' := (26, _, [some (.ref 0), some (.int v1.1), none, none], [.ref 0], memRx (gR_sc s) (gR_ns s) (gR_bd s) (gR_no s) (gR_fu s) (gR_now s) (gR_tri s) (gR_s0 s) (gR_s1 s) (gR_s2 s) (gR_s3 s) (gR_s4 s) v1.2)) rfl ?_
    obtain ⟨v4, e5, h⟩ := bnd h
    refine mEv.callV (As := []) (st := []) (h := 0) (r := none) (μ1 := memR v4) lk_X2_38 rfl rfl rfl rfl rfl (mCall.cast memR_mk (A_X2_keepState (d := d + 3) e5)) ?_
    refine mEv.stp 0 (S' := (29, _, [some (.ref 0), some (.int v1.1), none, none], [], memR v4)) rfl ?_
    refine mEv.stp 4 (S' := (33, [], [some (.ref 0), some (.int v1.1), some (.int (nI 0)), some (.int (nI 0))], [], memR v4)) rfl ?_
    refine mEv.fg [1] (z' := [some (.ref 0), none, some (.int (nI 0)), some (.int (nI 0))]) rfl ?_
    obtain ⟨z10, e11, h⟩ := bnd h
    refine mWh_ind (b := (fun x => B_X2_does_33 x.1 x.2.1 x.2.2)) (P := fun x : Int32 × Int32 × RouS => mEv (d + 6) m_X2_does none (33, [], [some (.ref 0), none, some (.int x.1), some (.int x.2.1)], [], memR x.2.2) (some (Value.int q.1)) (memR q.2)) (K := fun z : Int32 × RouS => mEv (d + 6) m_X2_does none (73, [], [none, none, some (.int z.1), none], [], memR z.2) (some (Value.int q.1)) (memR q.2)) (fun x u hq hk => H_X2_does_33 (d := d) (x2 := x.1) (x3 := x.2.1) (s := x.2.2) (q := u) (r0 := (some (Value.int q.1))) (mu0 := (memR q.2)) hq hk) fuel0 ((nI 0), (nI 0), v4) z10 e11 ?_
    refine mEv.stp 0 (S' := (73, [], [none, none, some (.int z10.1), none], [], memR z10.2)) rfl ?_
    obtain rfl := Option.some.inj h
    exact mEv.stp 2 (S' := (74, _, [none, none, some (.int z10.1), none], [.int z10.1], memR z10.2)) rfl (mEv.reti ⟨_, rfl, rfl⟩)
  · have h := (if_neg c3).symm.trans h
    obtain rfl := Option.some.inj h
    exact mEv.tgt memR_mk (mEv.stp 3 (S' := (24, _, [some (.ref 0), some (.int v1.1), none, none], [.int ((-nI 10) - v1.1)], memRx (gR_sc s) (gR_ns s) (gR_bd s) (gR_no s) (gR_fu s) (gR_now s) (gR_tri s) (gR_s0 s) (gR_s1 s) (gR_s2 s) (gR_s3 s) (gR_s4 s) v1.2)) rfl (mEv.reti ⟨_, rfl, rfl⟩))
theorem A_X2_does {d : Nat}  {s : RouS} {q : Int32 × RouS} (h : F_X2_does s = some q) : mCall (d + 6) m_X2_does [.ref 0] (memR s) (some (Value.int q.1)) (memR q.2) := mCall.intro ok_X2_does pl_X2_does rfl (E_X2_does (d := d) h)
def F_X2_undo  (s : RouS) : Option (Int32 × RouS) := if ¬ (gR_sc s) = (nI 0) then (gZ (nI 5) (gI ((((gR_ns s) + (nI 5)) - (nI 1)) - (((gR_ns s) + (nI 5)) - (nI 1)) / (nI 5) * (nI 5)) 5 (if ((((gR_ns s) + (nI 5)) - (nI 1)) - (((gR_ns s) + (nI 5)) - (nI 1)) / (nI 5) * (nI 5)) = (nI 0) then ((F_X0_copyFrom (gR_s0 s) (gR_now s)).bind (fun v5 => some ((((gR_sc s) - (nI 1)), (mkR ((gR_sc s) - (nI 1)) ((((gR_ns s) + (nI 5)) - (nI 1)) - (((gR_ns s) + (nI 5)) - (nI 1)) / (nI 5) * (nI 5)) (gR_bd s) (gR_no s) (gR_fu s) v5 (gR_tri s) (gR_s0 s) (gR_s1 s) (gR_s2 s) (gR_s3 s) (gR_s4 s) (gR_txt s)))))) else (if ((((gR_ns s) + (nI 5)) - (nI 1)) - (((gR_ns s) + (nI 5)) - (nI 1)) / (nI 5) * (nI 5)) = (nI 1) then ((F_X0_copyFrom (gR_s1 s) (gR_now s)).bind (fun v8 => some ((((gR_sc s) - (nI 1)), (mkR ((gR_sc s) - (nI 1)) ((((gR_ns s) + (nI 5)) - (nI 1)) - (((gR_ns s) + (nI 5)) - (nI 1)) / (nI 5) * (nI 5)) (gR_bd s) (gR_no s) (gR_fu s) v8 (gR_tri s) (gR_s0 s) (gR_s1 s) (gR_s2 s) (gR_s3 s) (gR_s4 s) (gR_txt s)))))) else (if ((((gR_ns s) + (nI 5)) - (nI 1)) - (((gR_ns s) + (nI 5)) - (nI 1)) / (nI 5) * (nI 5)) = (nI 2) then ((F_X0_copyFrom (gR_s2 s) (gR_now s)).bind (fun v11 => some ((((gR_sc s) - (nI 1)), (mkR ((gR_sc s) - (nI 1)) ((((gR_ns s) + (nI 5)) - (nI 1)) - (((gR_ns s) + (nI 5)) - (nI 1)) / (nI 5) * (nI 5)) (gR_bd s) (gR_no s) (gR_fu s) v11 (gR_tri s) (gR_s0 s) (gR_s1 s) (gR_s2 s) (gR_s3 s) (gR_s4 s) (gR_txt s)))))) else (if ((((gR_ns s) + (nI 5)) - (nI 1)) - (((gR_ns s) + (nI 5)) - (nI 1)) / (nI 5) * (nI 5)) = (nI 3) then ((F_X0_copyFrom (gR_s3 s) (gR_now s)).bind (fun v14 => some ((((gR_sc s) - (nI 1)), (mkR ((gR_sc s) - (nI 1)) ((((gR_ns s) + (nI 5)) - (nI 1)) - (((gR_ns s) + (nI 5)) - (nI 1)) / (nI 5) * (nI 5)) (gR_bd s) (gR_no s) (gR_fu s) v14 (gR_tri s) (gR_s0 s) (gR_s1 s) (gR_s2 s) (gR_s3 s) (gR_s4 s) (gR_txt s)))))) else (if ((((gR_ns s) + (nI 5)) - (nI 1)) - (((gR_ns s) + (nI 5)) - (nI 1)) / (nI 5) * (nI 5)) = (nI 4) then ((F_X0_copyFrom (gR_s4 s) (gR_now s)).bind (fun v17 => some ((((gR_sc s) - (nI 1)), (mkR ((gR_sc s) - (nI 1)) ((((gR_ns s) + (nI 5)) - (nI 1)) - (((gR_ns s) + (nI 5)) - (nI 1)) / (nI 5) * (nI 5)) (gR_bd s) (gR_no s) (gR_fu s) v17 (gR_tri s) (gR_s0 s) (gR_s1 s) (gR_s2 s) (gR_s3 s) (gR_s4 s) (gR_txt s)))))) else (none)))))))) else ((F_X2_refuse (-nI 3) s).bind (fun v19 => some ((v19.1, v19.2))))
set_option maxRecDepth 100000 in
theorem E_X2_undo {d : Nat}  {s : RouS} {q : Int32 × RouS} (h : F_X2_undo s = some q) : mEv (d + 2) m_X2_undo none (0, [], [some (.ref 0)], [], memR s) (some (Value.int q.1)) (memR q.2) := by
  unfold F_X2_undo at h
  refine mEv.br 4 (S1 := (14, [], [some (.ref 0)], [], memR s)) (S2 := (7, _, [some (.ref 0)], [], memR s)) rfl (fun c1 => ?_) (fun c1 => ?_)
  · have h := (if_pos c1).symm.trans h
    obtain ⟨g2, h⟩ := gZ_some h
    refine mEv.gd 16 (S' := (35, _, [some (.ref 0)], [.int ((((gR_ns s) + (nI 5)) - (nI 1)) - (((gR_ns s) + (nI 5)) - (nI 1)) / (nI 5) * (nI 5)), .ref 0], memRx ((gR_sc s) - (nI 1)) (gR_ns s) (gR_bd s) (gR_no s) (gR_fu s) (gR_now s) (gR_tri s) (gR_s0 s) (gR_s1 s) (gR_s2 s) (gR_s3 s) (gR_s4 s) (gR_txt s))) rfl g2 ?_
    obtain ⟨g3, h⟩ := gI_some h
    refine mEv.gd 8 (S' := (51, _, [some (.ref 0)], [(va_rf (m_sts (Int32.toNatClampNeg ((((gR_ns s) + (nI 5)) - (nI 1)) - (((gR_ns s) + (nI 5)) - (nI 1)) / (nI 5) * (nI 5))))), .ref 1], memRx ((gR_sc s) - (nI 1)) ((((gR_ns s) + (nI 5)) - (nI 1)) - (((gR_ns s) + (nI 5)) - (nI 1)) / (nI 5) * (nI 5)) (gR_bd s) (gR_no s) (gR_fu s) (gR_now s) (gR_tri s) (gR_s0 s) (gR_s1 s) (gR_s2 s) (gR_s3 s) (gR_s4 s) (gR_txt s))) rfl g3 ?_
    by_cases c4 : ((((gR_ns s) + (nI 5)) - (nI 1)) - (((gR_ns s) + (nI 5)) - (nI 1)) / (nI 5) * (nI 5)) = (nI 0)
    · have h := (if_pos c4).symm.trans h
      rw [show (va_rf (m_sts (Int32.toNatClampNeg ((((gR_ns s) + (nI 5)) - (nI 1)) - (((gR_ns s) + (nI 5)) - (nI 1)) / (nI 5) * (nI 5))))) = Value.ref 20 from by rw [c4]; rfl]
      refine mEv.stp 0 (S' := (51, _, [some (.ref 0)], [.ref 20, .ref 1], memRx ((gR_sc s) - (nI 1)) ((((gR_ns s) + (nI 5)) - (nI 1)) - (((gR_ns s) + (nI 5)) - (nI 1)) / (nI 5) * (nI 5)) (gR_bd s) (gR_no s) (gR_fu s) (gR_now s) (gR_tri s) (gR_s0 s) (gR_s1 s) (gR_s2 s) (gR_s3 s) (gR_s4 s) (gR_txt s))) rfl ?_
      obtain ⟨v5, e6, h⟩ := bnd h
      refine mEv.callV (As := [.ref 20]) (st := []) (h := 1) (r := none) (μ1 := memRx ((gR_sc s) - (nI 1)) ((((gR_ns s) + (nI 5)) - (nI 1)) - (((gR_ns s) + (nI 5)) - (nI 1)) / (nI 5) * (nI 5)) (gR_bd s) (gR_no s) (gR_fu s) v5 (gR_tri s) (gR_s0 s) (gR_s1 s) (gR_s2 s) (gR_s3 s) (gR_s4 s) (gR_txt s)) lk_X2_161 rfl rfl rfl rfl rfl (lf_NN1_20 (as := [.ref 0, .ref 9]) (r := none) (A_X0_copyFrom (d := d + 0) e6)) ?_
      refine mEv.stp 0 (S' := (54, _, [some (.ref 0)], [], memRx ((gR_sc s) - (nI 1)) ((((gR_ns s) + (nI 5)) - (nI 1)) - (((gR_ns s) + (nI 5)) - (nI 1)) / (nI 5) * (nI 5)) (gR_bd s) (gR_no s) (gR_fu s) v5 (gR_tri s) (gR_s0 s) (gR_s1 s) (gR_s2 s) (gR_s3 s) (gR_s4 s) (gR_txt s))) rfl ?_
      obtain rfl := Option.some.inj h
      exact mEv.tgt memR_mk (mEv.stp 2 (S' := (58, _, [some (.ref 0)], [.int ((gR_sc s) - (nI 1))], memRx ((gR_sc s) - (nI 1)) ((((gR_ns s) + (nI 5)) - (nI 1)) - (((gR_ns s) + (nI 5)) - (nI 1)) / (nI 5) * (nI 5)) (gR_bd s) (gR_no s) (gR_fu s) v5 (gR_tri s) (gR_s0 s) (gR_s1 s) (gR_s2 s) (gR_s3 s) (gR_s4 s) (gR_txt s))) rfl (mEv.reti ⟨_, rfl, rfl⟩))
    · have h := (if_neg c4).symm.trans h
      by_cases c7 : ((((gR_ns s) + (nI 5)) - (nI 1)) - (((gR_ns s) + (nI 5)) - (nI 1)) / (nI 5) * (nI 5)) = (nI 1)
      · have h := (if_pos c7).symm.trans h
        rw [show (va_rf (m_sts (Int32.toNatClampNeg ((((gR_ns s) + (nI 5)) - (nI 1)) - (((gR_ns s) + (nI 5)) - (nI 1)) / (nI 5) * (nI 5))))) = Value.ref 29 from by rw [c7]; rfl]
        refine mEv.stp 0 (S' := (51, _, [some (.ref 0)], [.ref 29, .ref 1], memRx ((gR_sc s) - (nI 1)) ((((gR_ns s) + (nI 5)) - (nI 1)) - (((gR_ns s) + (nI 5)) - (nI 1)) / (nI 5) * (nI 5)) (gR_bd s) (gR_no s) (gR_fu s) (gR_now s) (gR_tri s) (gR_s0 s) (gR_s1 s) (gR_s2 s) (gR_s3 s) (gR_s4 s) (gR_txt s))) rfl ?_
        obtain ⟨v8, e9, h⟩ := bnd h
        refine mEv.callV (As := [.ref 29]) (st := []) (h := 1) (r := none) (μ1 := memRx ((gR_sc s) - (nI 1)) ((((gR_ns s) + (nI 5)) - (nI 1)) - (((gR_ns s) + (nI 5)) - (nI 1)) / (nI 5) * (nI 5)) (gR_bd s) (gR_no s) (gR_fu s) v8 (gR_tri s) (gR_s0 s) (gR_s1 s) (gR_s2 s) (gR_s3 s) (gR_s4 s) (gR_txt s)) lk_X2_161 rfl rfl rfl rfl rfl (lf_NN1_29 (as := [.ref 0, .ref 9]) (r := none) (A_X0_copyFrom (d := d + 0) e9)) ?_
        refine mEv.stp 0 (S' := (54, _, [some (.ref 0)], [], memRx ((gR_sc s) - (nI 1)) ((((gR_ns s) + (nI 5)) - (nI 1)) - (((gR_ns s) + (nI 5)) - (nI 1)) / (nI 5) * (nI 5)) (gR_bd s) (gR_no s) (gR_fu s) v8 (gR_tri s) (gR_s0 s) (gR_s1 s) (gR_s2 s) (gR_s3 s) (gR_s4 s) (gR_txt s))) rfl ?_
        obtain rfl := Option.some.inj h
        exact mEv.tgt memR_mk (mEv.stp 2 (S' := (58, _, [some (.ref 0)], [.int ((gR_sc s) - (nI 1))], memRx ((gR_sc s) - (nI 1)) ((((gR_ns s) + (nI 5)) - (nI 1)) - (((gR_ns s) + (nI 5)) - (nI 1)) / (nI 5) * (nI 5)) (gR_bd s) (gR_no s) (gR_fu s) v8 (gR_tri s) (gR_s0 s) (gR_s1 s) (gR_s2 s) (gR_s3 s) (gR_s4 s) (gR_txt s))) rfl (mEv.reti ⟨_, rfl, rfl⟩))
      · have h := (if_neg c7).symm.trans h
        by_cases c10 : ((((gR_ns s) + (nI 5)) - (nI 1)) - (((gR_ns s) + (nI 5)) - (nI 1)) / (nI 5) * (nI 5)) = (nI 2)
        · have h := (if_pos c10).symm.trans h
          rw [show (va_rf (m_sts (Int32.toNatClampNeg ((((gR_ns s) + (nI 5)) - (nI 1)) - (((gR_ns s) + (nI 5)) - (nI 1)) / (nI 5) * (nI 5))))) = Value.ref 38 from by rw [c10]; rfl]
          refine mEv.stp 0 (S' := (51, _, [some (.ref 0)], [.ref 38, .ref 1], memRx ((gR_sc s) - (nI 1)) ((((gR_ns s) + (nI 5)) - (nI 1)) - (((gR_ns s) + (nI 5)) - (nI 1)) / (nI 5) * (nI 5)) (gR_bd s) (gR_no s) (gR_fu s) (gR_now s) (gR_tri s) (gR_s0 s) (gR_s1 s) (gR_s2 s) (gR_s3 s) (gR_s4 s) (gR_txt s))) rfl ?_
          obtain ⟨v11, e12, h⟩ := bnd h
          refine mEv.callV (As := [.ref 38]) (st := []) (h := 1) (r := none) (μ1 := memRx ((gR_sc s) - (nI 1)) ((((gR_ns s) + (nI 5)) - (nI 1)) - (((gR_ns s) + (nI 5)) - (nI 1)) / (nI 5) * (nI 5)) (gR_bd s) (gR_no s) (gR_fu s) v11 (gR_tri s) (gR_s0 s) (gR_s1 s) (gR_s2 s) (gR_s3 s) (gR_s4 s) (gR_txt s)) lk_X2_161 rfl rfl rfl rfl rfl (lf_NN1_38 (as := [.ref 0, .ref 9]) (r := none) (A_X0_copyFrom (d := d + 0) e12)) ?_
          refine mEv.stp 0 (S' := (54, _, [some (.ref 0)], [], memRx ((gR_sc s) - (nI 1)) ((((gR_ns s) + (nI 5)) - (nI 1)) - (((gR_ns s) + (nI 5)) - (nI 1)) / (nI 5) * (nI 5)) (gR_bd s) (gR_no s) (gR_fu s) v11 (gR_tri s) (gR_s0 s) (gR_s1 s) (gR_s2 s) (gR_s3 s) (gR_s4 s) (gR_txt s))) rfl ?_
          obtain rfl := Option.some.inj h
          exact mEv.tgt memR_mk (mEv.stp 2 (S' := (58, _, [some (.ref 0)], [.int ((gR_sc s) - (nI 1))], memRx ((gR_sc s) - (nI 1)) ((((gR_ns s) + (nI 5)) - (nI 1)) - (((gR_ns s) + (nI 5)) - (nI 1)) / (nI 5) * (nI 5)) (gR_bd s) (gR_no s) (gR_fu s) v11 (gR_tri s) (gR_s0 s) (gR_s1 s) (gR_s2 s) (gR_s3 s) (gR_s4 s) (gR_txt s))) rfl (mEv.reti ⟨_, rfl, rfl⟩))
        · have h := (if_neg c10).symm.trans h
          by_cases c13 : ((((gR_ns s) + (nI 5)) - (nI 1)) - (((gR_ns s) + (nI 5)) - (nI 1)) / (nI 5) * (nI 5)) = (nI 3)
          · have h := (if_pos c13).symm.trans h
            rw [show (va_rf (m_sts (Int32.toNatClampNeg ((((gR_ns s) + (nI 5)) - (nI 1)) - (((gR_ns s) + (nI 5)) - (nI 1)) / (nI 5) * (nI 5))))) = Value.ref 47 from by rw [c13]; rfl]
            refine mEv.stp 0 (S' := (51, _, [some (.ref 0)], [.ref 47, .ref 1], memRx ((gR_sc s) - (nI 1)) ((((gR_ns s) + (nI 5)) - (nI 1)) - (((gR_ns s) + (nI 5)) - (nI 1)) / (nI 5) * (nI 5)) (gR_bd s) (gR_no s) (gR_fu s) (gR_now s) (gR_tri s) (gR_s0 s) (gR_s1 s) (gR_s2 s) (gR_s3 s) (gR_s4 s) (gR_txt s))) rfl ?_
            obtain ⟨v14, e15, h⟩ := bnd h
            refine mEv.callV (As := [.ref 47]) (st := []) (h := 1) (r := none) (μ1 := memRx ((gR_sc s) - (nI 1)) ((((gR_ns s) + (nI 5)) - (nI 1)) - (((gR_ns s) + (nI 5)) - (nI 1)) / (nI 5) * (nI 5)) (gR_bd s) (gR_no s) (gR_fu s) v14 (gR_tri s) (gR_s0 s) (gR_s1 s) (gR_s2 s) (gR_s3 s) (gR_s4 s) (gR_txt s)) lk_X2_161 rfl rfl rfl rfl rfl (lf_NN1_47 (as := [.ref 0, .ref 9]) (r := none) (A_X0_copyFrom (d := d + 0) e15)) ?_
            refine mEv.stp 0 (S' := (54, _, [some (.ref 0)], [], memRx ((gR_sc s) - (nI 1)) ((((gR_ns s) + (nI 5)) - (nI 1)) - (((gR_ns s) + (nI 5)) - (nI 1)) / (nI 5) * (nI 5)) (gR_bd s) (gR_no s) (gR_fu s) v14 (gR_tri s) (gR_s0 s) (gR_s1 s) (gR_s2 s) (gR_s3 s) (gR_s4 s) (gR_txt s))) rfl ?_
            obtain rfl := Option.some.inj h
            exact mEv.tgt memR_mk (mEv.stp 2 (S' := (58, _, [some (.ref 0)], [.int ((gR_sc s) - (nI 1))], memRx ((gR_sc s) - (nI 1)) ((((gR_ns s) + (nI 5)) - (nI 1)) - (((gR_ns s) + (nI 5)) - (nI 1)) / (nI 5) * (nI 5)) (gR_bd s) (gR_no s) (gR_fu s) v14 (gR_tri s) (gR_s0 s) (gR_s1 s) (gR_s2 s) (gR_s3 s) (gR_s4 s) (gR_txt s))) rfl (mEv.reti ⟨_, rfl, rfl⟩))
          · have h := (if_neg c13).symm.trans h
            by_cases c16 : ((((gR_ns s) + (nI 5)) - (nI 1)) - (((gR_ns s) + (nI 5)) - (nI 1)) / (nI 5) * (nI 5)) = (nI 4)
            · have h := (if_pos c16).symm.trans h
              rw [show (va_rf (m_sts (Int32.toNatClampNeg ((((gR_ns s) + (nI 5)) - (nI 1)) - (((gR_ns s) + (nI 5)) - (nI 1)) / (nI 5) * (nI 5))))) = Value.ref 56 from by rw [c16]; rfl]
              refine mEv.stp 0 (S' := (51, _, [some (.ref 0)], [.ref 56, .ref 1], memRx ((gR_sc s) - (nI 1)) ((((gR_ns s) + (nI 5)) - (nI 1)) - (((gR_ns s) + (nI 5)) - (nI 1)) / (nI 5) * (nI 5)) (gR_bd s) (gR_no s) (gR_fu s) (gR_now s) (gR_tri s) (gR_s0 s) (gR_s1 s) (gR_s2 s) (gR_s3 s) (gR_s4 s) (gR_txt s))) rfl ?_
              obtain ⟨v17, e18, h⟩ := bnd h
              refine mEv.callV (As := [.ref 56]) (st := []) (h := 1) (r := none) (μ1 := memRx ((gR_sc s) - (nI 1)) ((((gR_ns s) + (nI 5)) - (nI 1)) - (((gR_ns s) + (nI 5)) - (nI 1)) / (nI 5) * (nI 5)) (gR_bd s) (gR_no s) (gR_fu s) v17 (gR_tri s) (gR_s0 s) (gR_s1 s) (gR_s2 s) (gR_s3 s) (gR_s4 s) (gR_txt s)) lk_X2_161 rfl rfl rfl rfl rfl (lf_NN1_56 (as := [.ref 0, .ref 9]) (r := none) (A_X0_copyFrom (d := d + 0) e18)) ?_
              refine mEv.stp 0 (S' := (54, _, [some (.ref 0)], [], memRx ((gR_sc s) - (nI 1)) ((((gR_ns s) + (nI 5)) - (nI 1)) - (((gR_ns s) + (nI 5)) - (nI 1)) / (nI 5) * (nI 5)) (gR_bd s) (gR_no s) (gR_fu s) v17 (gR_tri s) (gR_s0 s) (gR_s1 s) (gR_s2 s) (gR_s3 s) (gR_s4 s) (gR_txt s))) rfl ?_
              obtain rfl := Option.some.inj h
              exact mEv.tgt memR_mk (mEv.stp 2 (S' := (58, _, [some (.ref 0)], [.int ((gR_sc s) - (nI 1))], memRx ((gR_sc s) - (nI 1)) ((((gR_ns s) + (nI 5)) - (nI 1)) - (((gR_ns s) + (nI 5)) - (nI 1)) / (nI 5) * (nI 5)) (gR_bd s) (gR_no s) (gR_fu s) v17 (gR_tri s) (gR_s0 s) (gR_s1 s) (gR_s2 s) (gR_s3 s) (gR_s4 s) (gR_txt s))) rfl (mEv.reti ⟨_, rfl, rfl⟩))
            · have h := (if_neg c16).symm.trans h
              cases h
  · have h := (if_neg c1).symm.trans h
    refine mEv.stp 2 (S' := (10, _, [some (.ref 0)], [.int (-nI 3), .ref 0], memR s)) rfl ?_
    obtain ⟨v19, e20, h⟩ := bnd h
    refine mEv.callV (As := [.int (-nI 3)]) (st := []) (h := 0) (r := (some (.int v19.1))) (μ1 := memR v19.2) lk_X2_34 rfl rfl rfl rfl rfl (A_X2_refuse (d := d + 1) e20) ?_
    refine mEv.stp 0 (S' := (13, _, [some (.ref 0)], [.int v19.1], memR v19.2)) rfl ?_
    obtain rfl := Option.some.inj h
    exact mEv.reti ⟨_, rfl, rfl⟩
theorem A_X2_undo {d : Nat}  {s : RouS} {q : Int32 × RouS} (h : F_X2_undo s = some q) : mCall (d + 2) m_X2_undo [.ref 0] (memR s) (some (Value.int q.1)) (memR q.2) := mCall.intro ok_X2_undo pl_X2_undo rfl (E_X2_undo (d := d) h)
def F_X2_told (p1 : Int32) (s : RouS) : Option (Int32 × RouS) := if p1 = (nI 0) then (some (((gR_bd s), s))) else (if p1 = (nI 1) then (some (((gR_no s), s))) else (if p1 = (nI 2) then (some (((gR_fu s), s))) else (if p1 = (nI 3) then (some (((gT_ln (gR_txt s)), s))) else (if p1 = (nI 4) then (some (((gN_tc (gR_now s)), s))) else (if p1 = (nI 5) then (some (((gN_hb (gR_now s)), s))) else (if p1 = (nI 6) then (some (((gN_cc (gR_now s)), s))) else (if p1 = (nI 7) then (some (((gN_hg (gR_now s)), s))) else (if p1 = (nI 8) then (some (((gN_x (gR_now s)), s))) else (if p1 = (nI 9) then (some (((gR_sc s), s))) else ((F_X2_refuse (-nI 2) s).bind (fun v11 => some ((v11.1, v11.2)))))))))))))
set_option maxRecDepth 100000 in
theorem E_X2_told {d : Nat} {p1 : Int32} {s : RouS} {q : Int32 × RouS} (h : F_X2_told p1 s = some q) : mEv (d + 1) m_X2_told none (0, [], [some (.ref 0), some (.int p1)], [], memR s) (some (Value.int q.1)) (memR q.2) := by
  unfold F_X2_told at h
  refine mEv.stp 3 (S' := (mSw p1 [(nI 0, 56), (nI 1, 61), (nI 2, 66), (nI 3, 71), (nI 4, 79), (nI 5, 87), (nI 6, 95), (nI 7, 103), (nI 8, 111), (nI 9, 119)] 124, [], [some (.ref 0), some (.int p1)], [], memR s)) rfl ?_
  refine mEv.sw (fun c1 => ?_) (fun c1 => ?_)
  · have h := (if_pos c1).symm.trans h
    obtain rfl := Option.some.inj h
    exact mEv.stp 3 (S' := (60, _, [some (.ref 0), some (.int p1)], [.int (gR_bd s)], memR s)) rfl (mEv.reti ⟨_, rfl, rfl⟩)
  · have h := (if_neg c1).symm.trans h
    refine mEv.sw (fun c2 => ?_) (fun c2 => ?_)
    · have h := (if_pos c2).symm.trans h
      obtain rfl := Option.some.inj h
      exact mEv.stp 3 (S' := (65, _, [some (.ref 0), some (.int p1)], [.int (gR_no s)], memR s)) rfl (mEv.reti ⟨_, rfl, rfl⟩)
    · have h := (if_neg c2).symm.trans h
      refine mEv.sw (fun c3 => ?_) (fun c3 => ?_)
      · have h := (if_pos c3).symm.trans h
        obtain rfl := Option.some.inj h
        exact mEv.stp 3 (S' := (70, _, [some (.ref 0), some (.int p1)], [.int (gR_fu s)], memR s)) rfl (mEv.reti ⟨_, rfl, rfl⟩)
      · have h := (if_neg c3).symm.trans h
        refine mEv.sw (fun c4 => ?_) (fun c4 => ?_)
        · have h := (if_pos c4).symm.trans h
          obtain rfl := Option.some.inj h
          exact mEv.stp 4 (S' := (78, _, [some (.ref 0), some (.int p1)], [.int (gT_ln (gR_txt s))], memR s)) rfl (mEv.reti ⟨_, rfl, rfl⟩)
        · have h := (if_neg c4).symm.trans h
          refine mEv.sw (fun c5 => ?_) (fun c5 => ?_)
          · have h := (if_pos c5).symm.trans h
            obtain rfl := Option.some.inj h
            exact mEv.stp 4 (S' := (86, _, [some (.ref 0), some (.int p1)], [.int (gN_tc (gR_now s))], memR s)) rfl (mEv.reti ⟨_, rfl, rfl⟩)
          · have h := (if_neg c5).symm.trans h
            refine mEv.sw (fun c6 => ?_) (fun c6 => ?_)
            · have h := (if_pos c6).symm.trans h
              obtain rfl := Option.some.inj h
              exact mEv.stp 4 (S' := (94, _, [some (.ref 0), some (.int p1)], [.int (gN_hb (gR_now s))], memR s)) rfl (mEv.reti ⟨_, rfl, rfl⟩)
            · have h := (if_neg c6).symm.trans h
              refine mEv.sw (fun c7 => ?_) (fun c7 => ?_)
              · have h := (if_pos c7).symm.trans h
                obtain rfl := Option.some.inj h
                exact mEv.stp 4 (S' := (102, _, [some (.ref 0), some (.int p1)], [.int (gN_cc (gR_now s))], memR s)) rfl (mEv.reti ⟨_, rfl, rfl⟩)
              · have h := (if_neg c7).symm.trans h
                refine mEv.sw (fun c8 => ?_) (fun c8 => ?_)
                · have h := (if_pos c8).symm.trans h
                  obtain rfl := Option.some.inj h
                  exact mEv.stp 4 (S' := (110, _, [some (.ref 0), some (.int p1)], [.int (gN_hg (gR_now s))], memR s)) rfl (mEv.reti ⟨_, rfl, rfl⟩)
                · have h := (if_neg c8).symm.trans h
                  refine mEv.sw (fun c9 => ?_) (fun c9 => ?_)
                  · have h := (if_pos c9).symm.trans h
                    obtain rfl := Option.some.inj h
                    exact mEv.stp 4 (S' := (118, _, [some (.ref 0), some (.int p1)], [.int (gN_x (gR_now s))], memR s)) rfl (mEv.reti ⟨_, rfl, rfl⟩)
                  · have h := (if_neg c9).symm.trans h
                    refine mEv.sw (fun c10 => ?_) (fun c10 => ?_)
                    · have h := (if_pos c10).symm.trans h
                      obtain rfl := Option.some.inj h
                      exact mEv.stp 3 (S' := (123, _, [some (.ref 0), some (.int p1)], [.int (gR_sc s)], memR s)) rfl (mEv.reti ⟨_, rfl, rfl⟩)
                    · have h := (if_neg c10).symm.trans h
                      refine mEv.stp 0 (S' := (124, [], [some (.ref 0), some (.int p1)], [], memR s)) rfl ?_
                      refine mEv.stp 3 (S' := (127, _, [some (.ref 0), some (.int p1)], [.int (-nI 2), .ref 0], memR s)) rfl ?_
                      obtain ⟨v11, e12, h⟩ := bnd h
                      refine mEv.callV (As := [.int (-nI 2)]) (st := []) (h := 0) (r := (some (.int v11.1))) (μ1 := memR v11.2) lk_X2_34 rfl rfl rfl rfl rfl (A_X2_refuse (d := d + 0) e12) ?_
                      refine mEv.stp 0 (S' := (130, _, [some (.ref 0), some (.int p1)], [.int v11.1], memR v11.2)) rfl ?_
                      obtain rfl := Option.some.inj h
                      exact mEv.reti ⟨_, rfl, rfl⟩
theorem A_X2_told {d : Nat} {p1 : Int32} {s : RouS} {q : Int32 × RouS} (h : F_X2_told p1 s = some q) : mCall (d + 1) m_X2_told [.ref 0, .int p1] (memR s) (some (Value.int q.1)) (memR q.2) := mCall.intro ok_X2_told pl_X2_told rfl (E_X2_told (d := d) h)
def B_X2_digest_6 (x1 : Int64) (x3 : Int32) (s : RouS) : Option ((Int64 × Int32 × RouS) ⊕ (Int64 × RouS)) := if (nI 9) < x3 then (some (.inr (x1, s))) else ((F_X2_told x3 s).bind (fun v2 => some (.inl ((((lN 31) * x1) + (Int32.toInt64 v2.1)), (x3 + (nI 1)), v2.2))))
set_option maxRecDepth 100000 in
theorem H_X2_digest_6 {d : Nat} {x1 : Int64} {x3 : Int32} {s : RouS} {q : (Int64 × Int32 × RouS) ⊕ (Int64 × RouS)} {r0 : Option Value} {mu0 : MMe} (h : B_X2_digest_6 x1 x3 s = some q) (hk : Sum.elim (fun x : Int64 × Int32 × RouS => mEv (d + 2) m_X2_digest none (6, [], [some (.ref 0), some (.long x.1), none, some (.int x.2.1)], [], memR x.2.2) r0 mu0) (fun z : Int64 × RouS => mEv (d + 2) m_X2_digest none (31, [], [some (.ref 0), some (.long z.1), none, none], [], memR z.2) r0 mu0) q) : mEv (d + 2) m_X2_digest none (6, [], [some (.ref 0), some (.long x1), none, some (.int x3)], [], memR s) r0 mu0 := by
  unfold B_X2_digest_6 at h
  refine mEv.br 4 (S1 := (31, [], [some (.ref 0), some (.long x1), none, some (.int x3)], [], memR s)) (S2 := (12, _, [some (.ref 0), some (.long x1), none, some (.int x3)], [], memR s)) rfl (fun c1 => ?_) (fun c1 => ?_)
  · have h := (if_pos c1).symm.trans h
    refine mEv.fg [3] (z' := [some (.ref 0), some (.long x1), none, none]) rfl ?_
    obtain rfl := Option.some.inj h
    exact hk
  · have h := (if_neg c1).symm.trans h
    refine mEv.stp 5 (S' := (19, _, [some (.ref 0), some (.long x1), none, some (.int x3)], [.int x3, .ref 0, .long ((lN 31) * x1)], memR s)) rfl ?_
    obtain ⟨v2, e3, h⟩ := bnd h
    refine mEv.callV (As := [.int x3]) (st := [.long ((lN 31) * x1)]) (h := 0) (r := (some (.int v2.1))) (μ1 := memR v2.2) lk_X2_181 rfl rfl rfl rfl rfl (A_X2_told (d := d + 0) e3) ?_
    refine mEv.stp 0 (S' := (22, _, [some (.ref 0), some (.long x1), none, some (.int x3)], [.int v2.1, .long ((lN 31) * x1)], memR v2.2)) rfl ?_
    refine mEv.stp 5 (S' := (6, [], [some (.ref 0), some (.long (((lN 31) * x1) + (Int32.toInt64 v2.1))), none, some (.int (x3 + (nI 1)))], [], memR v2.2)) rfl ?_
    obtain rfl := Option.some.inj h
    exact hk
def F_X2_digest  (s : RouS) : Option (Int64 × RouS) := (mWh (fun x => B_X2_digest_6 x.1 x.2.1 x.2.2) fuel0 ((lN 2129), (nI 0), s)).bind (fun z4 => (F_X0_mixLinks z4.1 (gR_now z4.2)).bind (fun v6 => (F_X0_mixPairs v6 (gR_now z4.2)).bind (fun v8 => (F_X0_mixLoadsAndCalls v8 (gR_now z4.2)).bind (fun v10 => some ((v10, z4.2))))))
set_option maxRecDepth 100000 in
theorem E_X2_digest {d : Nat}  {s : RouS} {q : Int64 × RouS} (h : F_X2_digest s = some q) : mEv (d + 2) m_X2_digest none (0, [], [some (.ref 0), none, none, none], [], memR s) (some (Value.long q.1)) (memR q.2) := by
  unfold F_X2_digest at h
  refine mEv.stp 5 (S' := (6, [], [some (.ref 0), some (.long (lN 2129)), none, some (.int (nI 0))], [], memR s)) rfl ?_
  obtain ⟨z4, e5, h⟩ := bnd h
  refine mWh_ind (b := (fun x => B_X2_digest_6 x.1 x.2.1 x.2.2)) (P := fun x : Int64 × Int32 × RouS => mEv (d + 2) m_X2_digest none (6, [], [some (.ref 0), some (.long x.1), none, some (.int x.2.1)], [], memR x.2.2) (some (Value.long q.1)) (memR q.2)) (K := fun z : Int64 × RouS => mEv (d + 2) m_X2_digest none (31, [], [some (.ref 0), some (.long z.1), none, none], [], memR z.2) (some (Value.long q.1)) (memR q.2)) (fun x u hq hk => H_X2_digest_6 (d := d) (x1 := x.1) (x3 := x.2.1) (s := x.2.2) (q := u) (r0 := (some (Value.long q.1))) (mu0 := (memR q.2)) hq hk) fuel0 ((lN 2129), (nI 0), s) z4 e5 ?_
  refine mEv.stp 0 (S' := (31, [], [some (.ref 0), some (.long z4.1), none, none], [], memR z4.2)) rfl ?_
  refine mEv.stp 4 (S' := (36, _, [some (.ref 0), some (.long z4.1), none, none], [.long z4.1, .ref 1], memR z4.2)) rfl ?_
  obtain ⟨v6, e7, h⟩ := bnd h
  refine mEv.callV (As := [.long z4.1]) (st := []) (h := 1) (r := (some (.long v6))) (μ1 := memR z4.2) lk_X2_184 rfl rfl rfl rfl rfl (lf_N1 (as := [.ref 0, .long z4.1]) (r := (some (.long v6))) (A_X0_mixLinks (d := d + 0) e7)) ?_
  refine mEv.stp 0 (S' := (39, _, [some (.ref 0), some (.long z4.1), none, none], [.long v6], memR z4.2)) rfl ?_
  refine mEv.stp 4 (S' := (45, _, [some (.ref 0), some (.long v6), none, none], [.long v6, .ref 1], memR z4.2)) rfl ?_
  obtain ⟨v8, e9, h⟩ := bnd h
  refine mEv.callV (As := [.long v6]) (st := []) (h := 1) (r := (some (.long v8))) (μ1 := memR z4.2) lk_X2_188 rfl rfl rfl rfl rfl (lf_N1 (as := [.ref 0, .long v6]) (r := (some (.long v8))) (A_X0_mixPairs (d := d + 0) e9)) ?_
  refine mEv.stp 0 (S' := (48, _, [some (.ref 0), some (.long v6), none, none], [.long v8], memR z4.2)) rfl ?_
  refine mEv.stp 4 (S' := (54, _, [some (.ref 0), some (.long v8), none, none], [.long v8, .ref 1], memR z4.2)) rfl ?_
  obtain ⟨v10, e11, h⟩ := bnd h
  refine mEv.callV (As := [.long v8]) (st := []) (h := 1) (r := (some (.long v10))) (μ1 := memR z4.2) lk_X2_191 rfl rfl rfl rfl rfl (lf_N1 (as := [.ref 0, .long v8]) (r := (some (.long v10))) (A_X0_mixLoadsAndCalls (d := d + 1) e11)) ?_
  refine mEv.stp 0 (S' := (57, _, [some (.ref 0), some (.long v8), none, none], [.long v10], memR z4.2)) rfl ?_
  obtain rfl := Option.some.inj h
  exact mEv.retl rfl
theorem A_X2_digest {d : Nat}  {s : RouS} {q : Int64 × RouS} (h : F_X2_digest s = some q) : mCall (d + 2) m_X2_digest [.ref 0] (memR s) (some (Value.long q.1)) (memR q.2) := mCall.intro ok_X2_digest pl_X2_digest rfl (E_X2_digest (d := d) h)
