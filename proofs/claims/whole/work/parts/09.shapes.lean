abbrev NetS : Type := Int32 × Int32 × Int32 × Int32 × Int32 × (Nat → Int32) × (Nat → Int32) × (Nat → Int32) × (Nat → Int32) × (Nat → Int32) × (Nat → Int32) × (Nat → Int32) × (Nat → Int32)
def mkN (a0 : Int32) (a1 : Int32) (a2 : Int32) (a3 : Int32) (a4 : Int32) (a5 : (Nat → Int32)) (a6 : (Nat → Int32)) (a7 : (Nat → Int32)) (a8 : (Nat → Int32)) (a9 : (Nat → Int32)) (a10 : (Nat → Int32)) (a11 : (Nat → Int32)) (a12 : (Nat → Int32)) : NetS := (a0, a1, a2, a3, a4, a5, a6, a7, a8, a9, a10, a11, a12)
def gN_tc (s : NetS) : Int32 := s.1
def sN_tc (s : NetS) (v : Int32) : NetS := (v, s.2)
def gN_hb (s : NetS) : Int32 := s.2.1
def sN_hb (s : NetS) (v : Int32) : NetS := (s.1, v, s.2.2)
def gN_x (s : NetS) : Int32 := s.2.2.1
def sN_x (s : NetS) (v : Int32) : NetS := (s.1, s.2.1, v, s.2.2.2)
def gN_hg (s : NetS) : Int32 := s.2.2.2.1
def sN_hg (s : NetS) (v : Int32) : NetS := (s.1, s.2.1, s.2.2.1, v, s.2.2.2.2)
def gN_cc (s : NetS) : Int32 := s.2.2.2.2.1
def sN_cc (s : NetS) (v : Int32) : NetS := (s.1, s.2.1, s.2.2.1, s.2.2.2.1, v, s.2.2.2.2.2)
def gN_w (s : NetS) : (Nat → Int32) := s.2.2.2.2.2.1
def sN_w (s : NetS) (v : (Nat → Int32)) : NetS := (s.1, s.2.1, s.2.2.1, s.2.2.2.1, s.2.2.2.2.1, v, s.2.2.2.2.2.2)
def gN_r (s : NetS) : (Nat → Int32) := s.2.2.2.2.2.2.1
def sN_r (s : NetS) (v : (Nat → Int32)) : NetS := (s.1, s.2.1, s.2.2.1, s.2.2.2.1, s.2.2.2.2.1, s.2.2.2.2.2.1, v, s.2.2.2.2.2.2.2)
def gN_hd (s : NetS) : (Nat → Int32) := s.2.2.2.2.2.2.2.1
def sN_hd (s : NetS) (v : (Nat → Int32)) : NetS := (s.1, s.2.1, s.2.2.1, s.2.2.2.1, s.2.2.2.2.1, s.2.2.2.2.2.1, s.2.2.2.2.2.2.1, v, s.2.2.2.2.2.2.2.2)
def gN_st (s : NetS) : (Nat → Int32) := s.2.2.2.2.2.2.2.2.1
def sN_st (s : NetS) (v : (Nat → Int32)) : NetS := (s.1, s.2.1, s.2.2.1, s.2.2.2.1, s.2.2.2.2.1, s.2.2.2.2.2.1, s.2.2.2.2.2.2.1, s.2.2.2.2.2.2.2.1, v, s.2.2.2.2.2.2.2.2.2)
def gN_ct (s : NetS) : (Nat → Int32) := s.2.2.2.2.2.2.2.2.2.1
def sN_ct (s : NetS) (v : (Nat → Int32)) : NetS := (s.1, s.2.1, s.2.2.1, s.2.2.2.1, s.2.2.2.2.1, s.2.2.2.2.2.1, s.2.2.2.2.2.2.1, s.2.2.2.2.2.2.2.1, s.2.2.2.2.2.2.2.2.1, v, s.2.2.2.2.2.2.2.2.2.2)
def gN_tt (s : NetS) : (Nat → Int32) := s.2.2.2.2.2.2.2.2.2.2.1
def sN_tt (s : NetS) (v : (Nat → Int32)) : NetS := (s.1, s.2.1, s.2.2.1, s.2.2.2.1, s.2.2.2.2.1, s.2.2.2.2.2.1, s.2.2.2.2.2.2.1, s.2.2.2.2.2.2.2.1, s.2.2.2.2.2.2.2.2.1, s.2.2.2.2.2.2.2.2.2.1, v, s.2.2.2.2.2.2.2.2.2.2.2)
def gN_ld (s : NetS) : (Nat → Int32) := s.2.2.2.2.2.2.2.2.2.2.2.1
def sN_ld (s : NetS) (v : (Nat → Int32)) : NetS := (s.1, s.2.1, s.2.2.1, s.2.2.2.1, s.2.2.2.2.1, s.2.2.2.2.2.1, s.2.2.2.2.2.2.1, s.2.2.2.2.2.2.2.1, s.2.2.2.2.2.2.2.2.1, s.2.2.2.2.2.2.2.2.2.1, s.2.2.2.2.2.2.2.2.2.2.1, v, s.2.2.2.2.2.2.2.2.2.2.2.2)
def gN_ca (s : NetS) : (Nat → Int32) := s.2.2.2.2.2.2.2.2.2.2.2.2
def sN_ca (s : NetS) (v : (Nat → Int32)) : NetS := (s.1, s.2.1, s.2.2.1, s.2.2.2.1, s.2.2.2.2.1, s.2.2.2.2.2.1, s.2.2.2.2.2.2.1, s.2.2.2.2.2.2.2.1, s.2.2.2.2.2.2.2.2.1, s.2.2.2.2.2.2.2.2.2.1, s.2.2.2.2.2.2.2.2.2.2.1, s.2.2.2.2.2.2.2.2.2.2.2.1, v)
abbrev TextS : Type := Int32 × Int32 × Int32 × Int32 × Int32 × (Nat → Int32) × (Nat → Int32)
def mkT (a0 : Int32) (a1 : Int32) (a2 : Int32) (a3 : Int32) (a4 : Int32) (a5 : (Nat → Int32)) (a6 : (Nat → Int32)) : TextS := (a0, a1, a2, a3, a4, a5, a6)
def gT_ln (s : TextS) : Int32 := s.1
def sT_ln (s : TextS) (v : Int32) : TextS := (v, s.2)
def gT_oc (s : TextS) : Int32 := s.2.1
def sT_oc (s : TextS) (v : Int32) : TextS := (s.1, v, s.2.2)
def gT_tn (s : TextS) : Int32 := s.2.2.1
def sT_tn (s : TextS) (v : Int32) : TextS := (s.1, s.2.1, v, s.2.2.2)
def gT_pl (s : TextS) : Int32 := s.2.2.2.1
def sT_pl (s : TextS) (v : Int32) : TextS := (s.1, s.2.1, s.2.2.1, v, s.2.2.2.2)
def gT_ft (s : TextS) : Int32 := s.2.2.2.2.1
def sT_ft (s : TextS) (v : Int32) : TextS := (s.1, s.2.1, s.2.2.1, s.2.2.2.1, v, s.2.2.2.2.2)
def gT_by (s : TextS) : (Nat → Int32) := s.2.2.2.2.2.1
def sT_by (s : TextS) (v : (Nat → Int32)) : TextS := (s.1, s.2.1, s.2.2.1, s.2.2.2.1, s.2.2.2.2.1, v, s.2.2.2.2.2.2)
def gT_od (s : TextS) : (Nat → Int32) := s.2.2.2.2.2.2
def sT_od (s : TextS) (v : (Nat → Int32)) : TextS := (s.1, s.2.1, s.2.2.1, s.2.2.2.1, s.2.2.2.2.1, s.2.2.2.2.2.1, v)
abbrev RouS : Type := Int32 × Int32 × Int32 × Int32 × Int32 × NetS × NetS × NetS × NetS × NetS × NetS × NetS × TextS
def mkR (a0 : Int32) (a1 : Int32) (a2 : Int32) (a3 : Int32) (a4 : Int32) (a5 : NetS) (a6 : NetS) (a7 : NetS) (a8 : NetS) (a9 : NetS) (a10 : NetS) (a11 : NetS) (a12 : TextS) : RouS := (a0, a1, a2, a3, a4, a5, a6, a7, a8, a9, a10, a11, a12)
def gR_sc (s : RouS) : Int32 := s.1
def sR_sc (s : RouS) (v : Int32) : RouS := (v, s.2)
def gR_ns (s : RouS) : Int32 := s.2.1
def sR_ns (s : RouS) (v : Int32) : RouS := (s.1, v, s.2.2)
def gR_bd (s : RouS) : Int32 := s.2.2.1
def sR_bd (s : RouS) (v : Int32) : RouS := (s.1, s.2.1, v, s.2.2.2)
def gR_no (s : RouS) : Int32 := s.2.2.2.1
def sR_no (s : RouS) (v : Int32) : RouS := (s.1, s.2.1, s.2.2.1, v, s.2.2.2.2)
def gR_fu (s : RouS) : Int32 := s.2.2.2.2.1
def sR_fu (s : RouS) (v : Int32) : RouS := (s.1, s.2.1, s.2.2.1, s.2.2.2.1, v, s.2.2.2.2.2)
def gR_now (s : RouS) : NetS := s.2.2.2.2.2.1
def sR_now (s : RouS) (v : NetS) : RouS := (s.1, s.2.1, s.2.2.1, s.2.2.2.1, s.2.2.2.2.1, v, s.2.2.2.2.2.2)
def gR_tri (s : RouS) : NetS := s.2.2.2.2.2.2.1
def sR_tri (s : RouS) (v : NetS) : RouS := (s.1, s.2.1, s.2.2.1, s.2.2.2.1, s.2.2.2.2.1, s.2.2.2.2.2.1, v, s.2.2.2.2.2.2.2)
def gR_s0 (s : RouS) : NetS := s.2.2.2.2.2.2.2.1
def sR_s0 (s : RouS) (v : NetS) : RouS := (s.1, s.2.1, s.2.2.1, s.2.2.2.1, s.2.2.2.2.1, s.2.2.2.2.2.1, s.2.2.2.2.2.2.1, v, s.2.2.2.2.2.2.2.2)
def gR_s1 (s : RouS) : NetS := s.2.2.2.2.2.2.2.2.1
def sR_s1 (s : RouS) (v : NetS) : RouS := (s.1, s.2.1, s.2.2.1, s.2.2.2.1, s.2.2.2.2.1, s.2.2.2.2.2.1, s.2.2.2.2.2.2.1, s.2.2.2.2.2.2.2.1, v, s.2.2.2.2.2.2.2.2.2)
def gR_s2 (s : RouS) : NetS := s.2.2.2.2.2.2.2.2.2.1
def sR_s2 (s : RouS) (v : NetS) : RouS := (s.1, s.2.1, s.2.2.1, s.2.2.2.1, s.2.2.2.2.1, s.2.2.2.2.2.1, s.2.2.2.2.2.2.1, s.2.2.2.2.2.2.2.1, s.2.2.2.2.2.2.2.2.1, v, s.2.2.2.2.2.2.2.2.2.2)
def gR_s3 (s : RouS) : NetS := s.2.2.2.2.2.2.2.2.2.2.1
def sR_s3 (s : RouS) (v : NetS) : RouS := (s.1, s.2.1, s.2.2.1, s.2.2.2.1, s.2.2.2.2.1, s.2.2.2.2.2.1, s.2.2.2.2.2.2.1, s.2.2.2.2.2.2.2.1, s.2.2.2.2.2.2.2.2.1, s.2.2.2.2.2.2.2.2.2.1, v, s.2.2.2.2.2.2.2.2.2.2.2)
def gR_s4 (s : RouS) : NetS := s.2.2.2.2.2.2.2.2.2.2.2.1
def sR_s4 (s : RouS) (v : NetS) : RouS := (s.1, s.2.1, s.2.2.1, s.2.2.2.1, s.2.2.2.2.1, s.2.2.2.2.2.1, s.2.2.2.2.2.2.1, s.2.2.2.2.2.2.2.1, s.2.2.2.2.2.2.2.2.1, s.2.2.2.2.2.2.2.2.2.1, s.2.2.2.2.2.2.2.2.2.2.1, v, s.2.2.2.2.2.2.2.2.2.2.2.2)
def gR_txt (s : RouS) : TextS := s.2.2.2.2.2.2.2.2.2.2.2.2
def sR_txt (s : RouS) (v : TextS) : RouS := (s.1, s.2.1, s.2.2.1, s.2.2.2.1, s.2.2.2.2.1, s.2.2.2.2.2.1, s.2.2.2.2.2.2.1, s.2.2.2.2.2.2.2.1, s.2.2.2.2.2.2.2.2.1, s.2.2.2.2.2.2.2.2.2.1, s.2.2.2.2.2.2.2.2.2.2.1, s.2.2.2.2.2.2.2.2.2.2.2.1, v)
abbrev ModS : Type := Int32 × Int32 × Int32 × Int32 × Int32 × Int32 × Int32 × Int32 × (Nat → Int32) × (Nat → Int32) × (Nat → Int32) × (Nat → Int32) × (Nat → Int32)
def mkM (a0 : Int32) (a1 : Int32) (a2 : Int32) (a3 : Int32) (a4 : Int32) (a5 : Int32) (a6 : Int32) (a7 : Int32) (a8 : (Nat → Int32)) (a9 : (Nat → Int32)) (a10 : (Nat → Int32)) (a11 : (Nat → Int32)) (a12 : (Nat → Int32)) : ModS := (a0, a1, a2, a3, a4, a5, a6, a7, a8, a9, a10, a11, a12)
def gM_ss (s : ModS) : Int32 := s.1
def sM_ss (s : ModS) (v : Int32) : ModS := (v, s.2)
def gM_ty (s : ModS) : Int32 := s.2.1
def sM_ty (s : ModS) (v : Int32) : ModS := (s.1, v, s.2.2)
def gM_at (s : ModS) : Int32 := s.2.2.1
def sM_at (s : ModS) (v : Int32) : ModS := (s.1, s.2.1, v, s.2.2.2)
def gM_ft (s : ModS) : Int32 := s.2.2.2.1
def sM_ft (s : ModS) (v : Int32) : ModS := (s.1, s.2.1, s.2.2.1, v, s.2.2.2.2)
def gM_mn (s : ModS) : Int32 := s.2.2.2.2.1
def sM_mn (s : ModS) (v : Int32) : ModS := (s.1, s.2.1, s.2.2.1, s.2.2.2.1, v, s.2.2.2.2.2)
def gM_bd (s : ModS) : Int32 := s.2.2.2.2.2.1
def sM_bd (s : ModS) (v : Int32) : ModS := (s.1, s.2.1, s.2.2.1, s.2.2.2.1, s.2.2.2.2.1, v, s.2.2.2.2.2.2)
def gM_no (s : ModS) : Int32 := s.2.2.2.2.2.2.1
def sM_no (s : ModS) (v : Int32) : ModS := (s.1, s.2.1, s.2.2.1, s.2.2.2.1, s.2.2.2.2.1, s.2.2.2.2.2.1, v, s.2.2.2.2.2.2.2)
def gM_fu (s : ModS) : Int32 := s.2.2.2.2.2.2.2.1
def sM_fu (s : ModS) (v : Int32) : ModS := (s.1, s.2.1, s.2.2.1, s.2.2.2.1, s.2.2.2.2.1, s.2.2.2.2.2.1, s.2.2.2.2.2.2.1, v, s.2.2.2.2.2.2.2.2)
def gM_nw (s : ModS) : (Nat → Int32) := s.2.2.2.2.2.2.2.2.1
def sM_nw (s : ModS) (v : (Nat → Int32)) : ModS := (s.1, s.2.1, s.2.2.1, s.2.2.2.1, s.2.2.2.2.1, s.2.2.2.2.2.1, s.2.2.2.2.2.2.1, s.2.2.2.2.2.2.2.1, v, s.2.2.2.2.2.2.2.2.2)
def gM_as (s : ModS) : (Nat → Int32) := s.2.2.2.2.2.2.2.2.2.1
def sM_as (s : ModS) (v : (Nat → Int32)) : ModS := (s.1, s.2.1, s.2.2.1, s.2.2.2.1, s.2.2.2.2.1, s.2.2.2.2.2.1, s.2.2.2.2.2.2.1, s.2.2.2.2.2.2.2.1, s.2.2.2.2.2.2.2.2.1, v, s.2.2.2.2.2.2.2.2.2.2)
def gM_pa (s : ModS) : (Nat → Int32) := s.2.2.2.2.2.2.2.2.2.2.1
def sM_pa (s : ModS) (v : (Nat → Int32)) : ModS := (s.1, s.2.1, s.2.2.1, s.2.2.2.1, s.2.2.2.2.1, s.2.2.2.2.2.1, s.2.2.2.2.2.2.1, s.2.2.2.2.2.2.2.1, s.2.2.2.2.2.2.2.2.1, s.2.2.2.2.2.2.2.2.2.1, v, s.2.2.2.2.2.2.2.2.2.2.2)
def gM_tx (s : ModS) : (Nat → Int32) := s.2.2.2.2.2.2.2.2.2.2.2.1
def sM_tx (s : ModS) (v : (Nat → Int32)) : ModS := (s.1, s.2.1, s.2.2.1, s.2.2.2.1, s.2.2.2.2.1, s.2.2.2.2.2.1, s.2.2.2.2.2.2.1, s.2.2.2.2.2.2.2.1, s.2.2.2.2.2.2.2.2.1, s.2.2.2.2.2.2.2.2.2.1, s.2.2.2.2.2.2.2.2.2.2.1, v, s.2.2.2.2.2.2.2.2.2.2.2.2)
def gM_od (s : ModS) : (Nat → Int32) := s.2.2.2.2.2.2.2.2.2.2.2.2
def sM_od (s : ModS) (v : (Nat → Int32)) : ModS := (s.1, s.2.1, s.2.2.1, s.2.2.2.1, s.2.2.2.2.1, s.2.2.2.2.2.1, s.2.2.2.2.2.2.1, s.2.2.2.2.2.2.2.1, s.2.2.2.2.2.2.2.2.1, s.2.2.2.2.2.2.2.2.2.1, s.2.2.2.2.2.2.2.2.2.2.1, s.2.2.2.2.2.2.2.2.2.2.2.1, v)
def memNb (b : Nat) (s : NetS) : MMe := [.inr (0, [.int (gN_tc s), .int (gN_hb s), .int (gN_x s), .int (gN_hg s), .int (gN_cc s), .ref (b + 1), .ref (b + 2), .ref (b + 3), .ref (b + 4), .ref (b + 5), .ref (b + 6), .ref (b + 7), .ref (b + 8)]), .inl (0, 36, .inl (gN_w s)), .inl (0, 36, .inl (gN_r s)), .inl (0, 36, .inl (gN_hd s)), .inl (0, 36, .inl (gN_st s)), .inl (0, 180, .inl (gN_ct s)), .inl (0, 5, .inl (gN_tt s)), .inl (0, 24, .inl (gN_ld s)), .inl (0, 320, .inl (gN_ca s))]
def memTb (b : Nat) (s : TextS) : MMe := [.inr (1, [.ref (b + 1), .ref (b + 2), .int (gT_ln s), .int (gT_oc s), .int (gT_tn s), .int (gT_pl s), .int (gT_ft s)]), .inl (0, 120, .inl (gT_by s)), .inl (0, 160, .inl (gT_od s))]
def memNx (x_tc : Int32) (x_hb : Int32) (x_x : Int32) (x_hg : Int32) (x_cc : Int32) (x_w : (Nat → Int32)) (x_r : (Nat → Int32)) (x_hd : (Nat → Int32)) (x_st : (Nat → Int32)) (x_ct : (Nat → Int32)) (x_tt : (Nat → Int32)) (x_ld : (Nat → Int32)) (x_ca : (Nat → Int32)) : MMe := [.inr (0, [.int x_tc, .int x_hb, .int x_x, .int x_hg, .int x_cc, .ref 1, .ref 2, .ref 3, .ref 4, .ref 5, .ref 6, .ref 7, .ref 8]), .inl (0, 36, .inl x_w), .inl (0, 36, .inl x_r), .inl (0, 36, .inl x_hd), .inl (0, 36, .inl x_st), .inl (0, 180, .inl x_ct), .inl (0, 5, .inl x_tt), .inl (0, 24, .inl x_ld), .inl (0, 320, .inl x_ca)]
def memN (s : NetS) : MMe := memNx (gN_tc s) (gN_hb s) (gN_x s) (gN_hg s) (gN_cc s) (gN_w s) (gN_r s) (gN_hd s) (gN_st s) (gN_ct s) (gN_tt s) (gN_ld s) (gN_ca s)
theorem memN_mk {x_tc : Int32} {x_hb : Int32} {x_x : Int32} {x_hg : Int32} {x_cc : Int32} {x_w : Nat → Int32} {x_r : Nat → Int32} {x_hd : Nat → Int32} {x_st : Nat → Int32} {x_ct : Nat → Int32} {x_tt : Nat → Int32} {x_ld : Nat → Int32} {x_ca : Nat → Int32} : memN (mkN x_tc x_hb x_x x_hg x_cc x_w x_r x_hd x_st x_ct x_tt x_ld x_ca) = memNx x_tc x_hb x_x x_hg x_cc x_w x_r x_hd x_st x_ct x_tt x_ld x_ca := rfl
def memTx (x_ln : Int32) (x_oc : Int32) (x_tn : Int32) (x_pl : Int32) (x_ft : Int32) (x_by : (Nat → Int32)) (x_od : (Nat → Int32)) : MMe := [.inr (1, [.ref 1, .ref 2, .int x_ln, .int x_oc, .int x_tn, .int x_pl, .int x_ft]), .inl (0, 120, .inl x_by), .inl (0, 160, .inl x_od)]
def memT (s : TextS) : MMe := memTx (gT_ln s) (gT_oc s) (gT_tn s) (gT_pl s) (gT_ft s) (gT_by s) (gT_od s)
theorem memT_mk {x_ln : Int32} {x_oc : Int32} {x_tn : Int32} {x_pl : Int32} {x_ft : Int32} {x_by : Nat → Int32} {x_od : Nat → Int32} : memT (mkT x_ln x_oc x_tn x_pl x_ft x_by x_od) = memTx x_ln x_oc x_tn x_pl x_ft x_by x_od := rfl
def memMx (x_ss : Int32) (x_ty : Int32) (x_at : Int32) (x_ft : Int32) (x_mn : Int32) (x_bd : Int32) (x_no : Int32) (x_fu : Int32) (x_nw : (Nat → Int32)) (x_as : (Nat → Int32)) (x_pa : (Nat → Int32)) (x_tx : (Nat → Int32)) (x_od : (Nat → Int32)) : MMe := [.inr (3, [.ref 1, .ref 2, .ref 3, .int x_ss, .ref 4, .int x_ty, .int x_at, .int x_ft, .ref 5, .int x_mn, .int x_bd, .int x_no, .int x_fu]), .inl (0, 637, .inl x_nw), .inl (0, 637, .inl x_as), .inl (0, 3185, .inl x_pa), .inl (0, 120, .inl x_tx), .inl (0, 240, .inl x_od)]
def memM (s : ModS) : MMe := memMx (gM_ss s) (gM_ty s) (gM_at s) (gM_ft s) (gM_mn s) (gM_bd s) (gM_no s) (gM_fu s) (gM_nw s) (gM_as s) (gM_pa s) (gM_tx s) (gM_od s)
theorem memM_mk {x_ss : Int32} {x_ty : Int32} {x_at : Int32} {x_ft : Int32} {x_mn : Int32} {x_bd : Int32} {x_no : Int32} {x_fu : Int32} {x_nw : Nat → Int32} {x_as : Nat → Int32} {x_pa : Nat → Int32} {x_tx : Nat → Int32} {x_od : Nat → Int32} : memM (mkM x_ss x_ty x_at x_ft x_mn x_bd x_no x_fu x_nw x_as x_pa x_tx x_od) = memMx x_ss x_ty x_at x_ft x_mn x_bd x_no x_fu x_nw x_as x_pa x_tx x_od := rfl
def m_sts : Nat → Option Nat := fun k => if k = 0 then some 20 else if k = 1 then some 29 else if k = 2 then some 38 else if k = 3 then some 47 else if k = 4 then some 56 else none
def memRx (x_sc : Int32) (x_ns : Int32) (x_bd : Int32) (x_no : Int32) (x_fu : Int32) (x_now : NetS) (x_tri : NetS) (x_s0 : NetS) (x_s1 : NetS) (x_s2 : NetS) (x_s3 : NetS) (x_s4 : NetS) (x_txt : TextS) : MMe := .inr (2, [.ref 1, .ref 10, .ref 19, .ref 65, .int x_sc, .int x_ns, .int x_bd, .int x_no, .int x_fu]) :: (memNb 1 x_now ++ (memNb 10 x_tri ++ (.inl (1, 5, .inr (.inr (.inr (.inr m_sts)))) :: (memNb 20 x_s0 ++ (memNb 29 x_s1 ++ (memNb 38 x_s2 ++ (memNb 47 x_s3 ++ (memNb 56 x_s4 ++ memTb 65 x_txt))))))))
def memR (s : RouS) : MMe := memRx (gR_sc s) (gR_ns s) (gR_bd s) (gR_no s) (gR_fu s) (gR_now s) (gR_tri s) (gR_s0 s) (gR_s1 s) (gR_s2 s) (gR_s3 s) (gR_s4 s) (gR_txt s)
theorem memR_mk {x_sc : Int32} {x_ns : Int32} {x_bd : Int32} {x_no : Int32} {x_fu : Int32} {x_now : NetS} {x_tri : NetS} {x_s0 : NetS} {x_s1 : NetS} {x_s2 : NetS} {x_s3 : NetS} {x_s4 : NetS} {x_txt : TextS} : memR (mkR x_sc x_ns x_bd x_no x_fu x_now x_tri x_s0 x_s1 x_s2 x_s3 x_s4 x_txt) = memRx x_sc x_ns x_bd x_no x_fu x_now x_tri x_s0 x_s1 x_s2 x_s3 x_s4 x_txt := rfl
def memF (n : Nat) (f : Nat → Int32) : MMe := [.inl (0, n, .inl f)]
def memNOx (x_tc : Int32) (x_hb : Int32) (x_x : Int32) (x_hg : Int32) (x_cc : Int32) (x_w : (Nat → Int32)) (x_r : (Nat → Int32)) (x_hd : (Nat → Int32)) (x_st : (Nat → Int32)) (x_ct : (Nat → Int32)) (x_tt : (Nat → Int32)) (x_ld : (Nat → Int32)) (x_ca : (Nat → Int32)) (od : Nat → Int32) : MMe := memNx x_tc x_hb x_x x_hg x_cc x_w x_r x_hd x_st x_ct x_tt x_ld x_ca ++ memF 160 od
def memNO (s : NetS) (od : Nat → Int32) : MMe := memNOx (gN_tc s) (gN_hb s) (gN_x s) (gN_hg s) (gN_cc s) (gN_w s) (gN_r s) (gN_hd s) (gN_st s) (gN_ct s) (gN_tt s) (gN_ld s) (gN_ca s) od
theorem memNO_mk {x_tc : Int32} {x_hb : Int32} {x_x : Int32} {x_hg : Int32} {x_cc : Int32} {x_w : Nat → Int32} {x_r : Nat → Int32} {x_hd : Nat → Int32} {x_st : Nat → Int32} {x_ct : Nat → Int32} {x_tt : Nat → Int32} {x_ld : Nat → Int32} {x_ca : Nat → Int32} {od : Nat → Int32} : memNO (mkN x_tc x_hb x_x x_hg x_cc x_w x_r x_hd x_st x_ct x_tt x_ld x_ca) od = memNOx x_tc x_hb x_x x_hg x_cc x_w x_r x_hd x_st x_ct x_tt x_ld x_ca od := rfl
def memNNx (x_tc : Int32) (x_hb : Int32) (x_x : Int32) (x_hg : Int32) (x_cc : Int32) (x_w : (Nat → Int32)) (x_r : (Nat → Int32)) (x_hd : (Nat → Int32)) (x_st : (Nat → Int32)) (x_ct : (Nat → Int32)) (x_tt : (Nat → Int32)) (x_ld : (Nat → Int32)) (x_ca : (Nat → Int32)) (t : NetS) : MMe := memNx x_tc x_hb x_x x_hg x_cc x_w x_r x_hd x_st x_ct x_tt x_ld x_ca ++ memNb 9 t
def memNN (s t : NetS) : MMe := memNNx (gN_tc s) (gN_hb s) (gN_x s) (gN_hg s) (gN_cc s) (gN_w s) (gN_r s) (gN_hd s) (gN_st s) (gN_ct s) (gN_tt s) (gN_ld s) (gN_ca s) t
theorem memNN_mk {x_tc : Int32} {x_hb : Int32} {x_x : Int32} {x_hg : Int32} {x_cc : Int32} {x_w : Nat → Int32} {x_r : Nat → Int32} {x_hd : Nat → Int32} {x_st : Nat → Int32} {x_ct : Nat → Int32} {x_tt : Nat → Int32} {x_ld : Nat → Int32} {x_ca : Nat → Int32} {t : NetS} : memNN (mkN x_tc x_hb x_x x_hg x_cc x_w x_r x_hd x_st x_ct x_tt x_ld x_ca) t = memNNx x_tc x_hb x_x x_hg x_cc x_w x_r x_hd x_st x_ct x_tt x_ld x_ca t := rfl
/-! reading a tree: guards, binds, loops -/
def gI {α : Type} (i : Int32) (n : Nat) (k : Option α) : Option α := if inb i n = true then k else none
theorem gI_some {α : Type} {i : Int32} {n : Nat} {k : Option α} {q : α} (h : gI i n k = some q) : inb i n = true ∧ k = some q := by
  unfold gI at h
  by_cases hg : inb i n = true
  · rw [if_pos hg] at h; exact ⟨hg, h⟩
  · rw [if_neg hg] at h; cases h
def gC {α : Type} (sp dp n : Int32) (n0 n1 : Nat) (k : Option α) : Option α := if mCpG sp dp n n0 n1 = true then k else none
theorem gC_some {α : Type} {sp dp n : Int32} {n0 n1 : Nat} {k : Option α} {q : α} (h : gC sp dp n n0 n1 k = some q) : mCpG sp dp n n0 n1 = true ∧ k = some q := by
  unfold gC at h
  by_cases hg : mCpG sp dp n n0 n1 = true
  · rw [if_pos hg] at h; exact ⟨hg, h⟩
  · rw [if_neg hg] at h; cases h
def gZ {α : Type} (y : Int32) (k : Option α) : Option α := if ¬ y = nI 0 then k else none
theorem gZ_some {α : Type} {y : Int32} {k : Option α} {q : α} (h : gZ y k = some q) : (¬ y = nI 0) ∧ k = some q := by
  unfold gZ at h
  by_cases hg : ¬ y = nI 0
  · rw [if_pos hg] at h; exact ⟨hg, h⟩
  · rw [if_neg hg] at h; cases h
def gZL {α : Type} (y : Int64) (k : Option α) : Option α := if ¬ y = 0 then k else none
theorem gZL_some {α : Type} {y : Int64} {k : Option α} {q : α} (h : gZL y k = some q) : (¬ y = 0) ∧ k = some q := by
  unfold gZL at h
  by_cases hg : ¬ y = 0
  · rw [if_pos hg] at h; exact ⟨hg, h⟩
  · rw [if_neg hg] at h; cases h
def gB {α : Type} (y : Int32) (k : Option α) : Option α := if y = nI 0 ∨ y = nI 1 then k else none
theorem gB_some {α : Type} {y : Int32} {k : Option α} {q : α} (h : gB y k = some q) : narrow .boolean (.int y) = .int y ∧ k = some q := by
  unfold gB at h
  by_cases hg : y = nI 0 ∨ y = nI 1
  · rw [if_pos hg] at h
    refine ⟨?_, h⟩
    rcases hg with rfl | rfl <;> rfl
  · rw [if_neg hg] at h; cases h
theorem bnd {α β : Type} {x : Option α} {f : α → Option β} {q : β} (h : x.bind f = some q) : ∃ v, x = some v ∧ f v = some q := by
  cases x with
  | none => cases h
  | some v => exact ⟨v, rfl, h⟩
def mWh {σ ρ : Type} (b : σ → Option (σ ⊕ ρ)) : Nat → σ → Option ρ
  | 0, _ => none
  | n + 1, x => match b x with
    | some (.inl y) => mWh b n y
    | some (.inr r) => some r
    | none => none
theorem mWh_ind {σ ρ : Type} {b : σ → Option (σ ⊕ ρ)} {P : σ → Prop} {K : ρ → Prop} (hb : ∀ x q, b x = some q → Sum.elim P K q → P x) : ∀ (n : Nat) (x : σ) (z : ρ), mWh b n x = some z → K z → P x
  | 0, x, z, h, _ => by cases h
  | n + 1, x, z, h, hk => by
    unfold mWh at h
    cases hq : b x with
    | none => rw [hq] at h; cases h
    | some q =>
      rw [hq] at h
      cases q with
      | inl y => exact hb x _ hq (mWh_ind hb n y z h hk)
      | inr r =>
        cases h
        exact hb x _ hq hk
def fuel0 : Nat := 4000
/-! fewer locals -/
def mDr (z : List (Option Value)) : List Nat → List (Option Value)
  | [] => z
  | k :: ks => mDr (z.set k none) ks
theorem mL.drop {ls : Array Slot} {nL : Nat} {z : List (Option Value)} {k : Nat} (h : mL ls nL z) : mL ls nL (z.set k none) := by
  refine ⟨⟨h.1.1, h.1.2.1, fun q hq => ?_⟩, by rw [List.length_set]; exact h.2⟩
  obtain ⟨j, w⟩ := q
  have hj := mAs_iff.mp hq
  by_cases e : k = j
  · subst e
    have hlt : k < z.length := by
      have := (List.getElem?_eq_some_iff.mp hj).1
      rwa [List.length_set] at this
    rw [List.getElem?_set_self hlt] at hj
    cases hj
  · rw [List.getElem?_set_ne e] at hj
    exact h.1.2.2 _ (mAs_iff.mpr hj)
theorem mL.drops {ls : Array Slot} {nL : Nat} {σ : Nat → Nat} : ∀ (ks : List Nat) {z : List (Option Value)}, mL ls nL (cL σ z) → mL ls nL (cL σ (mDr z ks))
  | [], z, h => h
  | k :: ks, z, h => by
    unfold mDr
    refine mL.drops ks ?_
    rw [cL_set]
    exact h.drop
theorem mEv.fg {d : Nat} {M : MB} {scr : Option (Nat × (Nat → Int32))} {pc : Nat} {cd : List MEn} {z z' : List (Option Value)} {st : List Value} {μ μ' : MMe} {r : Option Value} (ks : List Nat) (hz : mDr z ks = z') (E : mEv d M scr (pc, cd, z', st, μ) r μ') : mEv d M scr (pc, cd, z, st, μ) r μ' := by
  subst hz
  intro p l e R s m args below meth c D σ tA A H0 cells slots Q hC hcs hss hret hk H locs ls hP hD hS hL
  exact E p l e R s m args below meth c D σ tA A H0 cells slots Q hC hcs hss hret hk H locs ls hP hD hS (mL.drops ks hL)
theorem mEv.mem {d : Nat} {M : MB} {scr : Option (Nat × (Nat → Int32))} {pc : Nat} {cd : List MEn} {z : List (Option Value)} {st : List Value} {μ μ0 μ' : MMe} {r : Option Value} (h : μ0 = μ) (E : mEv d M scr (pc, cd, z, st, μ0) r μ') : mEv d M scr (pc, cd, z, st, μ) r μ' := h ▸ E
theorem mEv.tgt {d : Nat} {M : MB} {scr : Option (Nat × (Nat → Int32))} {S : MSt} {μ1 μ0 : MMe} {r : Option Value} (h : μ1 = μ0) (E : mEv d M scr S r μ0) : mEv d M scr S r μ1 := h ▸ E
theorem mCall.cast {d : Nat} {M : MB} {as : List Value} {μ μ0 μ' : MMe} {r : Option Value} (h : μ0 = μ) (E : mCall d M as μ0 r μ') : mCall d M as μ r μ' := h ▸ E
/-! a contract of few cells among many, by places -/
def mRo (ps : List Nat) : Nat → Nat := fun i => ps.getD i 0
def mPut (B : MMe) : List (Nat × va_E) → MMe
  | [] => B
  | q :: r => mPut (B.set q.1 q.2) r
theorem mPut_len : ∀ (l : List (Nat × va_E)) (B : MMe), (mPut B l).length = B.length
  | [], B => rfl
  | q :: r, B => by unfold mPut; rw [mPut_len r, List.length_set]
theorem mPut_ne : ∀ (l : List (Nat × va_E)) (B : MMe) (k : Nat), (∀ q ∈ l, q.1 ≠ k) → (mPut B l)[k]? = B[k]?
  | [], B, k, h => rfl
  | q :: r, B, k, h => by
    unfold mPut
    rw [mPut_ne r _ k (fun q hq => h q (List.mem_cons_of_mem _ hq)), List.getElem?_set_ne (h q List.mem_cons_self)]
theorem mPut_at : ∀ (l : List (Nat × va_E)) (B : MMe), va_nd (l.map (·.1)) = true → (∀ q ∈ l, q.1 < B.length) → ∀ q ∈ l, (mPut B l)[q.1]? = some q.2
  | [], B, _, _, q, h => by cases h
  | p :: r, B, hn, hb, q, hq => by
    rw [List.map_cons] at hn
    simp only [va_nd, Bool.and_eq_true, decide_eq_true_eq] at hn
    unfold mPut
    rcases List.mem_cons.mp hq with rfl | hq
    · rw [mPut_ne r _ _ (fun t ht e => hn.1 (by rw [← e]; exact List.mem_map_of_mem ht)), List.getElem?_set_self (hb _ List.mem_cons_self)]
    · exact mPut_at r _ hn.2 (fun t ht => by rw [List.length_set]; exact hb t (List.mem_cons_of_mem _ ht)) q hq
theorem m_pt {ps : List Nat} {μ B : MMe} {ρ : Nat → Nat} (h : ps.map (fun k => B[k]?) = μ.map (fun c => some (cE ρ (fun t => t) c))) : ps.length = μ.length := by
  have := congrArg List.length h
  rwa [List.length_map, List.length_map] at this
theorem mRo_at {ps : List Nat} {i : Nat} (h : i < ps.length) : mRo ps i = ps[i] := by
  unfold mRo
  rw [List.getD_eq_getElem?_getD, List.getElem?_eq_getElem h]
  rfl
set_option maxHeartbeats 4000000 in
theorem mCall.lift {d : Nat} {M : MB} {as : List Value} {μ μ' B : MMe} {r : Option Value} (ps : List Nat) (hc : mCall d M as μ r μ') (hlen : μ'.length = μ.length) (hp : ps.map (fun k => B[k]?) = μ.map (fun c => some (cE (mRo ps) (fun t => t) c))) (hn : va_nd ps = true) : mCall d M (as.map (cV (mRo ps))) B (r.map (cV (mRo ps))) (mPut B (ps.zip (μ'.map (cE (mRo ps) (fun t => t))))) := by
  have hl := m_pt hp
  have hat : ∀ i c, μ[i]? = some c → B[mRo ps i]? = some (cE (mRo ps) (fun t => t) c) := by
    intro i c h
    have hi : i < ps.length := by rw [hl]; exact (List.getElem?_eq_some_iff.mp h).1
    have h1 := congrArg (fun l => l[i]?) hp
    simp only [List.getElem?_map, h, List.getElem?_eq_getElem hi, Option.map_some] at h1
    rw [mRo_at hi]
    exact Option.some.inj h1
  have hfst : (ps.zip (μ'.map (cE (mRo ps) (fun t => t)))).map (·.1) = ps := by
    rw [List.map_fst_zip]
    rw [List.length_map, hlen]; omega
  have hmem : ∀ q ∈ ps.zip (μ'.map (cE (mRo ps) (fun t => t))), q.1 < B.length := by
    intro q hq
    have h1 : q.1 ∈ ps := by rw [← hfst]; exact List.mem_map_of_mem hq
    obtain ⟨i, hi, he⟩ := List.mem_iff_getElem.mp h1
    have hi' : i < μ.length := by omega
    have := hat i _ (List.getElem?_eq_getElem hi')
    rw [mRo_at hi, he] at this
    exact (List.getElem?_eq_some_iff.mp this).1
  refine hc.frame (mRo ps) B _ hlen (mPut_len _ _) hat ?_ ?_ ?_
  · intro i j hi hj h
    rw [mRo_at (by omega), mRo_at (by omega)] at h
    exact va_nd_inj ps hn i j ps[i] (List.getElem?_eq_getElem (by omega)) (by rw [h]; exact List.getElem?_eq_getElem (by omega))
  · intro i c h
    have hi' := (List.getElem?_eq_some_iff.mp h).1
    have hi : i < ps.length := by omega
    have hz : (ps.zip (μ'.map (cE (mRo ps) (fun t => t))))[i]? = some (ps[i], cE (mRo ps) (fun t => t) c) := by
      rw [List.getElem?_zip_eq_some]
      exact ⟨List.getElem?_eq_getElem hi, by rw [List.getElem?_map, h]; rfl⟩
    have := mPut_at _ B (by rw [hfst]; exact hn) hmem _ (List.mem_of_getElem? hz)
    rw [mRo_at hi]
    exact this
  · intro k hk
    refine mPut_ne _ _ _ (fun q hq e => ?_)
    have h1 : q.1 ∈ ps := by rw [← hfst]; exact List.mem_map_of_mem hq
    obtain ⟨i, hi, he⟩ := List.mem_iff_getElem.mp h1
    exact hk i (by omega) (by rw [mRo_at hi, he, e])
def mMk (mask : List Bool) (B : MMe) : List (Option va_E) := List.zipWith (fun b c => if b = true then none else some c) mask B
theorem mMk_at {mask : List Bool} {B B' : MMe} (hl : mask.length = B.length) (hl' : B'.length = B.length) (h : mMk mask B' = mMk mask B) {k : Nat} (hk : mask[k]? ≠ some true) : B'[k]? = B[k]? := by
  by_cases hlt : k < B.length
  · have h1 := congrArg (fun l => l[k]?) h
    simp only [mMk, List.getElem?_zipWith] at h1
    rw [List.getElem?_eq_getElem (show k < mask.length by omega), List.getElem?_eq_getElem hlt, List.getElem?_eq_getElem (show k < B'.length by omega)] at h1
    have hb : mask[k]'(by omega) = false := by
      cases hm : mask[k]'(by omega) with
      | false => rfl
      | true => exact absurd (by rw [List.getElem?_eq_getElem (show k < mask.length by omega), hm]) hk
    simp only [hb] at h1
    rw [List.getElem?_eq_getElem hlt, List.getElem?_eq_getElem (show k < B'.length by omega)]
    simpa using h1
  · rw [List.getElem?_eq_none (by omega), List.getElem?_eq_none (by omega)]
set_option maxHeartbeats 4000000 in
theorem mCall.lift2 {d : Nat} {M : MB} {as : List Value} {μ μ' B B' : MMe} {r : Option Value} (ps : List Nat) (mask : List Bool) (hc : mCall d M as μ r μ') (hlen : μ'.length = μ.length) (hlB : B'.length = B.length) (hp : ps.map (fun k => B[k]?) = μ.map (fun c => some (cE (mRo ps) (fun t => t) c))) (hp' : ps.map (fun k => B'[k]?) = μ'.map (fun c => some (cE (mRo ps) (fun t => t) c))) (hn : va_nd ps = true)
    (hm : mMk mask B' = mMk mask B) (hml : mask.length = B.length) (hmk : (List.range mask.length).all (fun k => !(decide (mask[k]? = some true)) || decide (k ∈ ps)) = true) : mCall d M (as.map (cV (mRo ps))) B (r.map (cV (mRo ps))) B' := by
  have hl := m_pt hp
  have look : ∀ {ν C : MMe}, ν.length = ps.length → ps.map (fun k => C[k]?) = ν.map (fun c => some (cE (mRo ps) (fun t => t) c)) → ∀ i c, ν[i]? = some c → C[mRo ps i]? = some (cE (mRo ps) (fun t => t) c) := by
    intro ν C hν hq i c h
    have hi : i < ps.length := by rw [← hν]; exact (List.getElem?_eq_some_iff.mp h).1
    have h1 := congrArg (fun l => l[i]?) hq
    simp only [List.getElem?_map, h, List.getElem?_eq_getElem hi, Option.map_some] at h1
    rw [mRo_at hi]
    exact Option.some.inj h1
  refine hc.frame (mRo ps) B B' hlen hlB (look hl.symm hp) ?_ (look (by omega) hp') ?_
  · intro i j hi hj h
    rw [mRo_at (by omega), mRo_at (by omega)] at h
    exact va_nd_inj ps hn i j ps[i] (List.getElem?_eq_getElem (by omega)) (by rw [h]; exact List.getElem?_eq_getElem (by omega))
  · intro k hk
    refine mMk_at hml hlB hm (fun ht => ?_)
    have hkl : k < mask.length := (List.getElem?_eq_some_iff.mp ht).1
    have h2 := List.all_eq_true.mp hmk k (List.mem_range.mpr hkl)
    simp only [ht, decide_true, Bool.not_true, Bool.false_or, decide_eq_true_eq] at h2
    obtain ⟨i, hi, he⟩ := List.mem_iff_getElem.mp h2
    exact hk i (by omega) (by rw [mRo_at hi, he])
