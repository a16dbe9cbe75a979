/-! would, best -/
theorem q_invx {σ ρ : Type} {b : σ → Option (σ ⊕ ρ)} (I : Nat → σ → Prop) (X : ρ → Prop) (e : Nat) (hs : ∀ i x, i < e → I i x → (∃ y, b x = some (.inl y) ∧ I (i + 1) y) ∨ (∃ z, b x = some (.inr z) ∧ X z)) (hx : ∀ x, I e x → ∃ z, b x = some (.inr z) ∧ X z) : ∀ (m i n : Nat) (x : σ), e - i = m → i ≤ e → m < n → I i x → ∃ z, mWh b n x = some z ∧ X z
  | 0, i, n + 1, x, h1, h2, h3, h => by
    have : i = e := by omega
    subst this
    obtain ⟨z, h4, h5⟩ := hx x h
    exact ⟨z, q_whr h4, h5⟩
  | m + 1, i, n + 1, x, h1, h2, h3, h => by
    rcases hs i x (by omega) h with ⟨y, h4, h5⟩ | ⟨z, h4, h5⟩
    · rw [q_whl h4]
      exact q_invx I X e hs hx m (i + 1) n y (by omega) (by omega) (by omega) h5
    · exact ⟨z, q_whr h4, h5⟩
theorem q_invx0 {σ ρ : Type} {b : σ → Option (σ ⊕ ρ)} (I : Nat → σ → Prop) (X : ρ → Prop) (e : Nat) (he : e < 4000) {x : σ} (h0 : I 0 x) (hs : ∀ i x, i < e → I i x → (∃ y, b x = some (.inl y) ∧ I (i + 1) y) ∨ (∃ z, b x = some (.inr z) ∧ X z)) (hx : ∀ x, I e x → ∃ z, b x = some (.inr z) ∧ X z) : ∃ z, mWh b fuel0 x = some z ∧ X z :=
  q_invx I X e hs hx e 0 fuel0 x (by omega) (by omega) (by unfold fuel0; omega) h0
section
variable {B : Nat} {N : Nat → Nat}
theorem s4_ask {a b h : Nat} (hc : 6 * a + b < 36) : sC N 4 36 ≤ sC (sAsk a b h N).2 4 36 ∧ sC (sAsk a b h N).2 4 36 ≤ sC N 4 36 + 1 := by
  have ct : ∀ w (M : Nat → Nat), w < 5 → w ≠ 4 → sC (sCt w (6 * a + b) M) 4 36 = sC M 4 36 := fun w M hw h4 => by rw [sC_ct hw hc (by omega), if_neg (Ne.symm h4)]
  have c4 : ∀ (M : Nat → Nat), sC (sCt 4 (6 * a + b) M) 4 36 = sC M 4 36 + 1 := fun M => by rw [sC_ct (by omega) hc (by omega), if_pos rfl]
  have rd : ∀ (M : Nat → Nat), sC (sRd a b M) 4 36 = sC M 4 36 := fun M => sC_eq (fun i hi => sRd_n (by omega) (by omega))
  have go : ∀ t (M : Nat → Nat), sC (sGo a b t h M) 4 36 = sC M 4 36 := fun t M => by
    unfold sGo
    rw [sC_eq (fun i hi => sAd_n (by omega) (by omega))]
    exact ct _ _ (by split <;> omega) (by split <;> omega)
  have e0 := ct 0 N (by omega) (by omega)
  unfold sAsk
  dsimp only
  split
  · show sC N 4 36 ≤ sC (sCt 4 _ _) 4 36 ∧ sC (sCt 4 _ _) 4 36 ≤ _
    rw [c4, e0]
    omega
  · split
    · show sC N 4 36 ≤ sC (sGo _ _ _ _ _) 4 36 ∧ sC (sGo _ _ _ _ _) 4 36 ≤ _
      rw [go, e0]
      omega
    · split
      · show sC N 4 36 ≤ sC (sGo _ _ _ _ _) 4 36 ∧ sC (sGo _ _ _ _ _) 4 36 ≤ _
        rw [go, e0]
        omega
      · split
        · split
          · show sC N 4 36 ≤ sC (sGo _ _ _ _ _) 4 36 ∧ sC (sGo _ _ _ _ _) 4 36 ≤ _
            rw [go, rd, ct 3 _ (by omega) (by omega), e0]
            omega
          · show sC N 4 36 ≤ sC (sRd _ _ _) 4 36 ∧ sC (sRd _ _ _) 4 36 ≤ _
            rw [rd, c4, rd, ct 3 _ (by omega) (by omega), e0]
            omega
        · show sC N 4 36 ≤ sC (sRd _ _ _) 4 36 ∧ sC (sRd _ _ _) 4 36 ≤ _
          rw [rd, c4, e0]
          omega
theorem s4_pl (hW : WF B N) : sC N 4 36 ≤ sC (sPl N) 4 36 ∧ sC (sPl N) 4 36 ≤ sC N 4 36 + 1 := by
  obtain ⟨p1, p2, p3⟩ := sPb_ok hW.1.1
  have h06 := hW.1
  have := s4_ask (N := uN N 2 (sX (N 2))) (a := sPa N) (b := sPb N) (h := sPh N) (by omega)
  rw [sC_eq (N := N) (fun i hi => uN_n (by omega))] at this
  exact this
theorem s4_pm (hW : WF B N) : ∀ k, sC N 4 36 ≤ sC (sPm N k) 4 36 ∧ sC (sPm N k) 4 36 ≤ sC N 4 36 + k
  | 0 => ⟨Nat.le_refl _, Nat.le_refl _⟩
  | k + 1 => by
    have h1 := s4_pm hW k
    have h2 := s4_pl (hW.pm k)
    unfold sPm
    omega
theorem s4_ho (hW : WF B N) : sC N 4 36 ≤ sC (sHo N).2 4 36 ∧ sC (sHo N).2 4 36 ≤ sC N 4 36 + 9 := by
  obtain ⟨w1, w2, w3, w4⟩ := hW.eh
  have hl := hW.ho.2
  have h1 := s4_pm w1.h (sHl N)
  rw [sC_eq (N := N) (fun i hi => (uN_n (by omega)).trans (w4 _ (by omega) (by omega)))] at h1
  show sC N 4 36 ≤ sC (sPm (uN (sEh N).2 3 ((sEh N).2 3 + 1)) (sHl N)) 4 36 ∧ sC (sPm (uN (sEh N).2 3 ((sEh N).2 3 + 1)) (sHl N)) 4 36 ≤ _
  omega
theorem s4_hs (hW : WF B N) (k : Nat) : sC (sHs N k).2 4 36 ≤ sC (sHs N (k + 1)).2 4 36 ∧ sC (sHs N (k + 1)).2 4 36 ≤ sC (sHs N k).2 4 36 + 9 := s4_ho (hW.hs k)
/-- refused more in k hours, with all reserves p -/
def uL (p : Nat) (N : Nat → Nat) (k : Nat) : Nat := sC (sHs (sLn 41 p N) k).2 4 36 - sC N 4 36
theorem WF.ln (hW : WF B N) {p : Nat} (hp : p ≤ 30) : WF B (sLn 41 p N) := hW.par (fun j hj => sLn_n (by omega)) (by rw [sLn_n (by omega)]; exact hW.2.1) (fun c hc => by rw [sLn_n (by omega)]; exact hW.2.2.2.2.2.1 c hc) (fun c hc => by rw [sLn_i hc]; exact hp) (fun c hc => by rw [sLn_n (by omega)]; exact hW.2.2.2.2.2.2.2.2.1 c hc)
theorem s4_ln {p : Nat} : sC (sLn 41 p N) 4 36 = sC N 4 36 := sC_eq (fun i hi => sLn_n (by omega))
theorem uL_at (hW : WF B N) {p : Nat} (hp : p ≤ 30) : ∀ k, sC (sHs (sLn 41 p N) k).2 4 36 = sC N 4 36 + uL p N k ∧ uL p N k ≤ uL p N (k + 1) ∧ uL p N k ≤ 9 * k := by
  have h : ∀ k, sC N 4 36 ≤ sC (sHs (sLn 41 p N) k).2 4 36 ∧ sC (sHs (sLn 41 p N) k).2 4 36 ≤ sC N 4 36 + 9 * k := by
    intro k
    induction k with
    | zero =>
      show sC N 4 36 ≤ sC (sLn 41 p N) 4 36 ∧ sC (sLn 41 p N) 4 36 ≤ _
      rw [s4_ln]
      omega
    | succ k ih =>
      have := s4_hs (hW.ln hp) k
      omega
  intro k
  have h1 := h k
  have h2 := s4_hs (hW.ln hp) k
  unfold uL
  omega
theorem uL_mono (hW : WF B N) {p : Nat} (hp : p ≤ 30) {i : Nat} : ∀ k, uL p N i ≤ uL p N (i + k)
  | 0 => Nat.le_refl _
  | k + 1 => Nat.le_trans (uL_mono hW hp k) (uL_at hW hp (i + k)).2.1
theorem uL_0 {p : Nat} : uL p N 0 = 0 := by
  show sC (sLn 41 p N) 4 36 - sC N 4 36 = 0
  rw [s4_ln]
  omega
abbrev sTri (r : RouS) (n : NetS) : RouS := mkR (gR_sc r) (gR_ns r) (gR_bd r) (gR_no r) (gR_fu r) (gR_now r) n (gR_s0 r) (gR_s1 r) (gR_s2 r) (gR_s3 r) (gR_s4 r) (gR_txt r)
theorem RC.ln {n : NetS} (hR : RC n N) {p : Nat} {g : Nat → Int32} (hg : ∀ j, j < 36 → g j = nI p) : RC (mkN (gN_tc n) (gN_hb n) (gN_x n) (gN_hg n) (gN_cc n) (gN_w n) g (gN_hd n) (gN_st n) (gN_ct n) (gN_tt n) (gN_ld n) (gN_ca n)) (sLn 41 p N) :=
  hR.par (fun j hj => sLn_n (by omega)) (hR.2.1.trans (congrArg nI (sLn_n (by omega)).symm)) (hR.2.2.2.2.2.1.eq (fun j hj => sLn_n (by omega))) (fun j hj => by rw [sLn_i hj]; exact hg j hj) (hR.2.2.2.2.2.2.2.2.2.1.eq (fun j hj => sLn_n (by omega)))
theorem X_rw {r : RouS} (hB : B + 2000 < 1073741824) (hW : WF B N) (hR : RC (gR_now r) N) {p h lim : Nat} (hp : p ≤ 30) (hh : h ≤ 48) (hlim : lim ≤ 1000000) : ∃ v n', F_X2_refusedWith (nI p) (nI h) (nI lim) r = some (nI v, sTri r n') ∧ v ≤ 432 ∧ (v = uL p N h ∨ (lim ≤ v ∧ lim ≤ uL p N h)) := by
  obtain ⟨n1, c1, c2⟩ := hR.cp hW.2.2.2.2.1 (gR_tri r)
  obtain ⟨g, f1, f2⟩ := X_fill (v := nI p) (m := 36) (g := gN_r n1) (by omega)
  have hWp := hW.ln hp
  have hsN : sC N 4 36 ≤ B := hW.2.2.2.2.2.2.2.2.2.2 4 (by omega)
  have hl : ∃ z, mWh (fun x : Int32 × Int32 × RouS => B_X2_refusedWith_28 (nI h) (nI lim) x.1 x.2.1 x.2.2) fuel0 (nI 0, nI 0, sTri r (mkN (gN_tc n1) (gN_hb n1) (gN_x n1) (gN_hg n1) (gN_cc n1) (gN_w n1) g (gN_hd n1) (gN_st n1) (gN_ct n1) (gN_tt n1) (gN_ld n1) (gN_ca n1))) = some z ∧ ∃ v n', z = (nI v, sTri r n') ∧ v ≤ 432 ∧ (v = uL p N h ∨ (lim ≤ v ∧ lim ≤ uL p N h)) := by
    refine q_invx0 (I := fun i (x : Int32 × Int32 × RouS) => ∃ n', x = (nI (uL p N i), nI i, sTri r n') ∧ RC n' (sHs (sLn 41 p N) i).2) (X := fun z : Int32 × RouS => ∃ v n', z = (nI v, sTri r n') ∧ v ≤ 432 ∧ (v = uL p N h ∨ (lim ≤ v ∧ lim ≤ uL p N h))) h (by omega) ⟨_, by rw [uL_0], c2.ln f2⟩ ?_ ?_
    · rintro i x hi ⟨n', rfl, hn⟩
      have ui := uL_at hW hp i
      have ui1 := uL_at hW hp (i + 1)
      dsimp only
      unfold B_X2_refusedWith_28
      rw [i_leF hi (by omega)]
      by_cases e : lim ≤ uL p N i
      · right
        rw [i_leT e (by omega)]
        have hm := uL_mono hW hp (i := i) (h - i)
        rw [show i + (h - i) = h by omega] at hm
        exact ⟨_, rfl, uL p N i, n', rfl, by omega, Or.inr ⟨e, by omega⟩⟩
      · left
        obtain ⟨n2, e1, e2⟩ := RC.hs (hWp.hs i) hn (m := 1) (by omega) (by omega)
        rw [i_leF (by omega) (by omega), show gR_tri (sTri r n') = n' from rfl, e1, Option.bind_some, q_gI (by omega) (by omega), q_gI (by omega) (by omega), q_cl (by omega), q_add]
        dsimp only
        rw [e2.2.2.2.2.2.2.2.2.2.2.2.2 4 (by omega), show gR_now (sTri r n') = gR_now r from rfl, hR.2.2.2.2.2.2.2.2.2.2.2.2 4 (by omega), show (sHs (sHs (sLn 41 p N) i).2 1).2 = (sHs (sLn 41 p N) (i + 1)).2 from rfl, q_sub (by omega)]
        exact ⟨_, rfl, n2, rfl, e2⟩
    · rintro x ⟨n', rfl, hn⟩
      have ui := uL_at hW hp h
      dsimp only
      unfold B_X2_refusedWith_28
      rw [i_leT (Nat.le_refl _) (by omega)]
      exact ⟨_, rfl, uL p N h, n', rfl, by omega, Or.inl rfl⟩
  obtain ⟨z, e1, v, n', rfl, h1, h2⟩ := hl
  refine ⟨v, n', ?_, h1, h2⟩
  unfold F_X2_refusedWith
  rw [c1, Option.bind_some, f1, Option.bind_some, e1, Option.bind_some]
abbrev sAs (s : ModS) (f g : Nat → Int32) : ModS := mkM (gM_ss s) (gM_ty s) (gM_at s) (gM_ft s) (gM_mn s) (gM_bd s) (gM_no s) (gM_fu s) f g (gM_pa s) (gM_tx s) (gM_od s)
theorem Y_lost {m : ModS} (hB : B + 2000 < 1073741824) (hW : WF B N) (hM : RM (gM_nw m) N) {p h : Nat} (hp : p ≤ 30) (hh : h ≤ 48) : ∃ f g, F_X3_lostIn (nI h) (nI p) m = some (nI (uL p N h), sAs m f g) ∧ RM f N := by
  have h80 : N 4 ≤ 80 := hW.2.2.2.2.1
  have l1 : ∀ x1 x2 : Int32, mWh (fun x : Int32 × ModS => B_X3_lostIn_2 x1 x2 x.1 x.2) fuel0 (nI 0, m) = some (sAs m (gM_nw m) (fun k => if k < 637 then gM_nw m k else gM_as m k)) := by
    intro x1 x2
    have h0 : (fun k => if k < 0 then gM_nw m k else gM_as m k) = gM_as m := funext (fun k => if_neg (by omega))
    have hq := q_for0 (b := fun x : Int32 × ModS => B_X3_lostIn_2 x1 x2 x.1 x.2) (S := fun i => (nI i, sAs m (gM_nw m) (fun k => if k < i then gM_nw m k else gM_as m k))) 637 (sAs m (gM_nw m) (fun k => if k < 637 then gM_nw m k else gM_as m k)) (by omega) (fun i hi => by
      dsimp only
      unfold B_X3_lostIn_2
      rw [i_leF hi (by omega), q_gI hi (by omega), q_gI hi (by omega), q_add, q_cl (by omega)]
      refine congrArg (fun g => some (Sum.inl (nI (i + 1), sAs m (gM_nw m) g))) (a₂ := fun k => if k < i + 1 then gM_nw m k else gM_as m k) (funext fun k => ?_)
      unfold upd
      by_cases e : k = i
      · rw [if_pos e, if_pos (by omega), e]
        rfl
      · rw [if_neg e]
        show (if k < i then gM_nw m k else gM_as m k) = _
        by_cases e2 : k < i
        · rw [if_pos e2, if_pos (by omega)]
        · rw [if_neg e2, if_neg (by omega)]) (by
      dsimp only
      unfold B_X3_lostIn_2
      rw [i_leT (Nat.le_refl _) (by omega)])
    rw [h0] at hq
    exact hq
  generalize hg : (fun k => if k < 637 then gM_nw m k else gM_as m k) = g at l1
  have hg' : ∀ k, k < 637 → g k = gM_nw m k := fun k hk => by rw [← hg]; exact if_pos hk
  have l2 : ∀ x1 : Int32, mWh (fun x : Int32 × ModS => B_X3_lostIn_29 x1 (nI p) x.1 x.2) fuel0 (nI 0, sAs m (gM_nw m) g) = some (sAs m (fun j => if 41 ≤ j ∧ j < 41 + 36 then nI p else gM_nw m j) g) := by
    intro x1
    have h0 : (fun j => if 41 ≤ j ∧ j < 41 + 0 then nI p else gM_nw m j) = gM_nw m := funext (fun k => if_neg (by omega))
    have hq := q_for0 (b := fun x : Int32 × ModS => B_X3_lostIn_29 x1 (nI p) x.1 x.2) (S := fun i => (nI i, sAs m (fun j => if 41 ≤ j ∧ j < 41 + i then nI p else gM_nw m j) g)) 36 (sAs m (fun j => if 41 ≤ j ∧ j < 41 + 36 then nI p else gM_nw m j) g) (by omega) (fun i hi => by
      dsimp only
      unfold B_X3_lostIn_29
      rw [i_leF hi (by omega), q_add, q_gI (by omega) (by omega), q_cl (by omega), q_add]
      exact q_row (f := gM_nw m) (fun f => some (Sum.inl (nI (i + 1), sAs m f g)))) (by
      dsimp only
      unfold B_X3_lostIn_29
      rw [i_leT (Nat.le_refl _) (by omega)])
    rw [h0] at hq
    exact hq
  have hM1 : RM (fun j => if 41 ≤ j ∧ j < 41 + 36 then nI p else gM_nw m j) (sLn 41 p N) := hM.row (by omega) (fun j => rfl)
  generalize hf1 : (fun j => if 41 ≤ j ∧ j < 41 + 36 then nI p else gM_nw m j) = f1 at l2 hM1
  obtain ⟨f2, e1, hM2⟩ := Y_hs (s := sAs m f1 g) (hW.ln hp) hM1 (m := h) (by omega) (by omega)
  have l3 : ∀ x1 : Int32, mWh (fun x : Int32 × ModS => B_X3_lostIn_75 x1 x.1 x.2) fuel0 (nI 0, sAs m f2 g) = some (sAs m (fun k => if k < 637 then g k else f2 k) g) := by
    intro x1
    have h0 : (fun k => if k < 0 then g k else f2 k) = f2 := funext (fun k => if_neg (by omega))
    have hq := q_for0 (b := fun x : Int32 × ModS => B_X3_lostIn_75 x1 x.1 x.2) (S := fun i => (nI i, sAs m (fun k => if k < i then g k else f2 k) g)) 637 (sAs m (fun k => if k < 637 then g k else f2 k) g) (by omega) (fun i hi => by
      dsimp only
      unfold B_X3_lostIn_75
      rw [i_leF hi (by omega), q_gI hi (by omega), q_gI hi (by omega), q_add, q_cl (by omega)]
      refine congrArg (fun f => some (Sum.inl (nI (i + 1), sAs m f g))) (a₂ := fun k => if k < i + 1 then g k else f2 k) (funext fun k => ?_)
      unfold upd
      by_cases e : k = i
      · rw [if_pos e, if_pos (by omega), e]
        rfl
      · rw [if_neg e]
        show (if k < i then g k else f2 k) = _
        by_cases e2 : k < i
        · rw [if_pos e2, if_pos (by omega)]
        · rw [if_neg e2, if_neg (by omega)]) (by
      dsimp only
      unfold B_X3_lostIn_75
      rw [i_leT (Nat.le_refl _) (by omega)])
    rw [h0] at hq
    exact hq
  have hu := (uL_at hW hp h).1
  unfold F_X3_lostIn
  rw [l1, Option.bind_some, l2, Option.bind_some, Y_sum (s := sAs m f1 g) hM1 (by omega), Option.bind_some, e1, Option.bind_some]
  dsimp only
  rw [Y_sum (s := sNw (sAs m f1 g) f2) hM2 (by omega), Option.bind_some, s4_ln, hu, q_sub (by omega), Nat.add_sub_cancel_left]
  rw [show mWh (fun x : Int32 × ModS => B_X3_lostIn_75 (nI (uL p N h)) x.1 x.2) fuel0 (nI 0, sNw (sAs m f1 g) f2) = _ from l3 (nI (uL p N h)), Option.bind_some]
  refine ⟨_, g, rfl, RM.of (fun k hk => ?_)⟩
  show (if k < 637 then g k else f2 k) = _
  rw [if_pos (by omega), hg' k (by omega)]
  exact hM.g hk
/-- the fewest, and with which reserves -/
def bst (h : Nat) (N : Nat → Nat) : Nat → Nat × Nat
  | 0 => (0, uL 0 N h)
  | k + 1 => if (bst h N k).2 ≤ uL (k + 1) N h then bst h N k else (k + 1, uL (k + 1) N h)
theorem bst_le {h : Nat} (hW : WF B N) (hh : h ≤ 48) : ∀ k, k ≤ 30 → (bst h N k).2 ≤ 432
  | 0, _ => by
    have := (uL_at hW (p := 0) (by omega) h).2.2
    show uL 0 N h ≤ 432
    omega
  | k + 1, hk => by
    have h1 := bst_le hW hh k (by omega)
    have := (uL_at hW (p := k + 1) hk h).2.2
    unfold bst
    split
    · exact h1
    · show uL (k + 1) N h ≤ 432
      omega
theorem bst_0 {h k : Nat} (h0 : (bst h N k).2 = 0) : ∀ j, bst h N (k + j) = bst h N k
  | 0 => rfl
  | j + 1 => by
    have ih := bst_0 h0 j
    show (if (bst h N (k + j)).2 ≤ _ then bst h N (k + j) else _) = _
    rw [ih, if_pos (by omega)]
end
section
variable {B : Nat} {N : Nat → Nat} {len ns ln : Nat} {L : Nat → Nat → Nat} {T : Nat → Nat} {r : RouS} {m : ModS}
/-- would -/
theorem op_would (hB : B + 2000 < 1073741824) (h : TRp B N len ns L ln T r m) (p1 p2 : Int32) : OpR B (F_X2_would p1 p2 r) (F_X3_would p1 p2 m) := by
  have ⟨hW, hR, hM, _⟩ := h
  unfold F_X2_would F_X3_would
  rcases in2 p1 (lo := 1) (hi := 48) (by omega) (by omega) with ⟨k, rfl, hk1, hk, e3, e4⟩ | ⟨e3, e4⟩
  rotate_left
  · rw [e3, e4, Option.bind_some, Option.bind_some, if_pos rfl, if_pos rfl]
    exact OpR.bad h
  rw [e3, e4, Option.bind_some, Option.bind_some, if_neg q_1n0, if_neg q_1n0]
  rcases in2 p2 (lo := 0) (hi := 30) (by omega) (by omega) with ⟨p, rfl, _, hp, e5, e6⟩ | ⟨e5, e6⟩
  rotate_left
  · rw [e5, e6, Option.bind_some, Option.bind_some, i_neF rfl, if_pos rfl]
    exact OpR.bad h
  rw [e5, e6, Option.bind_some, Option.bind_some, if_pos q_1n0, if_neg q_1n0]
  obtain ⟨v, n', f1, f2, f3⟩ := X_rw hB hW hR (p := p) (h := k) (lim := 1000000) hp hk (by omega)
  obtain ⟨f, g, g1, g2⟩ := Y_lost hB hW hM (p := p) (h := k) hp hk
  have hv : v = uL p N k := f3.resolve_right (by omega)
  rw [f1, g1, Option.bind_some, Option.bind_some, hv]
  exact OpR.mk rfl ⟨N, len, ns, L, ln, T, hW, hR, g2, h.2.2.2⟩
theorem X_best (hB : B + 2000 < 1073741824) (hW : WF B N) (hR : RC (gR_now r) N) {k : Nat} (hk : k ≤ 48) (p2 : Int32) : ∃ n', mWh (fun x : Int32 × Int32 × Int32 × RouS => B_X2_best_35 (nI k) p2 x.1 x.2.1 x.2.2.1 x.2.2.2) fuel0 (nI 0, nI 1000000, nI 0, r) = some (nI (bst k N 30).1, nI (bst k N 30).2, sTri r n') := by
  have hl : ∃ z, mWh (fun x : Int32 × Int32 × Int32 × RouS => B_X2_best_35 (nI k) p2 x.1 x.2.1 x.2.2.1 x.2.2.2) fuel0 (nI 0, nI 1000000, nI 0, r) = some z ∧ ∃ n', z = (nI (bst k N 30).1, nI (bst k N 30).2, sTri r n') := by
    refine q_invx0 (I := fun i (x : Int32 × Int32 × Int32 × RouS) => ∃ n', x = (nI (if i = 0 then 0 else (bst k N (i - 1)).1), nI (if i = 0 then 1000000 else (bst k N (i - 1)).2), nI i, sTri r n')) (X := fun z : Int32 × Int32 × RouS => ∃ n', z = (nI (bst k N 30).1, nI (bst k N 30).2, sTri r n')) 31 (by omega) ⟨gR_tri r, rfl⟩ ?_ ?_
    · rintro i x hi ⟨n', rfl⟩
      dsimp only
      unfold B_X2_best_35
      rw [i_ltF (by omega) (by omega)]
      by_cases e0 : i = 0
      · subst e0
        left
        rw [if_pos rfl, if_pos rfl, i_leF (by omega) (by omega)]
        obtain ⟨v, n2, f1, f2, f3⟩ := X_rw (r := sTri r n') hB hW hR (p := 0) (h := k) (lim := 1000000) (by omega) hk (by omega)
        have hv : v = uL 0 N k := f3.resolve_right (by omega)
        rw [f1, Option.bind_some]
        dsimp only
        rw [i_leF (by omega) (by omega), q_add, hv]
        exact ⟨_, rfl, n2, rfl⟩
      · obtain ⟨j, rfl⟩ : ∃ j, i = j + 1 := ⟨i - 1, by omega⟩
        rw [if_neg e0, if_neg e0, Nat.add_sub_cancel]
        have hb := bst_le (h := k) hW hk j (by omega)
        by_cases ez : (bst k N j).2 = 0
        · right
          rw [i_leT (by omega) (by omega)]
          have hj := bst_0 ez (30 - j)
          rw [show j + (30 - j) = 30 by omega] at hj
          rw [hj]
          exact ⟨_, rfl, n', rfl⟩
        · left
          obtain ⟨v, n2, f1, f2, f3⟩ := X_rw (r := sTri r n') hB hW hR (p := j + 1) (h := k) (lim := (bst k N j).2) (by omega) hk (by omega)
          rw [i_leF (by omega) (by omega), f1, Option.bind_some]
          dsimp only
          have hst : bst k N (j + 1) = if (bst k N j).2 ≤ uL (j + 1) N k then bst k N j else (j + 1, uL (j + 1) N k) := rfl
          by_cases e2 : (bst k N j).2 ≤ v
          · rw [i_leT e2 (by omega), q_add]
            have e3 : (bst k N j).2 ≤ uL (j + 1) N k := by rcases f3 with q | q <;> omega
            rw [if_pos e3] at hst
            refine ⟨_, rfl, n2, ?_⟩
            rw [if_neg (by omega), if_neg (by omega), Nat.add_sub_cancel, hst]
            rfl
          · have hv : v = uL (j + 1) N k := f3.resolve_right (by omega)
            rw [i_leF (by omega) (by omega), q_add]
            rw [if_neg (by omega)] at hst
            refine ⟨_, rfl, n2, ?_⟩
            rw [if_neg (by omega), if_neg (by omega), Nat.add_sub_cancel, hst, hv]
            rfl
    · rintro x ⟨n', rfl⟩
      dsimp only
      unfold B_X2_best_35
      rw [i_ltT (by omega) (by omega)]
      exact ⟨_, rfl, n', rfl⟩
  obtain ⟨z, e1, n', rfl⟩ := hl
  exact ⟨n', e1⟩
theorem Y_best (hB : B + 2000 < 1073741824) (hW : WF B N) (hM : RM (gM_nw m) N) {k : Nat} (hk : k ≤ 48) (p2 : Int32) : ∃ f g, (F_X3_lostIn (nI k) (nI 0) m).bind (fun v9 => mWh (fun x : Int32 × Int32 × Int32 × ModS => B_X3_best_37 (nI k) p2 x.1 x.2.1 x.2.2.1 x.2.2.2) fuel0 (nI 0, v9.1, nI 1, v9.2)) = some (nI (bst k N 30).1, nI (bst k N 30).2, sAs m f g) ∧ RM f N := by
  obtain ⟨f0, g0, e1, e2⟩ := Y_lost hB hW hM (p := 0) (h := k) (by omega) hk
  rw [e1, Option.bind_some]
  have hl : ∃ z, mWh (fun x : Int32 × Int32 × Int32 × ModS => B_X3_best_37 (nI k) p2 x.1 x.2.1 x.2.2.1 x.2.2.2) fuel0 (nI 0, nI (uL 0 N k), nI 1, sAs m f0 g0) = some z ∧ ∃ f g, z = (nI (bst k N 30).1, nI (bst k N 30).2, sAs m f g) ∧ RM f N := by
    refine q_inv0 (I := fun i (x : Int32 × Int32 × Int32 × ModS) => ∃ f g, x = (nI (bst k N i).1, nI (bst k N i).2, nI (i + 1), sAs m f g) ∧ RM f N) (X := fun z : Int32 × Int32 × ModS => ∃ f g, z = (nI (bst k N 30).1, nI (bst k N 30).2, sAs m f g) ∧ RM f N) 30 (by omega) ⟨f0, g0, rfl, e2⟩ ?_ ?_
    · rintro i x hi ⟨f, g, rfl, hf⟩
      have hb := bst_le (h := k) hW hk i (by omega)
      have hu := (uL_at hW (p := i + 1) (by omega) k).2.2
      obtain ⟨f2, g2, q1, q2⟩ := Y_lost (m := sAs m f g) hB hW hf (p := i + 1) (h := k) (by omega) hk
      dsimp only
      unfold B_X3_best_37
      rw [i_leF (by omega) (by omega), q1, Option.bind_some]
      dsimp only
      unfold J_X3_best_66
      rw [q_add]
      have hst : bst k N (i + 1) = if (bst k N i).2 ≤ uL (i + 1) N k then bst k N i else (i + 1, uL (i + 1) N k) := rfl
      by_cases e : (bst k N i).2 ≤ uL (i + 1) N k
      · rw [i_leT e (by omega), i_leT e (by omega)]
        rw [if_pos e] at hst
        exact ⟨_, rfl, f2, g2, by rw [hst]; rfl, q2⟩
      · rw [i_leF (by omega) (by omega), i_leF (by omega) (by omega)]
        rw [if_neg e] at hst
        exact ⟨_, rfl, f2, g2, by rw [hst]; rfl, q2⟩
    · rintro x ⟨f, g, rfl, hf⟩
      dsimp only
      unfold B_X3_best_37
      rw [i_leT (Nat.le_refl _) (by omega)]
      exact ⟨_, rfl, f, g, rfl, hf⟩
  obtain ⟨z, q1, f, g, rfl, q2⟩ := hl
  exact ⟨f, g, q1, q2⟩
/-- best -/
theorem op_best (hB : B + 2000 < 1073741824) (h : TRp B N len ns L ln T r m) (p1 p2 : Int32) : OpR B (F_X2_best p1 p2 r) (F_X3_best p1 p2 m) := by
  have ⟨hW, hR, hM, _⟩ := h
  unfold F_X2_best F_X3_best
  rcases in2 p1 (lo := 1) (hi := 48) (by omega) (by omega) with ⟨k, rfl, hk1, hk, e3, e4⟩ | ⟨e3, e4⟩
  rotate_left
  · rw [e3, e4, Option.bind_some, Option.bind_some, if_pos rfl, if_pos rfl]
    exact OpR.bad h
  rw [e3, e4, Option.bind_some, Option.bind_some, if_neg q_1n0, if_neg q_1n0]
  rcases in2 p2 (lo := 0) (hi := 1) (by omega) (by omega) with ⟨w, rfl, _, hw, e5, e6⟩ | ⟨e5, e6⟩
  rotate_left
  · rw [e5, e6, Option.bind_some, Option.bind_some, i_neF rfl, i_neF rfl]
    exact OpR.bad h
  rw [e5, e6, Option.bind_some, Option.bind_some, if_pos q_1n0, if_pos q_1n0]
  obtain ⟨n', f1⟩ := X_best hB hW hR (k := k) hk (nI w)
  obtain ⟨f, g, g1, g2⟩ := Y_best hB hW hM (k := k) hk (nI w)
  obtain ⟨v9, q1, q2⟩ := bnd g1
  rw [f1, q1, Option.bind_some, Option.bind_some, q2, Option.bind_some]
  dsimp only
  split
  · exact OpR.mk rfl ⟨N, len, ns, L, ln, T, hW, hR, g2, h.2.2.2⟩
  · exact OpR.mk rfl ⟨N, len, ns, L, ln, T, hW, hR, g2, h.2.2.2⟩
end
