/-- an order as both keep it -/
def OD (n : Nat) (g g' : Nat → Int32) (k : Nat) : Prop := (∃ v, v ≤ 99 ∧ g k = nI 43 ∧ g (k + 3) = nI v ∧ g' k = nI 43 ∧ g' (k + 1) = nI v) ∨ (∃ a b v, a < n ∧ b < n ∧ a ≠ b ∧ 1 ≤ v ∧ v ≤ 24 ∧ g k = nI 48 ∧ g (k + 1) = nI a ∧ g (k + 2) = nI b ∧ g (k + 3) = nI v ∧ g' k = nI 99 ∧ g' (k + 1) = nI a ∧ g' (k + 2) = nI b ∧ g' (k + 3) = nI v) ∨ (∃ a v, a ≤ 23 ∧ v ≤ 9 ∧ g k = nI 112 ∧ g (k + 1) = nI a ∧ g (k + 3) = nI v ∧ g' k = nI 112 ∧ g' (k + 1) = nI a ∧ g' (k + 2) = nI v) ∨ (∃ c a b v, (c = 114 ∨ c = 119) ∧ a < n ∧ b < n ∧ a ≠ b ∧ v ≤ 30 ∧ g k = nI c ∧ g (k + 1) = nI a ∧ g (k + 2) = nI b ∧ g (k + 3) = nI v ∧ g' k = nI c ∧ g' (k + 1) = nI a ∧ g' (k + 2) = nI b ∧ g' (k + 3) = nI v) ∨ (∃ v, v ≤ 1 ∧ g k = nI 120 ∧ g (k + 3) = nI v ∧ g' k = nI 120 ∧ g' (k + 1) = nI v)
theorem OD.eq {n : Nat} {g g' f f' : Nat → Int32} {k : Nat} (h : OD n g g' k) (h1 : ∀ j, j < 4 → f (k + j) = g (k + j)) (h2 : ∀ j, j < 4 → f' (k + j) = g' (k + j)) : OD n f f' k := by
  have a0 := h1 0 (by omega)
  have a1 := h1 1 (by omega)
  have a2 := h1 2 (by omega)
  have a3 := h1 3 (by omega)
  have b0 := h2 0 (by omega)
  have b1 := h2 1 (by omega)
  have b2 := h2 2 (by omega)
  have b3 := h2 3 (by omega)
  rw [Nat.add_zero] at a0 b0
  unfold OD at h ⊢
  rw [a0, a1, a2, a3, b0, b1, b2, b3]
  exact h
theorem u_s {f : Nat → Int32} {k : Nat} {v : Int32} : upd f k v k = v := if_pos rfl
theorem u_n {f : Nat → Int32} {k j : Nat} {v : Int32} (h : j ≠ k) : upd f k v j = f j := if_neg h
section
variable {od : Nat → Int32} {k : Nat} {a b c d : Int32}
theorem w4_0 : w4 od k a b c d k = a := by unfold w4; rw [u_n (by omega), u_n (by omega), u_n (by omega), u_s]
theorem w4_1 : w4 od k a b c d (k + 1) = b := by unfold w4; rw [u_n (by omega), u_n (by omega), u_s]
theorem w4_2 : w4 od k a b c d (k + 2) = c := by unfold w4; rw [u_n (by omega), u_s]
theorem w4_3 : w4 od k a b c d (k + 3) = d := by unfold w4; rw [u_s]
theorem w4_n {j : Nat} (h : j < k) : w4 od k a b c d j = od j := by unfold w4; rw [u_n (by omega), u_n (by omega), u_n (by omega), u_n (by omega)]
end
section
variable {ln : Nat} {T : Nat → Nat} {t : TextS} {m : ModS} {oc ft ft' mn : Int32} {od od' : Nat → Int32}
theorem pM_adv {aa ft mn : Int32} {k : Nat} {v : Int32} : mkM (gM_ss (pM m aa ft mn od)) (gM_ty (pM m aa ft mn od)) (gM_at (pM m aa ft mn od) + nI 1) (gM_ft (pM m aa ft mn od)) (gM_mn (pM m aa ft mn od)) (gM_bd (pM m aa ft mn od)) (gM_no (pM m aa ft mn od)) (gM_fu (pM m aa ft mn od)) (gM_nw (pM m aa ft mn od)) (gM_as (pM m aa ft mn od)) (gM_pa (pM m aa ft mn od)) (gM_tx (pM m aa ft mn od)) (upd (gM_od (pM m aa ft mn od)) k v) = pM m (aa + nI 1) ft mn (upd od k v) := rfl
theorem pM_adv0 {aa ft mn : Int32} : mkM (gM_ss (pM m aa ft mn od)) (gM_ty (pM m aa ft mn od)) (gM_at (pM m aa ft mn od) + nI 1) (gM_ft (pM m aa ft mn od)) (gM_mn (pM m aa ft mn od)) (gM_bd (pM m aa ft mn od)) (gM_no (pM m aa ft mn od)) (gM_fu (pM m aa ft mn od)) (gM_nw (pM m aa ft mn od)) (gM_as (pM m aa ft mn od)) (gM_pa (pM m aa ft mn od)) (gM_tx (pM m aa ft mn od)) (gM_od (pM m aa ft mn od)) = pM m (aa + nI 1) ft mn od := rfl
theorem pM_sty {aa ft mn : Int32} {k : Nat} {v : Int32} : mkM (gM_ss (pM m aa ft mn od)) (gM_ty (pM m aa ft mn od)) (gM_at (pM m aa ft mn od)) (gM_ft (pM m aa ft mn od)) (gM_mn (pM m aa ft mn od)) (gM_bd (pM m aa ft mn od)) (gM_no (pM m aa ft mn od)) (gM_fu (pM m aa ft mn od)) (gM_nw (pM m aa ft mn od)) (gM_as (pM m aa ft mn od)) (gM_pa (pM m aa ft mn od)) (gM_tx (pM m aa ft mn od)) (upd (gM_od (pM m aa ft mn od)) k v) = pM m aa ft mn (upd od k v) := rfl
/-- what an order leaves -/
def PO (n i : Nat) (od od' : Nat → Int32) (g g' : Nat → Int32) : Prop := (∀ j, j < 4 * i → g j = od j) ∧ (∀ j, j < 4 * i → g' j = od' j) ∧ OD n g g' (4 * i)
theorem t_ord (h : TX ln T t m) {i p n : Nat} (hi : i < 40) (hp : p < ln) (hs : T p ≠ 32) (hn : gT_tn t = nI n) (hw : gM_nw m 0 = nI n) (h1n : 1 ≤ n) (h2n : n ≤ 10) : OdR ln t m oc i (p + 3) (F_X1_readOrder (nI (4 * i)) (pT t oc (nI p) (-nI 1) od)) (F_X3_order (pM m (nI p) (-nI 1) (nI i) od')) (PO n i od od') := by
  have ⟨h1, h2, h3, h4⟩ := h
  obtain ⟨g1, g2, g3⟩ := h4 p hp
  unfold F_X1_readOrder F_X1_readKind F_X3_order
  rw [pT_pl, pT_by, q_gI (by omega) (by omega), q_cl (by omega), g2, (t_isf _ (by omega)).1, Option.bind_some, t_sg h (by omega) (Or.inr hs), Option.bind_some, show cAt ln T p = nI (T p) from if_pos hp]
  dsimp only
  rw [q_gI (by omega) (by omega), pM_nw, q_cl (by omega), hw, q_sub h1n, pM_mn, q_mul, (t_isf _ (by omega)).2, Option.bind_some]
  by_cases c0 : 48 ≤ T p ∧ T p ≤ 57
  · rw [if_pos c0, if_neg q_1n0, if_neg q_1n0, Option.bind_some]
    unfold J_X3_order_39
    rw [q_gI (by omega) (by omega), q_cl (by omega), (t_isf _ (by omega)).2, Option.bind_some, if_pos c0, if_neg q_1n0]
    dsimp only
    rw [i_eqF (show (48 : Nat) ≠ 43 by omega) (by omega) (by omega), i_eqT rfl, pM_sty]
    exact k_tt h (p := p) (od := od) (od' := upd od' (4 * i) (nI 99)) (P := PO n i od od') (kc := nI 48) (lo := 1) (hi := 24) hi (by omega) hn h1n h2n (by omega) (by omega) rfl (fun a b v ha hb hab hv hv2 => ⟨fun j hj => w4_n hj, fun j hj => by rw [u_n (by omega), u_n (by omega), u_n (by omega), u_n (by omega)], Or.inr (Or.inl ⟨a, b, v, ha, hb, hab, hv, hv2, w4_0, w4_1, w4_2, w4_3, by rw [u_n (by omega), u_n (by omega), u_n (by omega), u_s], by rw [u_n (by omega), u_n (by omega), u_s], by rw [u_n (by omega), u_s], u_s⟩)⟩)
  rw [if_neg c0, if_pos rfl, if_pos rfl, Option.bind_some]
  unfold J_X3_order_39
  rw [q_gI (by omega) (by omega), q_cl (by omega), (t_isf _ (by omega)).2, Option.bind_some, if_neg c0, if_pos rfl]
  dsimp only
  rw [pM_adv, pM_sty, q_add p 1, show mkT (gT_ln (pT t oc (nI p) (-nI 1) od)) (gT_oc (pT t oc (nI p) (-nI 1) od)) (gT_tn (pT t oc (nI p) (-nI 1) od)) (nI (p + 1)) (gT_ft (pT t oc (nI p) (-nI 1) od)) (gT_by t) (gT_od (pT t oc (nI p) (-nI 1) od)) = pT t oc (nI (p + 1)) (-nI 1) od from rfl]
  have hv : ∀ c hi', c < 4294967296 → (∀ v, v ≤ hi' → OD n (w4 od (4 * i) (nI c) (nI 0) (nI 0) (nI v)) (upd (upd od' (4 * i) (nI c)) (4 * i + 1) (nI v)) (4 * i)) → ∀ v, v ≤ hi' → PO n i od od' (w4 od (4 * i) (nI c) (nI 0) (nI 0) (nI v)) (upd (upd od' (4 * i) (nI c)) (4 * i + 1) (nI v)) := fun c hi' _ q v hv => ⟨fun j hj => w4_n hj, fun j hj => by rw [u_n (by omega), u_n (by omega)], q v hv⟩
  have htt : ∀ c, c = 114 ∨ c = 119 → ∀ a b v, a < n → b < n → a ≠ b → 0 ≤ v → v ≤ 30 → PO n i od od' (w4 od (4 * i) (nI c) (nI a) (nI b) (nI v)) (upd (upd (upd (upd od' (4 * i) (nI c)) (4 * i + 1) (nI a)) (4 * i + 2) (nI b)) (4 * i + 3) (nI v)) := fun c hc a b v ha hb hab _ hv2 => ⟨fun j hj => w4_n hj, fun j hj => by rw [u_n (by omega), u_n (by omega), u_n (by omega), u_n (by omega)], Or.inr (Or.inr (Or.inr (Or.inl ⟨c, a, b, v, hc, ha, hb, hab, hv2, w4_0, w4_1, w4_2, w4_3, by rw [u_n (by omega), u_n (by omega), u_n (by omega), u_s], by rw [u_n (by omega), u_n (by omega), u_s], by rw [u_n (by omega), u_s], u_s⟩)))⟩
  by_cases c1 : T p = 43
  · rw [c1, i_eqT rfl, i_neF rfl]
    exact k_num h hi (by omega) (by omega) (hv 43 99 (by omega) (fun v hv => Or.inl ⟨v, hv, w4_0, w4_3, by rw [u_n (by omega), u_s], u_s⟩))
  rw [i_eqF c1 (by omega) (by omega), i_neT c1 (by omega) (by omega), i_eqF (show T p ≠ 48 by omega) (by omega) (by omega)]
  by_cases c2 : T p = 112
  · rw [c2, i_eqT rfl, i_eqF (show (112 : Nat) ≠ 119 by omega) (by omega) (by omega), i_neT (show (112 : Nat) ≠ 114 by omega) (by omega) (by omega), i_neF rfl]
    exact (k_two h hi (by omega) (fun a v ha hv => ⟨fun j hj => w4_n hj, fun j hj => by rw [u_n (by omega), u_n (by omega), u_n (by omega)], Or.inr (Or.inr (Or.inl ⟨a, v, ha, hv, w4_0, w4_1, w4_3, by rw [u_n (by omega), u_n (by omega), u_s], by rw [u_n (by omega), u_s], u_s⟩))⟩)).le (by omega)
  rw [i_eqF c2 (by omega) (by omega), i_neT c2 (by omega) (by omega)]
  by_cases c3 : T p = 114
  · rw [c3, i_eqT rfl, i_eqF (show (114 : Nat) ≠ 119 by omega) (by omega) (by omega), i_neF rfl]
    unfold J_X3_order_158
    rw [pM_adv0, q_add p 1]
    exact (k_tt h (lo := 0) (hi := 30) hi (by omega) hn h1n h2n (by omega) (by omega) rfl (htt 114 (Or.inl rfl))).le (by omega)
  rw [i_eqF c3 (by omega) (by omega), i_neT c3 (by omega) (by omega)]
  by_cases c4 : T p = 119
  · rw [c4, i_eqT rfl, i_eqT rfl]
    unfold J_X3_order_158
    rw [pM_adv0, q_add p 1]
    exact (k_tt h (lo := 0) (hi := 30) hi (by omega) hn h1n h2n (by omega) (by omega) rfl (htt 119 (Or.inr rfl))).le (by omega)
  rw [i_eqF c4 (by omega) (by omega), i_eqF c4 (by omega) (by omega)]
  by_cases c5 : T p = 120
  · rw [c5, i_eqT rfl, i_neF rfl]
    exact k_fig h hi (by omega) (hv 120 1 (by omega) (fun v hv => Or.inr (Or.inr (Or.inr (Or.inr ⟨v, hv, w4_0, w4_3, by rw [u_n (by omega), u_s], u_s⟩)))))
  rw [i_eqF c5 (by omega) (by omega), i_neT c5 (by omega) (by omega), pM_at, Y_fails, Option.bind_some, pT_pl, q_sub (by omega)]
  exact t_ef h1 (by omega) (f := p) (pl := p + 1) (by omega) (by omega)
/-- an order where the text is at its end -/
theorem t_orn (h : TX ln T t m) {i n : Nat} (hi : i < 40) (hw : gM_nw m 0 = nI n) (h1n : 1 ≤ n) : ∃ aa mn od2, F_X3_order (pM m (nI ln) (-nI 1) (nI i) od') = some (pM m aa (nI ln) mn od2) := by
  have ⟨h1, h2, h3, h4⟩ := h
  unfold F_X3_order
  rw [t_sg h (Nat.le_refl _) (Or.inl rfl), Option.bind_some, show cAt ln T ln = -nI 1 from if_neg (by omega)]
  dsimp only
  rw [q_gI (by omega) (by omega), pM_mn, q_mul, t_isn, Option.bind_some, if_pos rfl]
  unfold J_X3_order_39
  rw [q_gI (by omega) (by omega), q_cl (by omega), t_isn, Option.bind_some, if_pos rfl, q_n1, i_neT (show (4294967295 : Nat) ≠ 43 by omega) (by omega) (by omega), i_eqF (show (4294967295 : Nat) ≠ 119 by omega) (by omega) (by omega), i_neT (show (4294967295 : Nat) ≠ 114 by omega) (by omega) (by omega), i_neT (show (4294967295 : Nat) ≠ 112 by omega) (by omega) (by omega), i_neT (show (4294967295 : Nat) ≠ 120 by omega) (by omega) (by omega), ← q_n1, pM_sty, pM_at, Y_fails, Option.bind_some]
  refine ⟨nI ln + nI 1, nI i + nI 1, upd od' (nI (4 * i)).toNatClampNeg (-nI 1), ?_⟩
  unfold J_X3_order_335
  rw [pM_ft, if_pos (q_nf (by omega)), Y_360]
end
