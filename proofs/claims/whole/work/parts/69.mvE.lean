/-! THE REFERENCE forgets exceptions -/
section GES
variable {w : hy_W} {ft : Int32} {l td lc oth sz : Nat} {o z a v : Nat → Int32} {M : List (Nat × hy_U)}
theorem p_M_mvEa (hw : 59 < w.1.length) {c : Nat} (h40 : w.1[40]? = some (oc_M ft l td lc oth c sz)) {p q : Nat} (hp : p < 40) (hq : q ≤ p) : ∀ (d k : Nat), 40 - k = d → k ≤ 40 → hy_fx nx_M_moveException (26, [.ref 40, .int (nI p), .int (nI q), .int (nI k)], hy_tE w o z (hy_apd (40 * q) k (hy_ro 40 p a) a) v) = hy_fx nx_M_moveException (62, [.ref 40, .int (nI p), .int (nI q), .int (nI 0)], hy_tE w o z (hy_apd (40 * q) 40 (hy_ro 40 p a) a) v)
  | 0, k, hd, hk => by
    rw [ev_M_moveException_26]
    have e : k = 40 := by omega
    subst e
    simp (disch := omega) only [e_gi, e_gr, e_ob, e_ai, e_ar, e_ln, e_pf, e_pa, wr_eq, wr_ne, wr_wr, Option.map_some, Option.bind_some, hy_bi_s, hy_br_s, hy_bv_s, hy_xi_s, hy_xi_t, hy_xv_s, hy_xv_t, hy_k_l, hy_k_r, ia_ai, ia_pa, ia_ln, oc_a_ar, oc_o_pa, oc_r_ln, n_le_t, n_le_f, n_lt_t, n_lt_f, n_eq_t, n_eq_f, nI_add, pk_mul, n_sub, n_prd, ne_1, hy_b_t, hy_b_f, ↓reduceIte, true_or, or_true, Bool.false_eq_true, or_false, false_or, and_true, true_and, and_false, false_and, li_c, li_0, li_1, li_2, li_3, li_4, li_5, li_6, li_10, li_11, li_16, li_17, li_20, li_40, li_41, li_300, li_400, oc_H_ob, oc_H_g0, oc_H_g1, oc_H_g2, oc_H_g3, oc_H_g4, oc_H_p5, oc_H_g5, oc_N_ob, oc_N_g0, oc_N_p1, oc_N_g1, oc_N_g2, oc_N_p3, oc_N_g3, oc_D_ob, oc_D_g0, oc_D_g1, oc_D_p2, oc_D_g2, oc_G_ob, oc_G_g0, oc_G_g1, oc_G_p2, oc_G_g2, oc_G_p3, oc_G_g3, oc_G_p4, oc_G_g4, oc_L_ob, oc_L_g0, oc_L_g1, oc_L_g2, oc_L_g3, oc_L_g4, oc_L_p5, oc_L_g5, oc_L_p6, oc_L_g6, oc_L_p7, oc_L_g7, oc_A_ob, oc_A_g0, oc_A_p1, oc_A_g1, oc_A_p2, oc_A_g2, oc_A_p0, oc_U_ob, oc_U_g0, oc_U_g1, oc_M_ob, oc_M_p0, oc_M_g0, oc_M_p1, oc_M_g1, oc_M_g2, oc_M_g3, oc_M_g4, oc_M_g5, oc_M_g6, oc_M_g7, oc_M_p8, oc_M_g8, oc_M_g9, oc_M_g10, oc_M_p11, oc_M_g11, oc_M_g12, oc_M_g13, oc_M_p14, oc_M_g14, oc_M_g15, oc_M_g16, oc_M_g17, oc_M_g18, oc_M_p19, oc_M_g19, oc_M_g20, oc_M_g21, oc_M_g22, oc_M_g23, oc_M_p24, oc_M_g24, oc_M_g25, sg_M_moveException_26]
  | d + 1, k, hd, hk => by
    have k40 := (tE_ne (w := w) (o := o) (z := z) (a := hy_apd (40 * q) k (hy_ro 40 p a) a) (v := v) (k := 40) (by omega)).trans h40
    have ih := p_M_mvEa hw h40 hp hq d (k + 1) (by omega) (by omega)
    have e : hy_apd (40 * q) k (hy_ro 40 p a) a (40 * p + k) = hy_ro 40 p a k := by
      unfold hy_apd
      rw [if_neg (by omega)]; rfl
    rw [ev_M_moveException_26, ← ih]
    simp (disch := omega) only [e_gi, e_gr, e_ob, e_ai, e_ar, e_ln, e_pf, e_pa, wr_eq, wr_ne, wr_wr, Option.map_some, Option.bind_some, hy_bi_s, hy_br_s, hy_bv_s, hy_xi_s, hy_xi_t, hy_xv_s, hy_xv_t, hy_k_l, hy_k_r, ia_ai, ia_pa, ia_ln, oc_a_ar, oc_o_pa, oc_r_ln, n_le_t, n_le_f, n_lt_t, n_lt_f, n_eq_t, n_eq_f, nI_add, pk_mul, n_sub, n_prd, ne_1, hy_b_t, hy_b_f, ↓reduceIte, true_or, or_true, Bool.false_eq_true, or_false, false_or, and_true, true_and, and_false, false_and, li_c, li_0, li_1, li_2, li_3, li_4, li_5, li_6, li_10, li_11, li_16, li_17, li_20, li_40, li_41, li_300, li_400, oc_H_ob, oc_H_g0, oc_H_g1, oc_H_g2, oc_H_g3, oc_H_g4, oc_H_p5, oc_H_g5, oc_N_ob, oc_N_g0, oc_N_p1, oc_N_g1, oc_N_g2, oc_N_p3, oc_N_g3, oc_D_ob, oc_D_g0, oc_D_g1, oc_D_p2, oc_D_g2, oc_G_ob, oc_G_g0, oc_G_g1, oc_G_p2, oc_G_g2, oc_G_p3, oc_G_g3, oc_G_p4, oc_G_g4, oc_L_ob, oc_L_g0, oc_L_g1, oc_L_g2, oc_L_g3, oc_L_g4, oc_L_p5, oc_L_g5, oc_L_p6, oc_L_g6, oc_L_p7, oc_L_g7, oc_A_ob, oc_A_g0, oc_A_p1, oc_A_g1, oc_A_p2, oc_A_g2, oc_A_p0, oc_U_ob, oc_U_g0, oc_U_g1, oc_M_ob, oc_M_p0, oc_M_g0, oc_M_p1, oc_M_g1, oc_M_g2, oc_M_g3, oc_M_g4, oc_M_g5, oc_M_g6, oc_M_g7, oc_M_p8, oc_M_g8, oc_M_g9, oc_M_g10, oc_M_p11, oc_M_g11, oc_M_g12, oc_M_g13, oc_M_p14, oc_M_g14, oc_M_g15, oc_M_g16, oc_M_g17, oc_M_g18, oc_M_p19, oc_M_g19, oc_M_g20, oc_M_g21, oc_M_g22, oc_M_g23, oc_M_p24, oc_M_g24, oc_M_g25, sg_M_moveException_26, k40, tE_2, e, tE_w2, apd_up]
theorem p_M_mvEb (hw : 59 < w.1.length) {c : Nat} (h40 : w.1[40]? = some (oc_M ft l td lc oth c sz)) {p q : Nat} (hp : p < 40) (hq : q ≤ p) : ∀ (d k : Nat), 41 - k = d → k ≤ 41 → hy_fx nx_M_moveException (62, [.ref 40, .int (nI p), .int (nI q), .int (nI k)], hy_tE w o z a (hy_apd (41 * q) k (hy_ro 41 p v) v)) = some (.inl none, hy_tE w o z a (hy_apd (41 * q) 41 (hy_ro 41 p v) v))
  | 0, k, hd, hk => by
    rw [ev_M_moveException_62]
    have e : k = 41 := by omega
    subst e
    simp (disch := omega) only [e_gi, e_gr, e_ob, e_ai, e_ar, e_ln, e_pf, e_pa, wr_eq, wr_ne, wr_wr, Option.map_some, Option.bind_some, hy_bi_s, hy_br_s, hy_bv_s, hy_xi_s, hy_xi_t, hy_xv_s, hy_xv_t, hy_k_l, hy_k_r, ia_ai, ia_pa, ia_ln, oc_a_ar, oc_o_pa, oc_r_ln, n_le_t, n_le_f, n_lt_t, n_lt_f, n_eq_t, n_eq_f, nI_add, pk_mul, n_sub, n_prd, ne_1, hy_b_t, hy_b_f, ↓reduceIte, true_or, or_true, Bool.false_eq_true, or_false, false_or, and_true, true_and, and_false, false_and, li_c, li_0, li_1, li_2, li_3, li_4, li_5, li_6, li_10, li_11, li_16, li_17, li_20, li_40, li_41, li_300, li_400, oc_H_ob, oc_H_g0, oc_H_g1, oc_H_g2, oc_H_g3, oc_H_g4, oc_H_p5, oc_H_g5, oc_N_ob, oc_N_g0, oc_N_p1, oc_N_g1, oc_N_g2, oc_N_p3, oc_N_g3, oc_D_ob, oc_D_g0, oc_D_g1, oc_D_p2, oc_D_g2, oc_G_ob, oc_G_g0, oc_G_g1, oc_G_p2, oc_G_g2, oc_G_p3, oc_G_g3, oc_G_p4, oc_G_g4, oc_L_ob, oc_L_g0, oc_L_g1, oc_L_g2, oc_L_g3, oc_L_g4, oc_L_p5, oc_L_g5, oc_L_p6, oc_L_g6, oc_L_p7, oc_L_g7, oc_A_ob, oc_A_g0, oc_A_p1, oc_A_g1, oc_A_p2, oc_A_g2, oc_A_p0, oc_U_ob, oc_U_g0, oc_U_g1, oc_M_ob, oc_M_p0, oc_M_g0, oc_M_p1, oc_M_g1, oc_M_g2, oc_M_g3, oc_M_g4, oc_M_g5, oc_M_g6, oc_M_g7, oc_M_p8, oc_M_g8, oc_M_g9, oc_M_g10, oc_M_p11, oc_M_g11, oc_M_g12, oc_M_g13, oc_M_p14, oc_M_g14, oc_M_g15, oc_M_g16, oc_M_g17, oc_M_g18, oc_M_p19, oc_M_g19, oc_M_g20, oc_M_g21, oc_M_g22, oc_M_g23, oc_M_p24, oc_M_g24, oc_M_g25, sg_M_moveException_62]
  | d + 1, k, hd, hk => by
    have k40 := (tE_ne (w := w) (o := o) (z := z) (a := a) (v := hy_apd (41 * q) k (hy_ro 41 p v) v) (k := 40) (by omega)).trans h40
    have ih := p_M_mvEb hw h40 hp hq d (k + 1) (by omega) (by omega)
    have e : hy_apd (41 * q) k (hy_ro 41 p v) v (41 * p + k) = hy_ro 41 p v k := by
      unfold hy_apd
      rw [if_neg (by omega)]; rfl
    rw [ev_M_moveException_62, ← ih]
    simp (disch := omega) only [e_gi, e_gr, e_ob, e_ai, e_ar, e_ln, e_pf, e_pa, wr_eq, wr_ne, wr_wr, Option.map_some, Option.bind_some, hy_bi_s, hy_br_s, hy_bv_s, hy_xi_s, hy_xi_t, hy_xv_s, hy_xv_t, hy_k_l, hy_k_r, ia_ai, ia_pa, ia_ln, oc_a_ar, oc_o_pa, oc_r_ln, n_le_t, n_le_f, n_lt_t, n_lt_f, n_eq_t, n_eq_f, nI_add, pk_mul, n_sub, n_prd, ne_1, hy_b_t, hy_b_f, ↓reduceIte, true_or, or_true, Bool.false_eq_true, or_false, false_or, and_true, true_and, and_false, false_and, li_c, li_0, li_1, li_2, li_3, li_4, li_5, li_6, li_10, li_11, li_16, li_17, li_20, li_40, li_41, li_300, li_400, oc_H_ob, oc_H_g0, oc_H_g1, oc_H_g2, oc_H_g3, oc_H_g4, oc_H_p5, oc_H_g5, oc_N_ob, oc_N_g0, oc_N_p1, oc_N_g1, oc_N_g2, oc_N_p3, oc_N_g3, oc_D_ob, oc_D_g0, oc_D_g1, oc_D_p2, oc_D_g2, oc_G_ob, oc_G_g0, oc_G_g1, oc_G_p2, oc_G_g2, oc_G_p3, oc_G_g3, oc_G_p4, oc_G_g4, oc_L_ob, oc_L_g0, oc_L_g1, oc_L_g2, oc_L_g3, oc_L_g4, oc_L_p5, oc_L_g5, oc_L_p6, oc_L_g6, oc_L_p7, oc_L_g7, oc_A_ob, oc_A_g0, oc_A_p1, oc_A_g1, oc_A_p2, oc_A_g2, oc_A_p0, oc_U_ob, oc_U_g0, oc_U_g1, oc_M_ob, oc_M_p0, oc_M_g0, oc_M_p1, oc_M_g1, oc_M_g2, oc_M_g3, oc_M_g4, oc_M_g5, oc_M_g6, oc_M_g7, oc_M_p8, oc_M_g8, oc_M_g9, oc_M_g10, oc_M_p11, oc_M_g11, oc_M_g12, oc_M_g13, oc_M_p14, oc_M_g14, oc_M_g15, oc_M_g16, oc_M_g17, oc_M_g18, oc_M_p19, oc_M_g19, oc_M_g20, oc_M_g21, oc_M_g22, oc_M_g23, oc_M_p24, oc_M_g24, oc_M_g25, sg_M_moveException_62, k40, tE_3, e, tE_w3, apd_up]
theorem p_M_moveException (hw : 59 < w.1.length) {c : Nat} (h40 : w.1[40]? = some (oc_M ft l td lc oth c sz)) {p q : Nat} (hp : p < 40) (hq : q ≤ p) : f_M_moveException [.ref 40, .int (nI p), .int (nI q)] (hy_tE w o z a v) = some (.inl none, hy_tE w (hy_up o q (o p)) (hy_up z q (z p)) (hy_apd (40 * q) 40 (hy_ro 40 p a) a) (hy_apd (41 * q) 41 (hy_ro 41 p v) v)) := by
  have e1 := p_M_mvEa (o := hy_up o q (o p)) (z := hy_up z q (z p)) (a := a) (v := v) hw h40 hp hq 40 0 (by omega) (by omega)
  have e2 := p_M_mvEb (o := hy_up o q (o p)) (z := hy_up z q (z p)) (a := hy_apd (40 * q) 40 (hy_ro 40 p a) a) (v := v) hw h40 hp hq 41 0 (by omega) (by omega)
  rw [apd_0] at e1 e2
  have k40 : ∀ o z, (hy_tE w o z a v).1[40]? = some (oc_M ft l td lc oth c sz) := fun o z => (tE_ne (by omega)).trans h40
  rw [← e2, ← e1, f_M_moveException, ev_M_moveException_0]
  simp (disch := omega) only [e_gi, e_gr, e_ob, e_ai, e_ar, e_ln, e_pf, e_pa, wr_eq, wr_ne, wr_wr, Option.map_some, Option.bind_some, hy_bi_s, hy_br_s, hy_bv_s, hy_xi_s, hy_xi_t, hy_xv_s, hy_xv_t, hy_k_l, hy_k_r, ia_ai, ia_pa, ia_ln, oc_a_ar, oc_o_pa, oc_r_ln, n_le_t, n_le_f, n_lt_t, n_lt_f, n_eq_t, n_eq_f, nI_add, pk_mul, n_sub, n_prd, ne_1, hy_b_t, hy_b_f, ↓reduceIte, true_or, or_true, Bool.false_eq_true, or_false, false_or, and_true, true_and, and_false, false_and, li_c, li_0, li_1, li_2, li_3, li_4, li_5, li_6, li_10, li_11, li_16, li_17, li_20, li_40, li_41, li_300, li_400, oc_H_ob, oc_H_g0, oc_H_g1, oc_H_g2, oc_H_g3, oc_H_g4, oc_H_p5, oc_H_g5, oc_N_ob, oc_N_g0, oc_N_p1, oc_N_g1, oc_N_g2, oc_N_p3, oc_N_g3, oc_D_ob, oc_D_g0, oc_D_g1, oc_D_p2, oc_D_g2, oc_G_ob, oc_G_g0, oc_G_g1, oc_G_p2, oc_G_g2, oc_G_p3, oc_G_g3, oc_G_p4, oc_G_g4, oc_L_ob, oc_L_g0, oc_L_g1, oc_L_g2, oc_L_g3, oc_L_g4, oc_L_p5, oc_L_g5, oc_L_p6, oc_L_g6, oc_L_p7, oc_L_g7, oc_A_ob, oc_A_g0, oc_A_p1, oc_A_g1, oc_A_p2, oc_A_g2, oc_A_p0, oc_U_ob, oc_U_g0, oc_U_g1, oc_M_ob, oc_M_p0, oc_M_g0, oc_M_p1, oc_M_g1, oc_M_g2, oc_M_g3, oc_M_g4, oc_M_g5, oc_M_g6, oc_M_g7, oc_M_p8, oc_M_g8, oc_M_g9, oc_M_g10, oc_M_p11, oc_M_g11, oc_M_g12, oc_M_g13, oc_M_p14, oc_M_g14, oc_M_g15, oc_M_g16, oc_M_g17, oc_M_g18, oc_M_p19, oc_M_g19, oc_M_g20, oc_M_g21, oc_M_g22, oc_M_g23, oc_M_p24, oc_M_g24, oc_M_g25, sg_M_moveException_0, k40, tE_0, tE_w0, tE_1, tE_w1]
theorem mvE_q {p q : Nat} {e : Nat × hy_U} (h : hy_TR 40 o z a v p e) : hy_TR 40 (hy_up o q (o p)) (hy_up z q (z p)) (hy_apd (40 * q) 40 (hy_ro 40 p a) a) (hy_apd (41 * q) 41 (hy_ro 41 p v) v) q e := by
  obtain ⟨t1, t2, t3, t4, t5, t6, t7, t8⟩ := h
  refine ⟨by rw [up_eq]; exact t1, by rw [up_eq]; exact t2, fun k hk => ?_, fun k hk => ?_, t5, t6, t7, t8⟩
  · unfold hy_apd hy_ro
    rw [if_pos (by omega), show 40 * p + (0 + (40 * q + k - 40 * q)) = 40 * p + k by omega]
    exact t3 k hk
  · unfold hy_apd hy_ro
    rw [if_pos (by omega), show 41 * p + (0 + ((40 + 1) * q + k - 41 * q)) = (40 + 1) * p + k by omega]
    exact t4 k hk
theorem mvE_n {p q i : Nat} {e : Nat × hy_U} (hi : i ≠ q) (h : hy_TR 40 o z a v i e) : hy_TR 40 (hy_up o q (o p)) (hy_up z q (z p)) (hy_apd (40 * q) 40 (hy_ro 40 p a) a) (hy_apd (41 * q) 41 (hy_ro 41 p v) v) i e := by
  obtain ⟨t1, t2, t3, t4, t5, t6, t7, t8⟩ := h
  have hip : i < q ∨ q < i := by omega
  refine ⟨by rw [up_ne hi]; exact t1, by rw [up_ne hi]; exact t2, fun k hk => ?_, fun k hk => ?_, t5, t6, t7, t8⟩
  · unfold hy_apd
    rw [if_neg (by omega)]
    exact t3 k hk
  · unfold hy_apd
    rw [if_neg (by omega)]
    exact t4 k hk
theorem p_M_fgE (hw : 59 < w.1.length) (h40 : w.1[40]? = some (oc_M ft l td lc oth M.length sz)) (hl : l < 4) (hM : M.length ≤ 40) (g : Int32) : ∀ (d p : Nat) (o z a v : Nat → Int32) (Fl : List (Nat × hy_U)), M.length - p = d → p ≤ M.length → Fl.length ≤ p → (∀ (i : Nat) (e : Nat × hy_U), Fl[i]? = some e → hy_TR 40 o z a v i e) → (∀ (i : Nat) (e : Nat × hy_U), p ≤ i → M[i]? = some e → hy_TR 40 o z a v i e) → ∃ o' z' a' v', hy_fx nx_M_forget (61, [.ref 40, .int (nI Fl.length), .int g, .int (nI p)], hy_tE w o z a v) = hy_fx nx_M_forget (61, [.ref 40, .int (nI (Fl ++ hy_ft l (M.drop p)).length), .int g, .int (nI M.length)], hy_tE w o' z' a' v') ∧ hy_TB 40 o' z' a' v' (Fl ++ hy_ft l (M.drop p)) ∧ (Fl ++ hy_ft l (M.drop p)).length ≤ M.length
  | 0, p, o, z, a, v, Fl, hd, hp, hF, h1, h2 => by
    refine ⟨o, z, a, v, ?_, ?_, ?_⟩
    · rw [List.drop_eq_nil_of_le (by omega), show hy_ft l [] = [] from rfl, List.append_nil, show p = M.length by omega]
    · rw [List.drop_eq_nil_of_le (by omega), show hy_ft l [] = [] from rfl, List.append_nil, TB_TR]
      exact h1
    · rw [List.drop_eq_nil_of_le (by omega), show hy_ft l [] = [] from rfl, List.append_nil]
      omega
  | d + 1, p, o, z, a, v, Fl, hd, hp, hF, h1, h2 => by
    have hpl : p < M.length := by omega
    have k40 : (hy_tE w o z a v).1[40]? = some (oc_M ft l td lc oth M.length sz) := (tE_ne (by omega)).trans h40
    obtain ⟨t1, t2, t3, t4, t5, t6, t7, t8⟩ := h2 p M[p] (by omega) (List.getElem?_eq_getElem hpl)
    rw [List.drop_eq_getElem_cons hpl]
    by_cases q : M[p].1 = l
    · obtain ⟨o', z', a', v', i1, i2, i3⟩ := p_M_fgE hw h40 hl hM g d (p + 1) o z a v Fl (by omega) (by omega) (by omega) h1 (fun i e hi he => h2 i e (by omega) he)
      refine ⟨o', z', a', v', ?_, by rw [ft_t q]; exact i2, by rw [ft_t q]; exact i3⟩
      rw [ft_t q, ← i1, ev_M_forget_61]
      simp (disch := omega) only [e_gi, e_gr, e_ob, e_ai, e_ar, e_ln, e_pf, e_pa, wr_eq, wr_ne, wr_wr, Option.map_some, Option.bind_some, hy_bi_s, hy_br_s, hy_bv_s, hy_xi_s, hy_xi_t, hy_xv_s, hy_xv_t, hy_k_l, hy_k_r, ia_ai, ia_pa, ia_ln, oc_a_ar, oc_o_pa, oc_r_ln, n_le_t, n_le_f, n_lt_t, n_lt_f, n_eq_t, n_eq_f, nI_add, pk_mul, n_sub, n_prd, ne_1, hy_b_t, hy_b_f, ↓reduceIte, true_or, or_true, Bool.false_eq_true, or_false, false_or, and_true, true_and, and_false, false_and, li_c, li_0, li_1, li_2, li_3, li_4, li_5, li_6, li_10, li_11, li_16, li_17, li_20, li_40, li_41, li_300, li_400, oc_H_ob, oc_H_g0, oc_H_g1, oc_H_g2, oc_H_g3, oc_H_g4, oc_H_p5, oc_H_g5, oc_N_ob, oc_N_g0, oc_N_p1, oc_N_g1, oc_N_g2, oc_N_p3, oc_N_g3, oc_D_ob, oc_D_g0, oc_D_g1, oc_D_p2, oc_D_g2, oc_G_ob, oc_G_g0, oc_G_g1, oc_G_p2, oc_G_g2, oc_G_p3, oc_G_g3, oc_G_p4, oc_G_g4, oc_L_ob, oc_L_g0, oc_L_g1, oc_L_g2, oc_L_g3, oc_L_g4, oc_L_p5, oc_L_g5, oc_L_p6, oc_L_g6, oc_L_p7, oc_L_g7, oc_A_ob, oc_A_g0, oc_A_p1, oc_A_g1, oc_A_p2, oc_A_g2, oc_A_p0, oc_U_ob, oc_U_g0, oc_U_g1, oc_M_ob, oc_M_p0, oc_M_g0, oc_M_p1, oc_M_g1, oc_M_g2, oc_M_g3, oc_M_g4, oc_M_g5, oc_M_g6, oc_M_g7, oc_M_p8, oc_M_g8, oc_M_g9, oc_M_g10, oc_M_p11, oc_M_g11, oc_M_g12, oc_M_g13, oc_M_p14, oc_M_g14, oc_M_g15, oc_M_g16, oc_M_g17, oc_M_g18, oc_M_p19, oc_M_g19, oc_M_g20, oc_M_g21, oc_M_g22, oc_M_g23, oc_M_p24, oc_M_g24, oc_M_g25, sg_M_forget_61, k40, tE_0, t1, q, ev_M_forget_91, sg_M_forget_91]
    · have hq : Fl.length ≤ p := hF
      have em := p_M_moveException (o := o) (z := z) (a := a) (v := v) hw h40 (p := p) (q := Fl.length) (by omega) hq
      obtain ⟨o', z', a', v', i1, i2, i3⟩ := p_M_fgE hw h40 hl hM g d (p + 1) (hy_up o Fl.length (o p)) (hy_up z Fl.length (z p)) (hy_apd (40 * Fl.length) 40 (hy_ro 40 p a) a) (hy_apd (41 * Fl.length) 41 (hy_ro 41 p v) v) (Fl ++ [M[p]]) (by omega) (by omega) (by rw [List.length_append]; simp only [List.length_singleton]; omega) (fun i e he => by
          rcases Nat.lt_trichotomy i Fl.length with hi | hi | hi
          · rw [List.getElem?_append_left hi] at he
            exact mvE_n (by omega) (h1 i e he)
          · subst hi
            rw [List.getElem?_append_right (by omega), Nat.sub_self] at he
            cases he
            exact mvE_q ⟨t1, t2, t3, t4, t5, t6, t7, t8⟩
          · rw [List.getElem?_eq_none (by rw [List.length_append]; simp only [List.length_singleton]; omega)] at he
            cases he) (fun i e hi he => mvE_n (by omega) (h2 i e (by omega) he))
      have hc : Fl ++ hy_ft l (M[p] :: M.drop (p + 1)) = Fl ++ [M[p]] ++ hy_ft l (M.drop (p + 1)) := by
        rw [ft_f q, List.append_assoc]; rfl
      refine ⟨o', z', a', v', ?_, by rw [hc]; exact i2, by rw [hc]; exact i3⟩
      rw [hc, ← i1, ev_M_forget_61, List.length_append, List.length_singleton]
      simp (disch := omega) only [e_gi, e_gr, e_ob, e_ai, e_ar, e_ln, e_pf, e_pa, wr_eq, wr_ne, wr_wr, Option.map_some, Option.bind_some, hy_bi_s, hy_br_s, hy_bv_s, hy_xi_s, hy_xi_t, hy_xv_s, hy_xv_t, hy_k_l, hy_k_r, ia_ai, ia_pa, ia_ln, oc_a_ar, oc_o_pa, oc_r_ln, n_le_t, n_le_f, n_lt_t, n_lt_f, n_eq_t, n_eq_f, nI_add, pk_mul, n_sub, n_prd, ne_1, hy_b_t, hy_b_f, ↓reduceIte, true_or, or_true, Bool.false_eq_true, or_false, false_or, and_true, true_and, and_false, false_and, li_c, li_0, li_1, li_2, li_3, li_4, li_5, li_6, li_10, li_11, li_16, li_17, li_20, li_40, li_41, li_300, li_400, oc_H_ob, oc_H_g0, oc_H_g1, oc_H_g2, oc_H_g3, oc_H_g4, oc_H_p5, oc_H_g5, oc_N_ob, oc_N_g0, oc_N_p1, oc_N_g1, oc_N_g2, oc_N_p3, oc_N_g3, oc_D_ob, oc_D_g0, oc_D_g1, oc_D_p2, oc_D_g2, oc_G_ob, oc_G_g0, oc_G_g1, oc_G_p2, oc_G_g2, oc_G_p3, oc_G_g3, oc_G_p4, oc_G_g4, oc_L_ob, oc_L_g0, oc_L_g1, oc_L_g2, oc_L_g3, oc_L_g4, oc_L_p5, oc_L_g5, oc_L_p6, oc_L_g6, oc_L_p7, oc_L_g7, oc_A_ob, oc_A_g0, oc_A_p1, oc_A_g1, oc_A_p2, oc_A_g2, oc_A_p0, oc_U_ob, oc_U_g0, oc_U_g1, oc_M_ob, oc_M_p0, oc_M_g0, oc_M_p1, oc_M_g1, oc_M_g2, oc_M_g3, oc_M_g4, oc_M_g5, oc_M_g6, oc_M_g7, oc_M_p8, oc_M_g8, oc_M_g9, oc_M_g10, oc_M_p11, oc_M_g11, oc_M_g12, oc_M_g13, oc_M_p14, oc_M_g14, oc_M_g15, oc_M_g16, oc_M_g17, oc_M_g18, oc_M_p19, oc_M_g19, oc_M_g20, oc_M_g21, oc_M_g22, oc_M_g23, oc_M_p24, oc_M_g24, oc_M_g25, sg_M_forget_61, k40, tE_0, t1, q, em, ev_M_forget_91, sg_M_forget_91]
end GES
