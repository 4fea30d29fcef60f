/-! ROWS told: read by the class -/
def hy_dr (w : hy_W) (n : Nat) (sp vl : Nat → Int32) : hy_W := hy_wr (hy_wr (hy_wr w 10 (oc_D n)) 11 (hy_ia 40 sp)) 12 (hy_ia 41 vl)
section DRS
variable {w : hy_W} {n n' : Nat} {sp vl sp' vl' : Nat → Int32}
theorem dr_10 (hw : 12 < w.1.length) : (hy_dr w n sp vl).1[10]? = some (oc_D n) := by
  obtain ⟨d, hd⟩ := get_lt (w := w) (k := 10) (by omega)
  unfold hy_dr
  simp (disch := omega) only [e_gi, e_gr, e_ob, e_ai, e_ar, e_ln, e_pf, e_pa, wr_eq, wr_ne, wr_wr, Option.map_some, Option.bind_some, hy_bi_s, hy_br_s, hy_bv_s, hy_xi_s, hy_xi_t, hy_xv_s, hy_xv_t, hy_k_l, hy_k_r, ia_ai, ia_pa, ia_ln, oc_a_ar, oc_o_pa, oc_r_ln, n_le_t, n_le_f, n_lt_t, n_lt_f, n_eq_t, n_eq_f, nI_add, pk_mul, n_sub, n_prd, ne_1, hy_b_t, hy_b_f, ↓reduceIte, true_or, or_true, Bool.false_eq_true, or_false, false_or, and_true, true_and, and_false, false_and, li_c, li_0, li_1, li_2, li_3, li_4, li_5, li_6, li_10, li_11, li_16, li_17, li_20, li_40, li_41, li_300, li_400, oc_H_ob, oc_H_g0, oc_H_g1, oc_H_g2, oc_H_g3, oc_H_g4, oc_H_p5, oc_H_g5, oc_N_ob, oc_N_g0, oc_N_p1, oc_N_g1, oc_N_g2, oc_N_p3, oc_N_g3, oc_D_ob, oc_D_g0, oc_D_g1, oc_D_p2, oc_D_g2, oc_G_ob, oc_G_g0, oc_G_g1, oc_G_p2, oc_G_g2, oc_G_p3, oc_G_g3, oc_G_p4, oc_G_g4, oc_L_ob, oc_L_g0, oc_L_g1, oc_L_g2, oc_L_g3, oc_L_g4, oc_L_p5, oc_L_g5, oc_L_p6, oc_L_g6, oc_L_p7, oc_L_g7, oc_A_ob, oc_A_g0, oc_A_p1, oc_A_g1, oc_A_p2, oc_A_g2, oc_A_p0, oc_U_ob, oc_U_g0, oc_U_g1, oc_M_ob, oc_M_p0, oc_M_g0, oc_M_p1, oc_M_g1, oc_M_g2, oc_M_g3, oc_M_g4, oc_M_g5, oc_M_g6, oc_M_g7, oc_M_p8, oc_M_g8, oc_M_g9, oc_M_g10, oc_M_p11, oc_M_g11, oc_M_g12, oc_M_g13, oc_M_p14, oc_M_g14, oc_M_g15, oc_M_g16, oc_M_g17, oc_M_g18, oc_M_p19, oc_M_g19, oc_M_g20, oc_M_g21, oc_M_g22, oc_M_g23, oc_M_p24, oc_M_g24, oc_M_g25, hd]
theorem dr_11 (hw : 12 < w.1.length) : (hy_dr w n sp vl).1[11]? = some (hy_ia 40 sp) := by
  obtain ⟨d, hd⟩ := get_lt (w := w) (k := 11) (by omega)
  unfold hy_dr
  simp (disch := omega) only [e_gi, e_gr, e_ob, e_ai, e_ar, e_ln, e_pf, e_pa, wr_eq, wr_ne, wr_wr, Option.map_some, Option.bind_some, hy_bi_s, hy_br_s, hy_bv_s, hy_xi_s, hy_xi_t, hy_xv_s, hy_xv_t, hy_k_l, hy_k_r, ia_ai, ia_pa, ia_ln, oc_a_ar, oc_o_pa, oc_r_ln, n_le_t, n_le_f, n_lt_t, n_lt_f, n_eq_t, n_eq_f, nI_add, pk_mul, n_sub, n_prd, ne_1, hy_b_t, hy_b_f, ↓reduceIte, true_or, or_true, Bool.false_eq_true, or_false, false_or, and_true, true_and, and_false, false_and, li_c, li_0, li_1, li_2, li_3, li_4, li_5, li_6, li_10, li_11, li_16, li_17, li_20, li_40, li_41, li_300, li_400, oc_H_ob, oc_H_g0, oc_H_g1, oc_H_g2, oc_H_g3, oc_H_g4, oc_H_p5, oc_H_g5, oc_N_ob, oc_N_g0, oc_N_p1, oc_N_g1, oc_N_g2, oc_N_p3, oc_N_g3, oc_D_ob, oc_D_g0, oc_D_g1, oc_D_p2, oc_D_g2, oc_G_ob, oc_G_g0, oc_G_g1, oc_G_p2, oc_G_g2, oc_G_p3, oc_G_g3, oc_G_p4, oc_G_g4, oc_L_ob, oc_L_g0, oc_L_g1, oc_L_g2, oc_L_g3, oc_L_g4, oc_L_p5, oc_L_g5, oc_L_p6, oc_L_g6, oc_L_p7, oc_L_g7, oc_A_ob, oc_A_g0, oc_A_p1, oc_A_g1, oc_A_p2, oc_A_g2, oc_A_p0, oc_U_ob, oc_U_g0, oc_U_g1, oc_M_ob, oc_M_p0, oc_M_g0, oc_M_p1, oc_M_g1, oc_M_g2, oc_M_g3, oc_M_g4, oc_M_g5, oc_M_g6, oc_M_g7, oc_M_p8, oc_M_g8, oc_M_g9, oc_M_g10, oc_M_p11, oc_M_g11, oc_M_g12, oc_M_g13, oc_M_p14, oc_M_g14, oc_M_g15, oc_M_g16, oc_M_g17, oc_M_g18, oc_M_p19, oc_M_g19, oc_M_g20, oc_M_g21, oc_M_g22, oc_M_g23, oc_M_p24, oc_M_g24, oc_M_g25, hd]
theorem dr_12 (hw : 12 < w.1.length) : (hy_dr w n sp vl).1[12]? = some (hy_ia 41 vl) := by
  obtain ⟨d, hd⟩ := get_lt (w := w) (k := 12) (by omega)
  unfold hy_dr
  simp (disch := omega) only [e_gi, e_gr, e_ob, e_ai, e_ar, e_ln, e_pf, e_pa, wr_eq, wr_ne, wr_wr, Option.map_some, Option.bind_some, hy_bi_s, hy_br_s, hy_bv_s, hy_xi_s, hy_xi_t, hy_xv_s, hy_xv_t, hy_k_l, hy_k_r, ia_ai, ia_pa, ia_ln, oc_a_ar, oc_o_pa, oc_r_ln, n_le_t, n_le_f, n_lt_t, n_lt_f, n_eq_t, n_eq_f, nI_add, pk_mul, n_sub, n_prd, ne_1, hy_b_t, hy_b_f, ↓reduceIte, true_or, or_true, Bool.false_eq_true, or_false, false_or, and_true, true_and, and_false, false_and, li_c, li_0, li_1, li_2, li_3, li_4, li_5, li_6, li_10, li_11, li_16, li_17, li_20, li_40, li_41, li_300, li_400, oc_H_ob, oc_H_g0, oc_H_g1, oc_H_g2, oc_H_g3, oc_H_g4, oc_H_p5, oc_H_g5, oc_N_ob, oc_N_g0, oc_N_p1, oc_N_g1, oc_N_g2, oc_N_p3, oc_N_g3, oc_D_ob, oc_D_g0, oc_D_g1, oc_D_p2, oc_D_g2, oc_G_ob, oc_G_g0, oc_G_g1, oc_G_p2, oc_G_g2, oc_G_p3, oc_G_g3, oc_G_p4, oc_G_g4, oc_L_ob, oc_L_g0, oc_L_g1, oc_L_g2, oc_L_g3, oc_L_g4, oc_L_p5, oc_L_g5, oc_L_p6, oc_L_g6, oc_L_p7, oc_L_g7, oc_A_ob, oc_A_g0, oc_A_p1, oc_A_g1, oc_A_p2, oc_A_g2, oc_A_p0, oc_U_ob, oc_U_g0, oc_U_g1, oc_M_ob, oc_M_p0, oc_M_g0, oc_M_p1, oc_M_g1, oc_M_g2, oc_M_g3, oc_M_g4, oc_M_g5, oc_M_g6, oc_M_g7, oc_M_p8, oc_M_g8, oc_M_g9, oc_M_g10, oc_M_p11, oc_M_g11, oc_M_g12, oc_M_g13, oc_M_p14, oc_M_g14, oc_M_g15, oc_M_g16, oc_M_g17, oc_M_g18, oc_M_p19, oc_M_g19, oc_M_g20, oc_M_g21, oc_M_g22, oc_M_g23, oc_M_p24, oc_M_g24, oc_M_g25, hd]
theorem dr_ne {k : Nat} (h : k < 10 ∨ 12 < k) : (hy_dr w n sp vl).1[k]? = w.1[k]? := by
  unfold hy_dr
  simp (disch := omega) only [e_gi, e_gr, e_ob, e_ai, e_ar, e_ln, e_pf, e_pa, wr_eq, wr_ne, wr_wr, Option.map_some, Option.bind_some, hy_bi_s, hy_br_s, hy_bv_s, hy_xi_s, hy_xi_t, hy_xv_s, hy_xv_t, hy_k_l, hy_k_r, ia_ai, ia_pa, ia_ln, oc_a_ar, oc_o_pa, oc_r_ln, n_le_t, n_le_f, n_lt_t, n_lt_f, n_eq_t, n_eq_f, nI_add, pk_mul, n_sub, n_prd, ne_1, hy_b_t, hy_b_f, ↓reduceIte, true_or, or_true, Bool.false_eq_true, or_false, false_or, and_true, true_and, and_false, false_and, li_c, li_0, li_1, li_2, li_3, li_4, li_5, li_6, li_10, li_11, li_16, li_17, li_20, li_40, li_41, li_300, li_400, oc_H_ob, oc_H_g0, oc_H_g1, oc_H_g2, oc_H_g3, oc_H_g4, oc_H_p5, oc_H_g5, oc_N_ob, oc_N_g0, oc_N_p1, oc_N_g1, oc_N_g2, oc_N_p3, oc_N_g3, oc_D_ob, oc_D_g0, oc_D_g1, oc_D_p2, oc_D_g2, oc_G_ob, oc_G_g0, oc_G_g1, oc_G_p2, oc_G_g2, oc_G_p3, oc_G_g3, oc_G_p4, oc_G_g4, oc_L_ob, oc_L_g0, oc_L_g1, oc_L_g2, oc_L_g3, oc_L_g4, oc_L_p5, oc_L_g5, oc_L_p6, oc_L_g6, oc_L_p7, oc_L_g7, oc_A_ob, oc_A_g0, oc_A_p1, oc_A_g1, oc_A_p2, oc_A_g2, oc_A_p0, oc_U_ob, oc_U_g0, oc_U_g1, oc_M_ob, oc_M_p0, oc_M_g0, oc_M_p1, oc_M_g1, oc_M_g2, oc_M_g3, oc_M_g4, oc_M_g5, oc_M_g6, oc_M_g7, oc_M_p8, oc_M_g8, oc_M_g9, oc_M_g10, oc_M_p11, oc_M_g11, oc_M_g12, oc_M_g13, oc_M_p14, oc_M_g14, oc_M_g15, oc_M_g16, oc_M_g17, oc_M_g18, oc_M_p19, oc_M_g19, oc_M_g20, oc_M_g21, oc_M_g22, oc_M_g23, oc_M_p24, oc_M_g24, oc_M_g25]
theorem dr_w10 : hy_wr (hy_dr w n sp vl) 10 (oc_D n') = hy_dr w n' sp vl := by
  unfold hy_dr
  rw [wr_comm (by decide), wr_comm (k := 11) (j := 10) (by decide), wr_wr]
theorem dr_w11 : hy_wr (hy_dr w n sp vl) 11 (hy_ia 40 sp') = hy_dr w n sp' vl := by
  unfold hy_dr
  rw [wr_comm (by decide), wr_wr]
theorem dr_w12 : hy_wr (hy_dr w n sp vl) 12 (hy_ia 41 vl') = hy_dr w n sp vl' := by
  unfold hy_dr
  rw [wr_wr]
theorem dr_2 : (hy_dr w n sp vl).2 = w.2 := rfl
theorem dr_len : (hy_dr w n sp vl).1.length = w.1.length := by
  unfold hy_dr; rw [wr_len, wr_len, wr_len]
theorem dr_self (h1 : w.1[10]? = some (oc_D n)) (h2 : w.1[11]? = some (hy_ia 40 sp)) (h3 : w.1[12]? = some (hy_ia 41 vl)) : hy_dr w n sp vl = w := by
  unfold hy_dr
  rw [wr_same h1, wr_same h2, wr_same h3]
theorem p_D_start (hw : 12 < w.1.length) : f_D_start [.ref 10] (hy_dr w n sp vl) = some (.inl none, hy_dr w 0 sp (hy_up vl 0 (nI 0))) := by
  rw [f_D_start, ev_D_start_0]
  simp (disch := omega) only [e_gi, e_gr, e_ob, e_ai, e_ar, e_ln, e_pf, e_pa, wr_eq, wr_ne, wr_wr, Option.map_some, Option.bind_some, hy_bi_s, hy_br_s, hy_bv_s, hy_xi_s, hy_xi_t, hy_xv_s, hy_xv_t, hy_k_l, hy_k_r, ia_ai, ia_pa, ia_ln, oc_a_ar, oc_o_pa, oc_r_ln, n_le_t, n_le_f, n_lt_t, n_lt_f, n_eq_t, n_eq_f, nI_add, pk_mul, n_sub, n_prd, ne_1, hy_b_t, hy_b_f, ↓reduceIte, true_or, or_true, Bool.false_eq_true, or_false, false_or, and_true, true_and, and_false, false_and, li_c, li_0, li_1, li_2, li_3, li_4, li_5, li_6, li_10, li_11, li_16, li_17, li_20, li_40, li_41, li_300, li_400, oc_H_ob, oc_H_g0, oc_H_g1, oc_H_g2, oc_H_g3, oc_H_g4, oc_H_p5, oc_H_g5, oc_N_ob, oc_N_g0, oc_N_p1, oc_N_g1, oc_N_g2, oc_N_p3, oc_N_g3, oc_D_ob, oc_D_g0, oc_D_g1, oc_D_p2, oc_D_g2, oc_G_ob, oc_G_g0, oc_G_g1, oc_G_p2, oc_G_g2, oc_G_p3, oc_G_g3, oc_G_p4, oc_G_g4, oc_L_ob, oc_L_g0, oc_L_g1, oc_L_g2, oc_L_g3, oc_L_g4, oc_L_p5, oc_L_g5, oc_L_p6, oc_L_g6, oc_L_p7, oc_L_g7, oc_A_ob, oc_A_g0, oc_A_p1, oc_A_g1, oc_A_p2, oc_A_g2, oc_A_p0, oc_U_ob, oc_U_g0, oc_U_g1, oc_M_ob, oc_M_p0, oc_M_g0, oc_M_p1, oc_M_g1, oc_M_g2, oc_M_g3, oc_M_g4, oc_M_g5, oc_M_g6, oc_M_g7, oc_M_p8, oc_M_g8, oc_M_g9, oc_M_g10, oc_M_p11, oc_M_g11, oc_M_g12, oc_M_g13, oc_M_p14, oc_M_g14, oc_M_g15, oc_M_g16, oc_M_g17, oc_M_g18, oc_M_p19, oc_M_g19, oc_M_g20, oc_M_g21, oc_M_g22, oc_M_g23, oc_M_p24, oc_M_g24, oc_M_g25, sg_D_start_0, dr_10, dr_w10, dr_12, dr_w12]
theorem p_D_takeLetter (hw : 12 < w.1.length) (hn : n < 40) (x : Int32) : f_D_takeLetter [.ref 10, .int x] (hy_dr w n sp vl) = some (.inl (some (.int (nI 1))), hy_dr w (n + 1) (hy_up sp n x) (hy_up vl (n + 1) (nI 0))) := by
  rw [f_D_takeLetter, ev_D_takeLetter_0]
  simp (disch := omega) only [e_gi, e_gr, e_ob, e_ai, e_ar, e_ln, e_pf, e_pa, wr_eq, wr_ne, wr_wr, Option.map_some, Option.bind_some, hy_bi_s, hy_br_s, hy_bv_s, hy_xi_s, hy_xi_t, hy_xv_s, hy_xv_t, hy_k_l, hy_k_r, ia_ai, ia_pa, ia_ln, oc_a_ar, oc_o_pa, oc_r_ln, n_le_t, n_le_f, n_lt_t, n_lt_f, n_eq_t, n_eq_f, nI_add, pk_mul, n_sub, n_prd, ne_1, hy_b_t, hy_b_f, ↓reduceIte, true_or, or_true, Bool.false_eq_true, or_false, false_or, and_true, true_and, and_false, false_and, li_c, li_0, li_1, li_2, li_3, li_4, li_5, li_6, li_10, li_11, li_16, li_17, li_20, li_40, li_41, li_300, li_400, oc_H_ob, oc_H_g0, oc_H_g1, oc_H_g2, oc_H_g3, oc_H_g4, oc_H_p5, oc_H_g5, oc_N_ob, oc_N_g0, oc_N_p1, oc_N_g1, oc_N_g2, oc_N_p3, oc_N_g3, oc_D_ob, oc_D_g0, oc_D_g1, oc_D_p2, oc_D_g2, oc_G_ob, oc_G_g0, oc_G_g1, oc_G_p2, oc_G_g2, oc_G_p3, oc_G_g3, oc_G_p4, oc_G_g4, oc_L_ob, oc_L_g0, oc_L_g1, oc_L_g2, oc_L_g3, oc_L_g4, oc_L_p5, oc_L_g5, oc_L_p6, oc_L_g6, oc_L_p7, oc_L_g7, oc_A_ob, oc_A_g0, oc_A_p1, oc_A_g1, oc_A_p2, oc_A_g2, oc_A_p0, oc_U_ob, oc_U_g0, oc_U_g1, oc_M_ob, oc_M_p0, oc_M_g0, oc_M_p1, oc_M_g1, oc_M_g2, oc_M_g3, oc_M_g4, oc_M_g5, oc_M_g6, oc_M_g7, oc_M_p8, oc_M_g8, oc_M_g9, oc_M_g10, oc_M_p11, oc_M_g11, oc_M_g12, oc_M_g13, oc_M_p14, oc_M_g14, oc_M_g15, oc_M_g16, oc_M_g17, oc_M_g18, oc_M_p19, oc_M_g19, oc_M_g20, oc_M_g21, oc_M_g22, oc_M_g23, oc_M_p24, oc_M_g24, oc_M_g25, sg_D_takeLetter_0, dr_10, dr_11, dr_w11, dr_w10, dr_12, dr_w12]
theorem p_D_takeValue (hw : 12 < w.1.length) (hn : n ≤ 40) (x : Int32) (hv : vl n = nI 0) : f_D_takeValue [.ref 10, .int x] (hy_dr w n sp vl) = some (.inl (some (.int (nI 1))), hy_dr w n sp (hy_up vl n x)) := by
  rw [f_D_takeValue, ev_D_takeValue_0]
  simp (disch := omega) only [e_gi, e_gr, e_ob, e_ai, e_ar, e_ln, e_pf, e_pa, wr_eq, wr_ne, wr_wr, Option.map_some, Option.bind_some, hy_bi_s, hy_br_s, hy_bv_s, hy_xi_s, hy_xi_t, hy_xv_s, hy_xv_t, hy_k_l, hy_k_r, ia_ai, ia_pa, ia_ln, oc_a_ar, oc_o_pa, oc_r_ln, n_le_t, n_le_f, n_lt_t, n_lt_f, n_eq_t, n_eq_f, nI_add, pk_mul, n_sub, n_prd, ne_1, hy_b_t, hy_b_f, ↓reduceIte, true_or, or_true, Bool.false_eq_true, or_false, false_or, and_true, true_and, and_false, false_and, li_c, li_0, li_1, li_2, li_3, li_4, li_5, li_6, li_10, li_11, li_16, li_17, li_20, li_40, li_41, li_300, li_400, oc_H_ob, oc_H_g0, oc_H_g1, oc_H_g2, oc_H_g3, oc_H_g4, oc_H_p5, oc_H_g5, oc_N_ob, oc_N_g0, oc_N_p1, oc_N_g1, oc_N_g2, oc_N_p3, oc_N_g3, oc_D_ob, oc_D_g0, oc_D_g1, oc_D_p2, oc_D_g2, oc_G_ob, oc_G_g0, oc_G_g1, oc_G_p2, oc_G_g2, oc_G_p3, oc_G_g3, oc_G_p4, oc_G_g4, oc_L_ob, oc_L_g0, oc_L_g1, oc_L_g2, oc_L_g3, oc_L_g4, oc_L_p5, oc_L_g5, oc_L_p6, oc_L_g6, oc_L_p7, oc_L_g7, oc_A_ob, oc_A_g0, oc_A_p1, oc_A_g1, oc_A_p2, oc_A_g2, oc_A_p0, oc_U_ob, oc_U_g0, oc_U_g1, oc_M_ob, oc_M_p0, oc_M_g0, oc_M_p1, oc_M_g1, oc_M_g2, oc_M_g3, oc_M_g4, oc_M_g5, oc_M_g6, oc_M_g7, oc_M_p8, oc_M_g8, oc_M_g9, oc_M_g10, oc_M_p11, oc_M_g11, oc_M_g12, oc_M_g13, oc_M_p14, oc_M_g14, oc_M_g15, oc_M_g16, oc_M_g17, oc_M_g18, oc_M_p19, oc_M_g19, oc_M_g20, oc_M_g21, oc_M_g22, oc_M_g23, oc_M_p24, oc_M_g24, oc_M_g25, sg_D_takeValue_0, dr_10, dr_12, hv, dr_w12]
theorem p_D_takeValue_f (hw : 12 < w.1.length) (hn : n ≤ 40) (x : Int32) (hv : ¬ vl n = nI 0) : f_D_takeValue [.ref 10, .int x] (hy_dr w n sp vl) = some (.inl (some (.int (nI 0))), hy_dr w n sp vl) := by
  rw [f_D_takeValue, ev_D_takeValue_0]
  simp (disch := omega) only [e_gi, e_gr, e_ob, e_ai, e_ar, e_ln, e_pf, e_pa, wr_eq, wr_ne, wr_wr, Option.map_some, Option.bind_some, hy_bi_s, hy_br_s, hy_bv_s, hy_xi_s, hy_xi_t, hy_xv_s, hy_xv_t, hy_k_l, hy_k_r, ia_ai, ia_pa, ia_ln, oc_a_ar, oc_o_pa, oc_r_ln, n_le_t, n_le_f, n_lt_t, n_lt_f, n_eq_t, n_eq_f, nI_add, pk_mul, n_sub, n_prd, ne_1, hy_b_t, hy_b_f, ↓reduceIte, true_or, or_true, Bool.false_eq_true, or_false, false_or, and_true, true_and, and_false, false_and, li_c, li_0, li_1, li_2, li_3, li_4, li_5, li_6, li_10, li_11, li_16, li_17, li_20, li_40, li_41, li_300, li_400, oc_H_ob, oc_H_g0, oc_H_g1, oc_H_g2, oc_H_g3, oc_H_g4, oc_H_p5, oc_H_g5, oc_N_ob, oc_N_g0, oc_N_p1, oc_N_g1, oc_N_g2, oc_N_p3, oc_N_g3, oc_D_ob, oc_D_g0, oc_D_g1, oc_D_p2, oc_D_g2, oc_G_ob, oc_G_g0, oc_G_g1, oc_G_p2, oc_G_g2, oc_G_p3, oc_G_g3, oc_G_p4, oc_G_g4, oc_L_ob, oc_L_g0, oc_L_g1, oc_L_g2, oc_L_g3, oc_L_g4, oc_L_p5, oc_L_g5, oc_L_p6, oc_L_g6, oc_L_p7, oc_L_g7, oc_A_ob, oc_A_g0, oc_A_p1, oc_A_g1, oc_A_p2, oc_A_g2, oc_A_p0, oc_U_ob, oc_U_g0, oc_U_g1, oc_M_ob, oc_M_p0, oc_M_g0, oc_M_p1, oc_M_g1, oc_M_g2, oc_M_g3, oc_M_g4, oc_M_g5, oc_M_g6, oc_M_g7, oc_M_p8, oc_M_g8, oc_M_g9, oc_M_g10, oc_M_p11, oc_M_g11, oc_M_g12, oc_M_g13, oc_M_p14, oc_M_g14, oc_M_g15, oc_M_g16, oc_M_g17, oc_M_g18, oc_M_p19, oc_M_g19, oc_M_g20, oc_M_g21, oc_M_g22, oc_M_g23, oc_M_p24, oc_M_g24, oc_M_g25, sg_D_takeValue_0, dr_10, dr_12, hv]
theorem p_D_hasLetter2 (hw : 12 < w.1.length) (hn : n ≤ 40) : ∀ (d i : Nat), n - i = d → i ≤ n → hy_fx nx_D_hasLetter (2, [.ref 10, .int (nI i)], hy_dr w n sp vl) = some (.inl (some (.int (hy_b (!pu_al (fun k => decide (sp k = nI 0)) d i)))), hy_dr w n sp vl)
  | 0, i, hd, hi => by
    rw [ev_D_hasLetter_2, pu_al]
    simp (disch := omega) only [e_gi, e_gr, e_ob, e_ai, e_ar, e_ln, e_pf, e_pa, wr_eq, wr_ne, wr_wr, Option.map_some, Option.bind_some, hy_bi_s, hy_br_s, hy_bv_s, hy_xi_s, hy_xi_t, hy_xv_s, hy_xv_t, hy_k_l, hy_k_r, ia_ai, ia_pa, ia_ln, oc_a_ar, oc_o_pa, oc_r_ln, n_le_t, n_le_f, n_lt_t, n_lt_f, n_eq_t, n_eq_f, nI_add, pk_mul, n_sub, n_prd, ne_1, hy_b_t, hy_b_f, ↓reduceIte, true_or, or_true, Bool.false_eq_true, or_false, false_or, and_true, true_and, and_false, false_and, li_c, li_0, li_1, li_2, li_3, li_4, li_5, li_6, li_10, li_11, li_16, li_17, li_20, li_40, li_41, li_300, li_400, oc_H_ob, oc_H_g0, oc_H_g1, oc_H_g2, oc_H_g3, oc_H_g4, oc_H_p5, oc_H_g5, oc_N_ob, oc_N_g0, oc_N_p1, oc_N_g1, oc_N_g2, oc_N_p3, oc_N_g3, oc_D_ob, oc_D_g0, oc_D_g1, oc_D_p2, oc_D_g2, oc_G_ob, oc_G_g0, oc_G_g1, oc_G_p2, oc_G_g2, oc_G_p3, oc_G_g3, oc_G_p4, oc_G_g4, oc_L_ob, oc_L_g0, oc_L_g1, oc_L_g2, oc_L_g3, oc_L_g4, oc_L_p5, oc_L_g5, oc_L_p6, oc_L_g6, oc_L_p7, oc_L_g7, oc_A_ob, oc_A_g0, oc_A_p1, oc_A_g1, oc_A_p2, oc_A_g2, oc_A_p0, oc_U_ob, oc_U_g0, oc_U_g1, oc_M_ob, oc_M_p0, oc_M_g0, oc_M_p1, oc_M_g1, oc_M_g2, oc_M_g3, oc_M_g4, oc_M_g5, oc_M_g6, oc_M_g7, oc_M_p8, oc_M_g8, oc_M_g9, oc_M_g10, oc_M_p11, oc_M_g11, oc_M_g12, oc_M_g13, oc_M_p14, oc_M_g14, oc_M_g15, oc_M_g16, oc_M_g17, oc_M_g18, oc_M_p19, oc_M_g19, oc_M_g20, oc_M_g21, oc_M_g22, oc_M_g23, oc_M_p24, oc_M_g24, oc_M_g25, sg_D_hasLetter_2, dr_10, Bool.not_true]
  | d + 1, i, hd, hi => by
    have ih := p_D_hasLetter2 hw hn d (i + 1) (by omega) (by omega)
    rw [ev_D_hasLetter_2, pu_al]
    by_cases q : sp i = nI 0
    · simp (disch := omega) only [e_gi, e_gr, e_ob, e_ai, e_ar, e_ln, e_pf, e_pa, wr_eq, wr_ne, wr_wr, Option.map_some, Option.bind_some, hy_bi_s, hy_br_s, hy_bv_s, hy_xi_s, hy_xi_t, hy_xv_s, hy_xv_t, hy_k_l, hy_k_r, ia_ai, ia_pa, ia_ln, oc_a_ar, oc_o_pa, oc_r_ln, n_le_t, n_le_f, n_lt_t, n_lt_f, n_eq_t, n_eq_f, nI_add, pk_mul, n_sub, n_prd, ne_1, hy_b_t, hy_b_f, ↓reduceIte, true_or, or_true, Bool.false_eq_true, or_false, false_or, and_true, true_and, and_false, false_and, li_c, li_0, li_1, li_2, li_3, li_4, li_5, li_6, li_10, li_11, li_16, li_17, li_20, li_40, li_41, li_300, li_400, oc_H_ob, oc_H_g0, oc_H_g1, oc_H_g2, oc_H_g3, oc_H_g4, oc_H_p5, oc_H_g5, oc_N_ob, oc_N_g0, oc_N_p1, oc_N_g1, oc_N_g2, oc_N_p3, oc_N_g3, oc_D_ob, oc_D_g0, oc_D_g1, oc_D_p2, oc_D_g2, oc_G_ob, oc_G_g0, oc_G_g1, oc_G_p2, oc_G_g2, oc_G_p3, oc_G_g3, oc_G_p4, oc_G_g4, oc_L_ob, oc_L_g0, oc_L_g1, oc_L_g2, oc_L_g3, oc_L_g4, oc_L_p5, oc_L_g5, oc_L_p6, oc_L_g6, oc_L_p7, oc_L_g7, oc_A_ob, oc_A_g0, oc_A_p1, oc_A_g1, oc_A_p2, oc_A_g2, oc_A_p0, oc_U_ob, oc_U_g0, oc_U_g1, oc_M_ob, oc_M_p0, oc_M_g0, oc_M_p1, oc_M_g1, oc_M_g2, oc_M_g3, oc_M_g4, oc_M_g5, oc_M_g6, oc_M_g7, oc_M_p8, oc_M_g8, oc_M_g9, oc_M_g10, oc_M_p11, oc_M_g11, oc_M_g12, oc_M_g13, oc_M_p14, oc_M_g14, oc_M_g15, oc_M_g16, oc_M_g17, oc_M_g18, oc_M_p19, oc_M_g19, oc_M_g20, oc_M_g21, oc_M_g22, oc_M_g23, oc_M_p24, oc_M_g24, oc_M_g25, sg_D_hasLetter_2, dr_10, dr_11, q, ih, decide_true, Bool.true_and]
    · simp (disch := omega) only [e_gi, e_gr, e_ob, e_ai, e_ar, e_ln, e_pf, e_pa, wr_eq, wr_ne, wr_wr, Option.map_some, Option.bind_some, hy_bi_s, hy_br_s, hy_bv_s, hy_xi_s, hy_xi_t, hy_xv_s, hy_xv_t, hy_k_l, hy_k_r, ia_ai, ia_pa, ia_ln, oc_a_ar, oc_o_pa, oc_r_ln, n_le_t, n_le_f, n_lt_t, n_lt_f, n_eq_t, n_eq_f, nI_add, pk_mul, n_sub, n_prd, ne_1, hy_b_t, hy_b_f, ↓reduceIte, true_or, or_true, Bool.false_eq_true, or_false, false_or, and_true, true_and, and_false, false_and, li_c, li_0, li_1, li_2, li_3, li_4, li_5, li_6, li_10, li_11, li_16, li_17, li_20, li_40, li_41, li_300, li_400, oc_H_ob, oc_H_g0, oc_H_g1, oc_H_g2, oc_H_g3, oc_H_g4, oc_H_p5, oc_H_g5, oc_N_ob, oc_N_g0, oc_N_p1, oc_N_g1, oc_N_g2, oc_N_p3, oc_N_g3, oc_D_ob, oc_D_g0, oc_D_g1, oc_D_p2, oc_D_g2, oc_G_ob, oc_G_g0, oc_G_g1, oc_G_p2, oc_G_g2, oc_G_p3, oc_G_g3, oc_G_p4, oc_G_g4, oc_L_ob, oc_L_g0, oc_L_g1, oc_L_g2, oc_L_g3, oc_L_g4, oc_L_p5, oc_L_g5, oc_L_p6, oc_L_g6, oc_L_p7, oc_L_g7, oc_A_ob, oc_A_g0, oc_A_p1, oc_A_g1, oc_A_p2, oc_A_g2, oc_A_p0, oc_U_ob, oc_U_g0, oc_U_g1, oc_M_ob, oc_M_p0, oc_M_g0, oc_M_p1, oc_M_g1, oc_M_g2, oc_M_g3, oc_M_g4, oc_M_g5, oc_M_g6, oc_M_g7, oc_M_p8, oc_M_g8, oc_M_g9, oc_M_g10, oc_M_p11, oc_M_g11, oc_M_g12, oc_M_g13, oc_M_p14, oc_M_g14, oc_M_g15, oc_M_g16, oc_M_g17, oc_M_g18, oc_M_p19, oc_M_g19, oc_M_g20, oc_M_g21, oc_M_g22, oc_M_g23, oc_M_p24, oc_M_g24, oc_M_g25, sg_D_hasLetter_2, dr_10, dr_11, q, decide_false, Bool.false_and, Bool.not_false]
theorem p_D_hasLetter (hw : 12 < w.1.length) (hn : n ≤ 40) : f_D_hasLetter [.ref 10] (hy_dr w n sp vl) = some (.inl (some (.int (hy_b (!pu_al (fun k => decide (sp k = nI 0)) n 0)))), hy_dr w n sp vl) := by
  rw [f_D_hasLetter, ev_D_hasLetter_0, sg_D_hasLetter_0, hy_k_l]
  exact p_D_hasLetter2 hw hn n 0 (by omega) (by omega)
theorem p_D_hasEdgeWithin2 (hw : 12 < w.1.length) (hn : n ≤ 40) (h1 : 1 ≤ n) : ∀ (d i : Nat), n - 1 - i = d → i ≤ n → hy_fx nx_D_hasEdgeWithin (2, [.ref 10, .int (nI i)], hy_dr w n sp vl) = some (.inl (some (.int (hy_b (!pu_al (fun k => !decide (sp k = nI 0)) d i)))), hy_dr w n sp vl)
  | 0, i, hd, hi => by
    rw [ev_D_hasEdgeWithin_2, pu_al]
    simp (disch := omega) only [e_gi, e_gr, e_ob, e_ai, e_ar, e_ln, e_pf, e_pa, wr_eq, wr_ne, wr_wr, Option.map_some, Option.bind_some, hy_bi_s, hy_br_s, hy_bv_s, hy_xi_s, hy_xi_t, hy_xv_s, hy_xv_t, hy_k_l, hy_k_r, ia_ai, ia_pa, ia_ln, oc_a_ar, oc_o_pa, oc_r_ln, n_le_t, n_le_f, n_lt_t, n_lt_f, n_eq_t, n_eq_f, nI_add, pk_mul, n_sub, n_prd, ne_1, hy_b_t, hy_b_f, ↓reduceIte, true_or, or_true, Bool.false_eq_true, or_false, false_or, and_true, true_and, and_false, false_and, li_c, li_0, li_1, li_2, li_3, li_4, li_5, li_6, li_10, li_11, li_16, li_17, li_20, li_40, li_41, li_300, li_400, oc_H_ob, oc_H_g0, oc_H_g1, oc_H_g2, oc_H_g3, oc_H_g4, oc_H_p5, oc_H_g5, oc_N_ob, oc_N_g0, oc_N_p1, oc_N_g1, oc_N_g2, oc_N_p3, oc_N_g3, oc_D_ob, oc_D_g0, oc_D_g1, oc_D_p2, oc_D_g2, oc_G_ob, oc_G_g0, oc_G_g1, oc_G_p2, oc_G_g2, oc_G_p3, oc_G_g3, oc_G_p4, oc_G_g4, oc_L_ob, oc_L_g0, oc_L_g1, oc_L_g2, oc_L_g3, oc_L_g4, oc_L_p5, oc_L_g5, oc_L_p6, oc_L_g6, oc_L_p7, oc_L_g7, oc_A_ob, oc_A_g0, oc_A_p1, oc_A_g1, oc_A_p2, oc_A_g2, oc_A_p0, oc_U_ob, oc_U_g0, oc_U_g1, oc_M_ob, oc_M_p0, oc_M_g0, oc_M_p1, oc_M_g1, oc_M_g2, oc_M_g3, oc_M_g4, oc_M_g5, oc_M_g6, oc_M_g7, oc_M_p8, oc_M_g8, oc_M_g9, oc_M_g10, oc_M_p11, oc_M_g11, oc_M_g12, oc_M_g13, oc_M_p14, oc_M_g14, oc_M_g15, oc_M_g16, oc_M_g17, oc_M_g18, oc_M_p19, oc_M_g19, oc_M_g20, oc_M_g21, oc_M_g22, oc_M_g23, oc_M_p24, oc_M_g24, oc_M_g25, sg_D_hasEdgeWithin_2, dr_10, Bool.not_true]
  | d + 1, i, hd, hi => by
    have ih := p_D_hasEdgeWithin2 hw hn h1 d (i + 1) (by omega) (by omega)
    rw [ev_D_hasEdgeWithin_2, pu_al]
    by_cases q : sp i = nI 0
    · simp (disch := omega) only [e_gi, e_gr, e_ob, e_ai, e_ar, e_ln, e_pf, e_pa, wr_eq, wr_ne, wr_wr, Option.map_some, Option.bind_some, hy_bi_s, hy_br_s, hy_bv_s, hy_xi_s, hy_xi_t, hy_xv_s, hy_xv_t, hy_k_l, hy_k_r, ia_ai, ia_pa, ia_ln, oc_a_ar, oc_o_pa, oc_r_ln, n_le_t, n_le_f, n_lt_t, n_lt_f, n_eq_t, n_eq_f, nI_add, pk_mul, n_sub, n_prd, ne_1, hy_b_t, hy_b_f, ↓reduceIte, true_or, or_true, Bool.false_eq_true, or_false, false_or, and_true, true_and, and_false, false_and, li_c, li_0, li_1, li_2, li_3, li_4, li_5, li_6, li_10, li_11, li_16, li_17, li_20, li_40, li_41, li_300, li_400, oc_H_ob, oc_H_g0, oc_H_g1, oc_H_g2, oc_H_g3, oc_H_g4, oc_H_p5, oc_H_g5, oc_N_ob, oc_N_g0, oc_N_p1, oc_N_g1, oc_N_g2, oc_N_p3, oc_N_g3, oc_D_ob, oc_D_g0, oc_D_g1, oc_D_p2, oc_D_g2, oc_G_ob, oc_G_g0, oc_G_g1, oc_G_p2, oc_G_g2, oc_G_p3, oc_G_g3, oc_G_p4, oc_G_g4, oc_L_ob, oc_L_g0, oc_L_g1, oc_L_g2, oc_L_g3, oc_L_g4, oc_L_p5, oc_L_g5, oc_L_p6, oc_L_g6, oc_L_p7, oc_L_g7, oc_A_ob, oc_A_g0, oc_A_p1, oc_A_g1, oc_A_p2, oc_A_g2, oc_A_p0, oc_U_ob, oc_U_g0, oc_U_g1, oc_M_ob, oc_M_p0, oc_M_g0, oc_M_p1, oc_M_g1, oc_M_g2, oc_M_g3, oc_M_g4, oc_M_g5, oc_M_g6, oc_M_g7, oc_M_p8, oc_M_g8, oc_M_g9, oc_M_g10, oc_M_p11, oc_M_g11, oc_M_g12, oc_M_g13, oc_M_p14, oc_M_g14, oc_M_g15, oc_M_g16, oc_M_g17, oc_M_g18, oc_M_p19, oc_M_g19, oc_M_g20, oc_M_g21, oc_M_g22, oc_M_g23, oc_M_p24, oc_M_g24, oc_M_g25, sg_D_hasEdgeWithin_2, dr_10, dr_11, q, decide_true, Bool.not_true, Bool.false_and, Bool.not_false]
    · simp (disch := omega) only [e_gi, e_gr, e_ob, e_ai, e_ar, e_ln, e_pf, e_pa, wr_eq, wr_ne, wr_wr, Option.map_some, Option.bind_some, hy_bi_s, hy_br_s, hy_bv_s, hy_xi_s, hy_xi_t, hy_xv_s, hy_xv_t, hy_k_l, hy_k_r, ia_ai, ia_pa, ia_ln, oc_a_ar, oc_o_pa, oc_r_ln, n_le_t, n_le_f, n_lt_t, n_lt_f, n_eq_t, n_eq_f, nI_add, pk_mul, n_sub, n_prd, ne_1, hy_b_t, hy_b_f, ↓reduceIte, true_or, or_true, Bool.false_eq_true, or_false, false_or, and_true, true_and, and_false, false_and, li_c, li_0, li_1, li_2, li_3, li_4, li_5, li_6, li_10, li_11, li_16, li_17, li_20, li_40, li_41, li_300, li_400, oc_H_ob, oc_H_g0, oc_H_g1, oc_H_g2, oc_H_g3, oc_H_g4, oc_H_p5, oc_H_g5, oc_N_ob, oc_N_g0, oc_N_p1, oc_N_g1, oc_N_g2, oc_N_p3, oc_N_g3, oc_D_ob, oc_D_g0, oc_D_g1, oc_D_p2, oc_D_g2, oc_G_ob, oc_G_g0, oc_G_g1, oc_G_p2, oc_G_g2, oc_G_p3, oc_G_g3, oc_G_p4, oc_G_g4, oc_L_ob, oc_L_g0, oc_L_g1, oc_L_g2, oc_L_g3, oc_L_g4, oc_L_p5, oc_L_g5, oc_L_p6, oc_L_g6, oc_L_p7, oc_L_g7, oc_A_ob, oc_A_g0, oc_A_p1, oc_A_g1, oc_A_p2, oc_A_g2, oc_A_p0, oc_U_ob, oc_U_g0, oc_U_g1, oc_M_ob, oc_M_p0, oc_M_g0, oc_M_p1, oc_M_g1, oc_M_g2, oc_M_g3, oc_M_g4, oc_M_g5, oc_M_g6, oc_M_g7, oc_M_p8, oc_M_g8, oc_M_g9, oc_M_g10, oc_M_p11, oc_M_g11, oc_M_g12, oc_M_g13, oc_M_p14, oc_M_g14, oc_M_g15, oc_M_g16, oc_M_g17, oc_M_g18, oc_M_p19, oc_M_g19, oc_M_g20, oc_M_g21, oc_M_g22, oc_M_g23, oc_M_p24, oc_M_g24, oc_M_g25, sg_D_hasEdgeWithin_2, dr_10, dr_11, q, ih, decide_false, Bool.not_false, Bool.true_and]
theorem p_D_hasEdgeWithin (hw : 12 < w.1.length) (hn : n ≤ 40) (h1 : 1 ≤ n) : f_D_hasEdgeWithin [.ref 10] (hy_dr w n sp vl) = some (.inl (some (.int (hy_b (!pu_al (fun k => !decide (sp k = nI 0)) (n - 2) 1)))), hy_dr w n sp vl) := by
  rw [f_D_hasEdgeWithin, ev_D_hasEdgeWithin_0, sg_D_hasEdgeWithin_0, hy_k_l]
  exact p_D_hasEdgeWithin2 hw hn h1 (n - 2) 1 (by omega) (by omega)
end DRS
/-- so far no fault in a pattern, in an exception -/
def hy_gp (q : hy_T4) : Bool := q.2.2.2 && pu_al (hy_nt q) (q.1 + 1) 0
def hy_ge (q : hy_T4) : Bool := (q.2.2.2 && pu_al (hy_nz q) q.1 0) && pu_al (hy_zt q) (q.1 + 1) 0
theorem gp_s {q : hy_T4} (h : hy_gp q = true) : q.2.2.2 = true ∧ ∀ k, k ≤ q.1 → ¬ q.2.2.1 k = nI 10 := by
  unfold hy_gp at h
  rw [Bool.and_eq_true, al_iff] at h
  refine ⟨h.1, fun k hk => ?_⟩
  have := h.2 k (Nat.zero_le _) (by omega)
  unfold hy_nt at this
  simpa using this
theorem gp_i {q : hy_T4} (h1 : q.2.2.2 = true) (h2 : ∀ k, k ≤ q.1 → ¬ q.2.2.1 k = nI 10) : hy_gp q = true := by
  unfold hy_gp
  rw [Bool.and_eq_true, al_iff]
  refine ⟨h1, fun j _ hj => ?_⟩
  unfold hy_nt
  rw [decide_eq_false (h2 j (by omega))]; rfl
theorem z_ne_ten : ¬ nI 0 = nI 10 := by decide +kernel
theorem gp_back {x : Int32} {q : hy_T4} (h : hy_gp (hy_r1 x q) = true) : hy_gp q = true := by
  obtain ⟨h1, h2⟩ := gp_s h
  by_cases c : x < nI 0
  · rw [r1_n c] at h1 h2
    dsimp only at h1 h2
    rw [Bool.and_eq_true] at h1
    have h3 := of_decide_eq_true h1.2
    refine gp_i h1.1 fun k hk => ?_
    by_cases e : k = q.1
    · rw [e, h3]; exact z_ne_ten
    · have := h2 k hk
      rw [up_ne e] at this
      exact this
  · rw [r1_p c] at h1 h2
    dsimp only at h1 h2
    refine gp_i h1 fun k hk => ?_
    have := h2 k (by omega)
    rw [up_ne (by omega)] at this
    exact this
theorem ge_s {q : hy_T4} (h : hy_ge q = true) : q.2.2.2 = true ∧ (∀ k, k < q.1 → ¬ q.2.1 k = nI 0) ∧ ∀ k, k ≤ q.1 → q.2.2.1 k = nI 0 ∨ q.2.2.1 k = nI 10 := by
  unfold hy_ge at h
  rw [Bool.and_eq_true, Bool.and_eq_true, al_iff, al_iff] at h
  refine ⟨h.1.1, fun k hk => ?_, fun k hk => ?_⟩
  · have := h.1.2 k (Nat.zero_le _) (by omega)
    unfold hy_nz at this
    simpa using this
  · have := h.2 k (Nat.zero_le _) (by omega)
    unfold hy_zt at this
    simpa using this
theorem ge_i {q : hy_T4} (h1 : q.2.2.2 = true) (h2 : ∀ k, k < q.1 → ¬ q.2.1 k = nI 0) (h3 : ∀ k, k ≤ q.1 → q.2.2.1 k = nI 0 ∨ q.2.2.1 k = nI 10) : hy_ge q = true := by
  unfold hy_ge
  rw [Bool.and_eq_true, Bool.and_eq_true, al_iff, al_iff]
  refine ⟨⟨h1, fun j _ hj => ?_⟩, fun j _ hj => ?_⟩
  · unfold hy_nz
    rw [decide_eq_false (h2 j (by omega))]; rfl
  · unfold hy_zt
    rcases h3 j (by omega) with h | h
    · rw [decide_eq_true h]; rfl
    · rw [decide_eq_true h]; simp
theorem ge_back {x : Int32} {q : hy_T4} (h : hy_ge (hy_r1 x q) = true) : hy_ge q = true := by
  obtain ⟨h1, h2, h4⟩ := ge_s h
  by_cases c : x < nI 0
  · rw [r1_n c] at h1 h2 h4
    dsimp only at h1 h2 h4
    rw [Bool.and_eq_true] at h1
    have h3 := of_decide_eq_true h1.2
    refine ge_i h1.1 h2 fun k hk => ?_
    by_cases e : k = q.1
    · rw [e]; exact Or.inl h3
    · have := h4 k hk
      rw [up_ne e] at this
      exact this
  · rw [r1_p c] at h1 h2 h4
    dsimp only at h1 h2 h4
    refine ge_i h1 (fun k hk => ?_) fun k hk => ?_
    · have := h2 k (by omega)
      rw [up_ne (by omega)] at this
      exact this
    · have := h4 k (by omega)
      rw [up_ne (by omega)] at this
      exact this
theorem gp_end {tl : Nat → Int32} {td : Nat} : ∀ {d i : Nat}, i + d = td → hy_gp (hy_rr tl td) = true → hy_gp (hy_rr tl i) = true
  | 0, i, h, g => by rw [show i = td by omega]; exact g
  | d + 1, i, h, g => by
    have := gp_end (d := d) (i := i + 1) (by omega) g
    rw [hy_rr] at this
    exact gp_back this
theorem ge_end {tl : Nat → Int32} {td : Nat} : ∀ {d i : Nat}, i + d = td → hy_ge (hy_rr tl td) = true → hy_ge (hy_rr tl i) = true
  | 0, i, h, g => by rw [show i = td by omega]; exact g
  | d + 1, i, h, g => by
    have := ge_end (d := d) (i := i + 1) (by omega) g
    rw [hy_rr] at this
    exact ge_back this
theorem neg_neg_ten {x : Int32} (h : -x = nI 10) : x = -nI 10 := by rw [← h, Int32.neg_neg]
/-- the class's pattern test is the reference's -/
theorem isP_same {q : hy_T4} {sp : Nat → Int32} (h : hy_to q.1 sp q.2.1) (hg : hy_gp q = true) : hy_isP q = (decide (q.1 ≤ 16) && (!pu_al (fun k => decide (sp k = nI 0)) q.1 0 && pu_al (fun k => !decide (sp k = nI 0)) (q.1 - 2) 1)) := by
  have e1 : pu_al (fun k => decide (sp k = nI 0)) q.1 0 = pu_al (hy_ze q) q.1 0 := al_ext fun j _ hj => by rw [h j (by omega)]; rfl
  have e2 : pu_al (fun k => !decide (sp k = nI 0)) (q.1 - 2) 1 = pu_al (hy_ed q) q.1 0 := by
    rw [Bool.eq_iff_iff, al_iff, al_iff]
    constructor
    · intro g j _ hj
      unfold hy_ed
      by_cases c1 : j = 0
      · rw [decide_eq_true c1]; simp
      · by_cases c2 : j = q.1 - 1
        · rw [decide_eq_true c2]; simp
        · have := g j (by omega) (by omega)
          rw [h j (by omega)] at this
          rw [this]; rfl
    · intro g j h1 h2
      have := g j (by omega) (by omega)
      unfold hy_ed at this
      rw [decide_eq_false (show ¬ j = 0 by omega), decide_eq_false (show ¬ j = q.1 - 1 by omega), Bool.or_false, Bool.or_false] at this
      rw [h j (by omega)]
      exact this
  obtain ⟨g1, g2⟩ := gp_s hg
  have e3 : pu_al (hy_nt q) (q.1 + 1) 0 = true := by
    unfold hy_gp at hg
    rw [Bool.and_eq_true] at hg
    exact hg.2
  unfold hy_isP
  rw [e1, e2, e3, g1]
  by_cases c : 0 < q.1
  · rw [decide_eq_true c]
    cases decide (q.1 ≤ 16) <;> cases pu_al (hy_ed q) q.1 0 <;> cases pu_al (hy_ze q) q.1 0 <;> rfl
  · rw [decide_eq_false c, show q.1 = 0 by omega]
    rfl
theorem isP_gp {q : hy_T4} (h : hy_isP q = true) : hy_gp q = true := by
  unfold hy_isP at h
  unfold hy_gp
  simp only [Bool.and_eq_true] at h ⊢
  exact ⟨h.1.1.1.1.1, h.1.2⟩
theorem isE_same {q : hy_T4} {sp : Nat → Int32} (h : hy_to q.1 sp q.2.1) (hg : hy_ge q = true) : hy_isE q = !pu_al (fun k => decide (sp k = nI 0)) q.1 0 := by
  obtain ⟨g1, g2, g3⟩ := ge_s hg
  have hg' := hg
  unfold hy_ge at hg'
  rw [Bool.and_eq_true, Bool.and_eq_true] at hg'
  unfold hy_isE
  rw [hg'.2, hg'.1.2, g1]
  by_cases c : 0 < q.1
  · have : pu_al (fun k => decide (sp k = nI 0)) q.1 0 = false := by
      rw [← Bool.not_eq_true, al_iff]
      intro g
      have := of_decide_eq_true (g 0 (Nat.le_refl _) (by omega))
      rw [h 0 c] at this
      exact g2 0 c this
    rw [this, decide_eq_true c]; rfl
  · rw [decide_eq_false c, show q.1 = 0 by omega]; rfl
theorem isE_ge {q : hy_T4} (h : hy_isE q = true) : hy_ge q = true := by
  unfold hy_isE at h
  unfold hy_ge
  simp only [Bool.and_eq_true] at h ⊢
  exact ⟨⟨h.1.1.1, h.1.2⟩, h.2⟩
/-- values of an exception: 1 for a hyphen -/
def hy_hy (f : Nat → Int32) (k : Nat) : Int32 := if f k = nI 10 then nI 1 else nI 0
section DRT
variable {w : hy_W} {td : Nat} {lo : Int32} {tl g : Nat → Int32}
theorem p_D_readPattern6 (hw : 12 < w.1.length) (h4 : w.1[4]? = some (oc_N 6 5 lo td)) (h6 : w.1[6]? = some (hy_ia 40 g)) (hg : hy_to td g tl) (htd : td ≤ 40) : ∀ (d i : Nat) (sp vl : Nat → Int32), td - i = d → i ≤ td → hy_ag (hy_rr tl i) sp vl → hy_gp (hy_rr tl i) = true → ∃ n' sp' vl', hy_fx nx_D_readPattern (6, [.ref 10, .ref 4, .int (nI i)], hy_dr w (hy_rr tl i).1 sp vl) = some (.inl (some (.int (hy_b (hy_isP (hy_rr tl td))))), hy_dr w n' sp' vl') ∧ (hy_isP (hy_rr tl td) = true → n' = (hy_rr tl td).1 ∧ hy_ag (hy_rr tl td) sp' vl')
  | 0, i, sp, vl, hd, hi, ha, hp => by
    have e : i = td := by omega
    subst e
    have hle := rr_le (tl := tl) i
    refine ⟨(hy_rr tl i).1, sp, vl, ?_, fun _ => ⟨rfl, ha⟩⟩
    have k4 := (dr_ne (w := w) (n := (hy_rr tl i).1) (sp := sp) (vl := vl) (k := 4) (by omega)).trans h4
    have e1 := p_D_hasLetter (w := w) (n := (hy_rr tl i).1) (sp := sp) (vl := vl) hw (by omega)
    rw [isP_same ha.1 hp, ev_D_readPattern_6]
    by_cases q1 : (hy_rr tl i).1 ≤ 16
    · rw [decide_eq_true q1, Bool.true_and]
      cases q2 : pu_al (fun k => decide (sp k = nI 0)) (hy_rr tl i).1 0
      · rw [q2] at e1
        have h1 : 1 ≤ (hy_rr tl i).1 := by
          apply Nat.lt_of_not_le
          intro h
          rw [show (hy_rr tl i).1 = 0 by omega] at q2
          cases q2
        have e2 := p_D_hasEdgeWithin (w := w) (n := (hy_rr tl i).1) (sp := sp) (vl := vl) hw (by omega) h1
        cases q3 : pu_al (fun k => !decide (sp k = nI 0)) ((hy_rr tl i).1 - 2) 1
        · rw [q3] at e2
          rw [Bool.not_false] at e1 e2
          simp (disch := omega) only [e_gi, e_gr, e_ob, e_ai, e_ar, e_ln, e_pf, e_pa, wr_eq, wr_ne, wr_wr, Option.map_some, Option.bind_some, hy_bi_s, hy_br_s, hy_bv_s, hy_xi_s, hy_xi_t, hy_xv_s, hy_xv_t, hy_k_l, hy_k_r, ia_ai, ia_pa, ia_ln, oc_a_ar, oc_o_pa, oc_r_ln, n_le_t, n_le_f, n_lt_t, n_lt_f, n_eq_t, n_eq_f, nI_add, pk_mul, n_sub, n_prd, ne_1, hy_b_t, hy_b_f, ↓reduceIte, true_or, or_true, Bool.false_eq_true, or_false, false_or, and_true, true_and, and_false, false_and, li_c, li_0, li_1, li_2, li_3, li_4, li_5, li_6, li_10, li_11, li_16, li_17, li_20, li_40, li_41, li_300, li_400, oc_H_ob, oc_H_g0, oc_H_g1, oc_H_g2, oc_H_g3, oc_H_g4, oc_H_p5, oc_H_g5, oc_N_ob, oc_N_g0, oc_N_p1, oc_N_g1, oc_N_g2, oc_N_p3, oc_N_g3, oc_D_ob, oc_D_g0, oc_D_g1, oc_D_p2, oc_D_g2, oc_G_ob, oc_G_g0, oc_G_g1, oc_G_p2, oc_G_g2, oc_G_p3, oc_G_g3, oc_G_p4, oc_G_g4, oc_L_ob, oc_L_g0, oc_L_g1, oc_L_g2, oc_L_g3, oc_L_g4, oc_L_p5, oc_L_g5, oc_L_p6, oc_L_g6, oc_L_p7, oc_L_g7, oc_A_ob, oc_A_g0, oc_A_p1, oc_A_g1, oc_A_p2, oc_A_g2, oc_A_p0, oc_U_ob, oc_U_g0, oc_U_g1, oc_M_ob, oc_M_p0, oc_M_g0, oc_M_p1, oc_M_g1, oc_M_g2, oc_M_g3, oc_M_g4, oc_M_g5, oc_M_g6, oc_M_g7, oc_M_p8, oc_M_g8, oc_M_g9, oc_M_g10, oc_M_p11, oc_M_g11, oc_M_g12, oc_M_g13, oc_M_p14, oc_M_g14, oc_M_g15, oc_M_g16, oc_M_g17, oc_M_g18, oc_M_p19, oc_M_g19, oc_M_g20, oc_M_g21, oc_M_g22, oc_M_g23, oc_M_p24, oc_M_g24, oc_M_g25, sg_D_readPattern_6, k4, dr_10, e1, e2, ev_D_readPattern_95, sg_D_readPattern_95, Bool.and_false]
        · rw [q3] at e2
          rw [Bool.not_false] at e1
          rw [Bool.not_true] at e2
          simp (disch := omega) only [e_gi, e_gr, e_ob, e_ai, e_ar, e_ln, e_pf, e_pa, wr_eq, wr_ne, wr_wr, Option.map_some, Option.bind_some, hy_bi_s, hy_br_s, hy_bv_s, hy_xi_s, hy_xi_t, hy_xv_s, hy_xv_t, hy_k_l, hy_k_r, ia_ai, ia_pa, ia_ln, oc_a_ar, oc_o_pa, oc_r_ln, n_le_t, n_le_f, n_lt_t, n_lt_f, n_eq_t, n_eq_f, nI_add, pk_mul, n_sub, n_prd, ne_1, hy_b_t, hy_b_f, ↓reduceIte, true_or, or_true, Bool.false_eq_true, or_false, false_or, and_true, true_and, and_false, false_and, li_c, li_0, li_1, li_2, li_3, li_4, li_5, li_6, li_10, li_11, li_16, li_17, li_20, li_40, li_41, li_300, li_400, oc_H_ob, oc_H_g0, oc_H_g1, oc_H_g2, oc_H_g3, oc_H_g4, oc_H_p5, oc_H_g5, oc_N_ob, oc_N_g0, oc_N_p1, oc_N_g1, oc_N_g2, oc_N_p3, oc_N_g3, oc_D_ob, oc_D_g0, oc_D_g1, oc_D_p2, oc_D_g2, oc_G_ob, oc_G_g0, oc_G_g1, oc_G_p2, oc_G_g2, oc_G_p3, oc_G_g3, oc_G_p4, oc_G_g4, oc_L_ob, oc_L_g0, oc_L_g1, oc_L_g2, oc_L_g3, oc_L_g4, oc_L_p5, oc_L_g5, oc_L_p6, oc_L_g6, oc_L_p7, oc_L_g7, oc_A_ob, oc_A_g0, oc_A_p1, oc_A_g1, oc_A_p2, oc_A_g2, oc_A_p0, oc_U_ob, oc_U_g0, oc_U_g1, oc_M_ob, oc_M_p0, oc_M_g0, oc_M_p1, oc_M_g1, oc_M_g2, oc_M_g3, oc_M_g4, oc_M_g5, oc_M_g6, oc_M_g7, oc_M_p8, oc_M_g8, oc_M_g9, oc_M_g10, oc_M_p11, oc_M_g11, oc_M_g12, oc_M_g13, oc_M_p14, oc_M_g14, oc_M_g15, oc_M_g16, oc_M_g17, oc_M_g18, oc_M_p19, oc_M_g19, oc_M_g20, oc_M_g21, oc_M_g22, oc_M_g23, oc_M_p24, oc_M_g24, oc_M_g25, sg_D_readPattern_6, k4, dr_10, e1, e2, Bool.not_false, Bool.and_true]
      · rw [q2, Bool.not_true] at e1
        simp (disch := omega) only [e_gi, e_gr, e_ob, e_ai, e_ar, e_ln, e_pf, e_pa, wr_eq, wr_ne, wr_wr, Option.map_some, Option.bind_some, hy_bi_s, hy_br_s, hy_bv_s, hy_xi_s, hy_xi_t, hy_xv_s, hy_xv_t, hy_k_l, hy_k_r, ia_ai, ia_pa, ia_ln, oc_a_ar, oc_o_pa, oc_r_ln, n_le_t, n_le_f, n_lt_t, n_lt_f, n_eq_t, n_eq_f, nI_add, pk_mul, n_sub, n_prd, ne_1, hy_b_t, hy_b_f, ↓reduceIte, true_or, or_true, Bool.false_eq_true, or_false, false_or, and_true, true_and, and_false, false_and, li_c, li_0, li_1, li_2, li_3, li_4, li_5, li_6, li_10, li_11, li_16, li_17, li_20, li_40, li_41, li_300, li_400, oc_H_ob, oc_H_g0, oc_H_g1, oc_H_g2, oc_H_g3, oc_H_g4, oc_H_p5, oc_H_g5, oc_N_ob, oc_N_g0, oc_N_p1, oc_N_g1, oc_N_g2, oc_N_p3, oc_N_g3, oc_D_ob, oc_D_g0, oc_D_g1, oc_D_p2, oc_D_g2, oc_G_ob, oc_G_g0, oc_G_g1, oc_G_p2, oc_G_g2, oc_G_p3, oc_G_g3, oc_G_p4, oc_G_g4, oc_L_ob, oc_L_g0, oc_L_g1, oc_L_g2, oc_L_g3, oc_L_g4, oc_L_p5, oc_L_g5, oc_L_p6, oc_L_g6, oc_L_p7, oc_L_g7, oc_A_ob, oc_A_g0, oc_A_p1, oc_A_g1, oc_A_p2, oc_A_g2, oc_A_p0, oc_U_ob, oc_U_g0, oc_U_g1, oc_M_ob, oc_M_p0, oc_M_g0, oc_M_p1, oc_M_g1, oc_M_g2, oc_M_g3, oc_M_g4, oc_M_g5, oc_M_g6, oc_M_g7, oc_M_p8, oc_M_g8, oc_M_g9, oc_M_g10, oc_M_p11, oc_M_g11, oc_M_g12, oc_M_g13, oc_M_p14, oc_M_g14, oc_M_g15, oc_M_g16, oc_M_g17, oc_M_g18, oc_M_p19, oc_M_g19, oc_M_g20, oc_M_g21, oc_M_g22, oc_M_g23, oc_M_p24, oc_M_g24, oc_M_g25, sg_D_readPattern_6, k4, dr_10, e1, ev_D_readPattern_95, sg_D_readPattern_95, Bool.not_true, Bool.false_and]
    · rw [decide_eq_false q1, Bool.false_and]
      simp (disch := omega) only [e_gi, e_gr, e_ob, e_ai, e_ar, e_ln, e_pf, e_pa, wr_eq, wr_ne, wr_wr, Option.map_some, Option.bind_some, hy_bi_s, hy_br_s, hy_bv_s, hy_xi_s, hy_xi_t, hy_xv_s, hy_xv_t, hy_k_l, hy_k_r, ia_ai, ia_pa, ia_ln, oc_a_ar, oc_o_pa, oc_r_ln, n_le_t, n_le_f, n_lt_t, n_lt_f, n_eq_t, n_eq_f, nI_add, pk_mul, n_sub, n_prd, ne_1, hy_b_t, hy_b_f, ↓reduceIte, true_or, or_true, Bool.false_eq_true, or_false, false_or, and_true, true_and, and_false, false_and, li_c, li_0, li_1, li_2, li_3, li_4, li_5, li_6, li_10, li_11, li_16, li_17, li_20, li_40, li_41, li_300, li_400, oc_H_ob, oc_H_g0, oc_H_g1, oc_H_g2, oc_H_g3, oc_H_g4, oc_H_p5, oc_H_g5, oc_N_ob, oc_N_g0, oc_N_p1, oc_N_g1, oc_N_g2, oc_N_p3, oc_N_g3, oc_D_ob, oc_D_g0, oc_D_g1, oc_D_p2, oc_D_g2, oc_G_ob, oc_G_g0, oc_G_g1, oc_G_p2, oc_G_g2, oc_G_p3, oc_G_g3, oc_G_p4, oc_G_g4, oc_L_ob, oc_L_g0, oc_L_g1, oc_L_g2, oc_L_g3, oc_L_g4, oc_L_p5, oc_L_g5, oc_L_p6, oc_L_g6, oc_L_p7, oc_L_g7, oc_A_ob, oc_A_g0, oc_A_p1, oc_A_g1, oc_A_p2, oc_A_g2, oc_A_p0, oc_U_ob, oc_U_g0, oc_U_g1, oc_M_ob, oc_M_p0, oc_M_g0, oc_M_p1, oc_M_g1, oc_M_g2, oc_M_g3, oc_M_g4, oc_M_g5, oc_M_g6, oc_M_g7, oc_M_p8, oc_M_g8, oc_M_g9, oc_M_g10, oc_M_p11, oc_M_g11, oc_M_g12, oc_M_g13, oc_M_p14, oc_M_g14, oc_M_g15, oc_M_g16, oc_M_g17, oc_M_g18, oc_M_p19, oc_M_g19, oc_M_g20, oc_M_g21, oc_M_g22, oc_M_g23, oc_M_p24, oc_M_g24, oc_M_g25, sg_D_readPattern_6, k4, dr_10, ev_D_readPattern_95, sg_D_readPattern_95]
  | d + 1, i, sp, vl, hd, hi, ha, hp => by
    have hle := rr_le (tl := tl) i
    have k4 := (dr_ne (w := w) (n := (hy_rr tl i).1) (sp := sp) (vl := vl) (k := 4) (by omega)).trans h4
    have k6 := (dr_ne (w := w) (n := (hy_rr tl i).1) (sp := sp) (vl := vl) (k := 6) (by omega)).trans h6
    have hgi := hg i (by omega)
    obtain ⟨g1, g2⟩ := gp_s hp
    have hv := ha.2 (hy_rr tl i).1 (by omega)
    by_cases q : tl i < nI 0
    · by_cases q10 : tl i = -nI 10
      · have hf : hy_isP (hy_rr tl td) = false := by
          rw [← Bool.not_eq_true]
          intro h
          have h1 := gp_end (d := d) (i := i + 1) (by omega) (isP_gp h)
          rw [hy_rr, r1_n q] at h1
          have h2 := (gp_s h1).2 (hy_rr tl i).1 (Nat.le_refl _)
          dsimp only at h2
          rw [up_eq, q10, Int32.neg_neg] at h2
          exact h2 rfl
        refine ⟨(hy_rr tl i).1, sp, vl, ?_, fun h => by rw [hf] at h; cases h⟩
        rw [hf, ev_D_readPattern_6]
        rw [q10] at q hgi
        simp (disch := omega) only [e_gi, e_gr, e_ob, e_ai, e_ar, e_ln, e_pf, e_pa, wr_eq, wr_ne, wr_wr, Option.map_some, Option.bind_some, hy_bi_s, hy_br_s, hy_bv_s, hy_xi_s, hy_xi_t, hy_xv_s, hy_xv_t, hy_k_l, hy_k_r, ia_ai, ia_pa, ia_ln, oc_a_ar, oc_o_pa, oc_r_ln, n_le_t, n_le_f, n_lt_t, n_lt_f, n_eq_t, n_eq_f, nI_add, pk_mul, n_sub, n_prd, ne_1, hy_b_t, hy_b_f, ↓reduceIte, true_or, or_true, Bool.false_eq_true, or_false, false_or, and_true, true_and, and_false, false_and, li_c, li_0, li_1, li_2, li_3, li_4, li_5, li_6, li_10, li_11, li_16, li_17, li_20, li_40, li_41, li_300, li_400, oc_H_ob, oc_H_g0, oc_H_g1, oc_H_g2, oc_H_g3, oc_H_g4, oc_H_p5, oc_H_g5, oc_N_ob, oc_N_g0, oc_N_p1, oc_N_g1, oc_N_g2, oc_N_p3, oc_N_g3, oc_D_ob, oc_D_g0, oc_D_g1, oc_D_p2, oc_D_g2, oc_G_ob, oc_G_g0, oc_G_g1, oc_G_p2, oc_G_g2, oc_G_p3, oc_G_g3, oc_G_p4, oc_G_g4, oc_L_ob, oc_L_g0, oc_L_g1, oc_L_g2, oc_L_g3, oc_L_g4, oc_L_p5, oc_L_g5, oc_L_p6, oc_L_g6, oc_L_p7, oc_L_g7, oc_A_ob, oc_A_g0, oc_A_p1, oc_A_g1, oc_A_p2, oc_A_g2, oc_A_p0, oc_U_ob, oc_U_g0, oc_U_g1, oc_M_ob, oc_M_p0, oc_M_g0, oc_M_p1, oc_M_g1, oc_M_g2, oc_M_g3, oc_M_g4, oc_M_g5, oc_M_g6, oc_M_g7, oc_M_p8, oc_M_g8, oc_M_g9, oc_M_g10, oc_M_p11, oc_M_g11, oc_M_g12, oc_M_g13, oc_M_p14, oc_M_g14, oc_M_g15, oc_M_g16, oc_M_g17, oc_M_g18, oc_M_p19, oc_M_g19, oc_M_g20, oc_M_g21, oc_M_g22, oc_M_g23, oc_M_p24, oc_M_g24, oc_M_g25, sg_D_readPattern_6, k4, k6, hgi, q, ev_D_readPattern_52, sg_D_readPattern_52, ev_D_readPattern_53, sg_D_readPattern_53]
      · by_cases q0 : (hy_rr tl i).2.2.1 (hy_rr tl i).1 = nI 0
        · have e1 := p_D_takeValue (w := w) (n := (hy_rr tl i).1) (sp := sp) (vl := vl) hw (by omega) (-tl i) (hv.trans q0)
          have hp' : hy_gp (hy_rr tl (i + 1)) = true := by
            rw [hy_rr, r1_n q]
            refine gp_i ?_ fun k hk => ?_
            · dsimp only
              rw [g1, decide_eq_true q0]; rfl
            · dsimp only at hk ⊢
              by_cases e : k = (hy_rr tl i).1
              · rw [e, up_eq]
                exact fun h => q10 (neg_neg_ten h)
              · rw [up_ne e]; exact g2 k hk
          obtain ⟨n', sp', vl', e2, e3⟩ := p_D_readPattern6 hw h4 h6 hg htd d (i + 1) sp (hy_up vl (hy_rr tl i).1 (-tl i)) (by omega) (by omega) (by rw [hy_rr]; exact ag_n q ha) hp'
          refine ⟨n', sp', vl', ?_, e3⟩
          rw [← e2, hy_rr, r1_n q, ev_D_readPattern_6]
          dsimp only
          simp (disch := omega) only [e_gi, e_gr, e_ob, e_ai, e_ar, e_ln, e_pf, e_pa, wr_eq, wr_ne, wr_wr, Option.map_some, Option.bind_some, hy_bi_s, hy_br_s, hy_bv_s, hy_xi_s, hy_xi_t, hy_xv_s, hy_xv_t, hy_k_l, hy_k_r, ia_ai, ia_pa, ia_ln, oc_a_ar, oc_o_pa, oc_r_ln, n_le_t, n_le_f, n_lt_t, n_lt_f, n_eq_t, n_eq_f, nI_add, pk_mul, n_sub, n_prd, ne_1, hy_b_t, hy_b_f, ↓reduceIte, true_or, or_true, Bool.false_eq_true, or_false, false_or, and_true, true_and, and_false, false_and, li_c, li_0, li_1, li_2, li_3, li_4, li_5, li_6, li_10, li_11, li_16, li_17, li_20, li_40, li_41, li_300, li_400, oc_H_ob, oc_H_g0, oc_H_g1, oc_H_g2, oc_H_g3, oc_H_g4, oc_H_p5, oc_H_g5, oc_N_ob, oc_N_g0, oc_N_p1, oc_N_g1, oc_N_g2, oc_N_p3, oc_N_g3, oc_D_ob, oc_D_g0, oc_D_g1, oc_D_p2, oc_D_g2, oc_G_ob, oc_G_g0, oc_G_g1, oc_G_p2, oc_G_g2, oc_G_p3, oc_G_g3, oc_G_p4, oc_G_g4, oc_L_ob, oc_L_g0, oc_L_g1, oc_L_g2, oc_L_g3, oc_L_g4, oc_L_p5, oc_L_g5, oc_L_p6, oc_L_g6, oc_L_p7, oc_L_g7, oc_A_ob, oc_A_g0, oc_A_p1, oc_A_g1, oc_A_p2, oc_A_g2, oc_A_p0, oc_U_ob, oc_U_g0, oc_U_g1, oc_M_ob, oc_M_p0, oc_M_g0, oc_M_p1, oc_M_g1, oc_M_g2, oc_M_g3, oc_M_g4, oc_M_g5, oc_M_g6, oc_M_g7, oc_M_p8, oc_M_g8, oc_M_g9, oc_M_g10, oc_M_p11, oc_M_g11, oc_M_g12, oc_M_g13, oc_M_p14, oc_M_g14, oc_M_g15, oc_M_g16, oc_M_g17, oc_M_g18, oc_M_p19, oc_M_g19, oc_M_g20, oc_M_g21, oc_M_g22, oc_M_g23, oc_M_p24, oc_M_g24, oc_M_g25, sg_D_readPattern_6, k4, k6, hgi, q, q10, dr_10, e1, ev_D_readPattern_53, sg_D_readPattern_53]
        · have e1 := p_D_takeValue_f (w := w) (n := (hy_rr tl i).1) (sp := sp) (vl := vl) hw (by omega) (-tl i) (fun h => q0 (hv.symm.trans h))
          have hf : hy_isP (hy_rr tl td) = false := by
            rw [← Bool.not_eq_true]
            intro h
            have h1 := gp_end (d := d) (i := i + 1) (by omega) (isP_gp h)
            rw [hy_rr, r1_n q] at h1
            have h2 := (gp_s h1).1
            dsimp only at h2
            rw [decide_eq_false q0, Bool.and_false] at h2
            cases h2
          refine ⟨(hy_rr tl i).1, sp, vl, ?_, fun h => by rw [hf] at h; cases h⟩
          rw [hf, ev_D_readPattern_6]
          simp (disch := omega) only [e_gi, e_gr, e_ob, e_ai, e_ar, e_ln, e_pf, e_pa, wr_eq, wr_ne, wr_wr, Option.map_some, Option.bind_some, hy_bi_s, hy_br_s, hy_bv_s, hy_xi_s, hy_xi_t, hy_xv_s, hy_xv_t, hy_k_l, hy_k_r, ia_ai, ia_pa, ia_ln, oc_a_ar, oc_o_pa, oc_r_ln, n_le_t, n_le_f, n_lt_t, n_lt_f, n_eq_t, n_eq_f, nI_add, pk_mul, n_sub, n_prd, ne_1, hy_b_t, hy_b_f, ↓reduceIte, true_or, or_true, Bool.false_eq_true, or_false, false_or, and_true, true_and, and_false, false_and, li_c, li_0, li_1, li_2, li_3, li_4, li_5, li_6, li_10, li_11, li_16, li_17, li_20, li_40, li_41, li_300, li_400, oc_H_ob, oc_H_g0, oc_H_g1, oc_H_g2, oc_H_g3, oc_H_g4, oc_H_p5, oc_H_g5, oc_N_ob, oc_N_g0, oc_N_p1, oc_N_g1, oc_N_g2, oc_N_p3, oc_N_g3, oc_D_ob, oc_D_g0, oc_D_g1, oc_D_p2, oc_D_g2, oc_G_ob, oc_G_g0, oc_G_g1, oc_G_p2, oc_G_g2, oc_G_p3, oc_G_g3, oc_G_p4, oc_G_g4, oc_L_ob, oc_L_g0, oc_L_g1, oc_L_g2, oc_L_g3, oc_L_g4, oc_L_p5, oc_L_g5, oc_L_p6, oc_L_g6, oc_L_p7, oc_L_g7, oc_A_ob, oc_A_g0, oc_A_p1, oc_A_g1, oc_A_p2, oc_A_g2, oc_A_p0, oc_U_ob, oc_U_g0, oc_U_g1, oc_M_ob, oc_M_p0, oc_M_g0, oc_M_p1, oc_M_g1, oc_M_g2, oc_M_g3, oc_M_g4, oc_M_g5, oc_M_g6, oc_M_g7, oc_M_p8, oc_M_g8, oc_M_g9, oc_M_g10, oc_M_p11, oc_M_g11, oc_M_g12, oc_M_g13, oc_M_p14, oc_M_g14, oc_M_g15, oc_M_g16, oc_M_g17, oc_M_g18, oc_M_p19, oc_M_g19, oc_M_g20, oc_M_g21, oc_M_g22, oc_M_g23, oc_M_p24, oc_M_g24, oc_M_g25, sg_D_readPattern_6, k4, k6, hgi, q, q10, dr_10, e1, ev_D_readPattern_52, sg_D_readPattern_52, ev_D_readPattern_53, sg_D_readPattern_53]
    · have e1 := p_D_takeLetter (w := w) (n := (hy_rr tl i).1) (sp := sp) (vl := vl) hw (by omega) (tl i)
      have hp' : hy_gp (hy_rr tl (i + 1)) = true := by
        rw [hy_rr, r1_p q]
        refine gp_i g1 fun k hk => ?_
        dsimp only at hk ⊢
        by_cases e : k = (hy_rr tl i).1 + 1
        · rw [e, up_eq]; exact z_ne_ten
        · rw [up_ne e]; exact g2 k (by omega)
      obtain ⟨n', sp', vl', e2, e3⟩ := p_D_readPattern6 hw h4 h6 hg htd d (i + 1) (hy_up sp (hy_rr tl i).1 (tl i)) (hy_up vl ((hy_rr tl i).1 + 1) (nI 0)) (by omega) (by omega) (by rw [hy_rr]; exact ag_p q ha) hp'
      refine ⟨n', sp', vl', ?_, e3⟩
      rw [← e2, hy_rr, r1_p q, ev_D_readPattern_6]
      dsimp only
      simp (disch := omega) only [e_gi, e_gr, e_ob, e_ai, e_ar, e_ln, e_pf, e_pa, wr_eq, wr_ne, wr_wr, Option.map_some, Option.bind_some, hy_bi_s, hy_br_s, hy_bv_s, hy_xi_s, hy_xi_t, hy_xv_s, hy_xv_t, hy_k_l, hy_k_r, ia_ai, ia_pa, ia_ln, oc_a_ar, oc_o_pa, oc_r_ln, n_le_t, n_le_f, n_lt_t, n_lt_f, n_eq_t, n_eq_f, nI_add, pk_mul, n_sub, n_prd, ne_1, hy_b_t, hy_b_f, ↓reduceIte, true_or, or_true, Bool.false_eq_true, or_false, false_or, and_true, true_and, and_false, false_and, li_c, li_0, li_1, li_2, li_3, li_4, li_5, li_6, li_10, li_11, li_16, li_17, li_20, li_40, li_41, li_300, li_400, oc_H_ob, oc_H_g0, oc_H_g1, oc_H_g2, oc_H_g3, oc_H_g4, oc_H_p5, oc_H_g5, oc_N_ob, oc_N_g0, oc_N_p1, oc_N_g1, oc_N_g2, oc_N_p3, oc_N_g3, oc_D_ob, oc_D_g0, oc_D_g1, oc_D_p2, oc_D_g2, oc_G_ob, oc_G_g0, oc_G_g1, oc_G_p2, oc_G_g2, oc_G_p3, oc_G_g3, oc_G_p4, oc_G_g4, oc_L_ob, oc_L_g0, oc_L_g1, oc_L_g2, oc_L_g3, oc_L_g4, oc_L_p5, oc_L_g5, oc_L_p6, oc_L_g6, oc_L_p7, oc_L_g7, oc_A_ob, oc_A_g0, oc_A_p1, oc_A_g1, oc_A_p2, oc_A_g2, oc_A_p0, oc_U_ob, oc_U_g0, oc_U_g1, oc_M_ob, oc_M_p0, oc_M_g0, oc_M_p1, oc_M_g1, oc_M_g2, oc_M_g3, oc_M_g4, oc_M_g5, oc_M_g6, oc_M_g7, oc_M_p8, oc_M_g8, oc_M_g9, oc_M_g10, oc_M_p11, oc_M_g11, oc_M_g12, oc_M_g13, oc_M_p14, oc_M_g14, oc_M_g15, oc_M_g16, oc_M_g17, oc_M_g18, oc_M_p19, oc_M_g19, oc_M_g20, oc_M_g21, oc_M_g22, oc_M_g23, oc_M_p24, oc_M_g24, oc_M_g25, sg_D_readPattern_6, k4, k6, hgi, q, dr_10, e1, ev_D_readPattern_53, sg_D_readPattern_53]
theorem p_D_readPattern (hw : 12 < w.1.length) (h4 : w.1[4]? = some (oc_N 6 5 lo td)) (h6 : w.1[6]? = some (hy_ia 40 g)) (hg : hy_to td g tl) (htd : td ≤ 40) (n : Nat) (sp vl : Nat → Int32) : ∃ n' sp' vl', f_D_readPattern [.ref 10, .ref 4] (hy_dr w n sp vl) = some (.inl (some (.int (hy_b (hy_isP (hy_rr tl td))))), hy_dr w n' sp' vl') ∧ (hy_isP (hy_rr tl td) = true → n' = (hy_rr tl td).1 ∧ hy_ag (hy_rr tl td) sp' vl') := by
  obtain ⟨n', sp', vl', e1, e2⟩ := p_D_readPattern6 hw h4 h6 hg htd td 0 sp (hy_up vl 0 (nI 0)) (by omega) (by omega) ⟨fun k hk => absurd hk (Nat.not_lt_zero k), fun k hk => by
    have : k = 0 := by have : k < 0 + 1 := hk; omega
    rw [this, up_eq]; rfl⟩ (gp_i rfl fun k hk => z_ne_ten)
  refine ⟨n', sp', vl', ?_, e2⟩
  have e3 := p_D_start (w := w) (n := n) (sp := sp) (vl := vl) hw
  rw [f_D_readPattern, ev_D_readPattern_0, ← e1]
  simp (disch := omega) only [e_gi, e_gr, e_ob, e_ai, e_ar, e_ln, e_pf, e_pa, wr_eq, wr_ne, wr_wr, Option.map_some, Option.bind_some, hy_bi_s, hy_br_s, hy_bv_s, hy_xi_s, hy_xi_t, hy_xv_s, hy_xv_t, hy_k_l, hy_k_r, ia_ai, ia_pa, ia_ln, oc_a_ar, oc_o_pa, oc_r_ln, n_le_t, n_le_f, n_lt_t, n_lt_f, n_eq_t, n_eq_f, nI_add, pk_mul, n_sub, n_prd, ne_1, hy_b_t, hy_b_f, ↓reduceIte, true_or, or_true, Bool.false_eq_true, or_false, false_or, and_true, true_and, and_false, false_and, li_c, li_0, li_1, li_2, li_3, li_4, li_5, li_6, li_10, li_11, li_16, li_17, li_20, li_40, li_41, li_300, li_400, oc_H_ob, oc_H_g0, oc_H_g1, oc_H_g2, oc_H_g3, oc_H_g4, oc_H_p5, oc_H_g5, oc_N_ob, oc_N_g0, oc_N_p1, oc_N_g1, oc_N_g2, oc_N_p3, oc_N_g3, oc_D_ob, oc_D_g0, oc_D_g1, oc_D_p2, oc_D_g2, oc_G_ob, oc_G_g0, oc_G_g1, oc_G_p2, oc_G_g2, oc_G_p3, oc_G_g3, oc_G_p4, oc_G_g4, oc_L_ob, oc_L_g0, oc_L_g1, oc_L_g2, oc_L_g3, oc_L_g4, oc_L_p5, oc_L_g5, oc_L_p6, oc_L_g6, oc_L_p7, oc_L_g7, oc_A_ob, oc_A_g0, oc_A_p1, oc_A_g1, oc_A_p2, oc_A_g2, oc_A_p0, oc_U_ob, oc_U_g0, oc_U_g1, oc_M_ob, oc_M_p0, oc_M_g0, oc_M_p1, oc_M_g1, oc_M_g2, oc_M_g3, oc_M_g4, oc_M_g5, oc_M_g6, oc_M_g7, oc_M_p8, oc_M_g8, oc_M_g9, oc_M_g10, oc_M_p11, oc_M_g11, oc_M_g12, oc_M_g13, oc_M_p14, oc_M_g14, oc_M_g15, oc_M_g16, oc_M_g17, oc_M_g18, oc_M_p19, oc_M_g19, oc_M_g20, oc_M_g21, oc_M_g22, oc_M_g23, oc_M_p24, oc_M_g24, oc_M_g25, sg_D_readPattern_0, dr_10, e3]
  rfl
/-- the draft of an exception agrees with what was read -/
def hy_ae (q : hy_T4) (sp vl : Nat → Int32) : Prop := hy_to q.1 sp q.2.1 ∧ hy_to (q.1 + 1) vl (hy_hy q.2.2.1)
theorem p_D_readException6 (hw : 12 < w.1.length) (h4 : w.1[4]? = some (oc_N 6 5 lo td)) (h6 : w.1[6]? = some (hy_ia 40 g)) (hg : hy_to td g tl) (htd : td ≤ 40) : ∀ (d i : Nat) (sp vl : Nat → Int32), td - i = d → i ≤ td → hy_ae (hy_rr tl i) sp vl → hy_ge (hy_rr tl i) = true → ∃ n' sp' vl', hy_fx nx_D_readException (6, [.ref 10, .ref 4, .int (nI i)], hy_dr w (hy_rr tl i).1 sp vl) = some (.inl (some (.int (hy_b (hy_isE (hy_rr tl td))))), hy_dr w n' sp' vl') ∧ (hy_isE (hy_rr tl td) = true → n' = (hy_rr tl td).1 ∧ hy_ae (hy_rr tl td) sp' vl')
  | 0, i, sp, vl, hd, hi, ha, hp => by
    have e : i = td := by omega
    subst e
    have hle := rr_le (tl := tl) i
    refine ⟨(hy_rr tl i).1, sp, vl, ?_, fun _ => ⟨rfl, ha⟩⟩
    have k4 := (dr_ne (w := w) (n := (hy_rr tl i).1) (sp := sp) (vl := vl) (k := 4) (by omega)).trans h4
    have e1 := p_D_hasLetter (w := w) (n := (hy_rr tl i).1) (sp := sp) (vl := vl) hw (by omega)
    rw [isE_same ha.1 hp, ev_D_readException_6]
    cases q2 : pu_al (fun k => decide (sp k = nI 0)) (hy_rr tl i).1 0
    · rw [q2, Bool.not_false] at e1
      simp (disch := omega) only [e_gi, e_gr, e_ob, e_ai, e_ar, e_ln, e_pf, e_pa, wr_eq, wr_ne, wr_wr, Option.map_some, Option.bind_some, hy_bi_s, hy_br_s, hy_bv_s, hy_xi_s, hy_xi_t, hy_xv_s, hy_xv_t, hy_k_l, hy_k_r, ia_ai, ia_pa, ia_ln, oc_a_ar, oc_o_pa, oc_r_ln, n_le_t, n_le_f, n_lt_t, n_lt_f, n_eq_t, n_eq_f, nI_add, pk_mul, n_sub, n_prd, ne_1, hy_b_t, hy_b_f, ↓reduceIte, true_or, or_true, Bool.false_eq_true, or_false, false_or, and_true, true_and, and_false, false_and, li_c, li_0, li_1, li_2, li_3, li_4, li_5, li_6, li_10, li_11, li_16, li_17, li_20, li_40, li_41, li_300, li_400, oc_H_ob, oc_H_g0, oc_H_g1, oc_H_g2, oc_H_g3, oc_H_g4, oc_H_p5, oc_H_g5, oc_N_ob, oc_N_g0, oc_N_p1, oc_N_g1, oc_N_g2, oc_N_p3, oc_N_g3, oc_D_ob, oc_D_g0, oc_D_g1, oc_D_p2, oc_D_g2, oc_G_ob, oc_G_g0, oc_G_g1, oc_G_p2, oc_G_g2, oc_G_p3, oc_G_g3, oc_G_p4, oc_G_g4, oc_L_ob, oc_L_g0, oc_L_g1, oc_L_g2, oc_L_g3, oc_L_g4, oc_L_p5, oc_L_g5, oc_L_p6, oc_L_g6, oc_L_p7, oc_L_g7, oc_A_ob, oc_A_g0, oc_A_p1, oc_A_g1, oc_A_p2, oc_A_g2, oc_A_p0, oc_U_ob, oc_U_g0, oc_U_g1, oc_M_ob, oc_M_p0, oc_M_g0, oc_M_p1, oc_M_g1, oc_M_g2, oc_M_g3, oc_M_g4, oc_M_g5, oc_M_g6, oc_M_g7, oc_M_p8, oc_M_g8, oc_M_g9, oc_M_g10, oc_M_p11, oc_M_g11, oc_M_g12, oc_M_g13, oc_M_p14, oc_M_g14, oc_M_g15, oc_M_g16, oc_M_g17, oc_M_g18, oc_M_p19, oc_M_g19, oc_M_g20, oc_M_g21, oc_M_g22, oc_M_g23, oc_M_p24, oc_M_g24, oc_M_g25, sg_D_readException_6, k4, dr_10, e1, Bool.not_false]
    · rw [q2, Bool.not_true] at e1
      simp (disch := omega) only [e_gi, e_gr, e_ob, e_ai, e_ar, e_ln, e_pf, e_pa, wr_eq, wr_ne, wr_wr, Option.map_some, Option.bind_some, hy_bi_s, hy_br_s, hy_bv_s, hy_xi_s, hy_xi_t, hy_xv_s, hy_xv_t, hy_k_l, hy_k_r, ia_ai, ia_pa, ia_ln, oc_a_ar, oc_o_pa, oc_r_ln, n_le_t, n_le_f, n_lt_t, n_lt_f, n_eq_t, n_eq_f, nI_add, pk_mul, n_sub, n_prd, ne_1, hy_b_t, hy_b_f, ↓reduceIte, true_or, or_true, Bool.false_eq_true, or_false, false_or, and_true, true_and, and_false, false_and, li_c, li_0, li_1, li_2, li_3, li_4, li_5, li_6, li_10, li_11, li_16, li_17, li_20, li_40, li_41, li_300, li_400, oc_H_ob, oc_H_g0, oc_H_g1, oc_H_g2, oc_H_g3, oc_H_g4, oc_H_p5, oc_H_g5, oc_N_ob, oc_N_g0, oc_N_p1, oc_N_g1, oc_N_g2, oc_N_p3, oc_N_g3, oc_D_ob, oc_D_g0, oc_D_g1, oc_D_p2, oc_D_g2, oc_G_ob, oc_G_g0, oc_G_g1, oc_G_p2, oc_G_g2, oc_G_p3, oc_G_g3, oc_G_p4, oc_G_g4, oc_L_ob, oc_L_g0, oc_L_g1, oc_L_g2, oc_L_g3, oc_L_g4, oc_L_p5, oc_L_g5, oc_L_p6, oc_L_g6, oc_L_p7, oc_L_g7, oc_A_ob, oc_A_g0, oc_A_p1, oc_A_g1, oc_A_p2, oc_A_g2, oc_A_p0, oc_U_ob, oc_U_g0, oc_U_g1, oc_M_ob, oc_M_p0, oc_M_g0, oc_M_p1, oc_M_g1, oc_M_g2, oc_M_g3, oc_M_g4, oc_M_g5, oc_M_g6, oc_M_g7, oc_M_p8, oc_M_g8, oc_M_g9, oc_M_g10, oc_M_p11, oc_M_g11, oc_M_g12, oc_M_g13, oc_M_p14, oc_M_g14, oc_M_g15, oc_M_g16, oc_M_g17, oc_M_g18, oc_M_p19, oc_M_g19, oc_M_g20, oc_M_g21, oc_M_g22, oc_M_g23, oc_M_p24, oc_M_g24, oc_M_g25, sg_D_readException_6, k4, dr_10, e1, ev_D_readException_87, sg_D_readException_87, Bool.not_true]
  | d + 1, i, sp, vl, hd, hi, ha, hp => by
    have hle := rr_le (tl := tl) i
    have k4 := (dr_ne (w := w) (n := (hy_rr tl i).1) (sp := sp) (vl := vl) (k := 4) (by omega)).trans h4
    have k6 := (dr_ne (w := w) (n := (hy_rr tl i).1) (sp := sp) (vl := vl) (k := 6) (by omega)).trans h6
    have hgi := hg i (by omega)
    obtain ⟨g1, g2, g3⟩ := ge_s hp
    have hv := ha.2 (hy_rr tl i).1 (by omega)
    by_cases q : tl i ≤ nI 0
    · by_cases q10 : tl i = -nI 10
      · have qn : tl i < nI 0 := by rw [q10]; decide +kernel
        by_cases q0 : (hy_rr tl i).2.2.1 (hy_rr tl i).1 = nI 0
        · have hv0 : vl (hy_rr tl i).1 = nI 0 := by
            rw [hv, hy_hy, q0, if_neg z_ne_ten]
          have e1 := p_D_takeValue (w := w) (n := (hy_rr tl i).1) (sp := sp) (vl := vl) hw (by omega) (nI 1) hv0
          have hneg : -(tl i) = nI 10 := by rw [q10, Int32.neg_neg]
          have hp' : hy_ge (hy_rr tl (i + 1)) = true := by
            rw [hy_rr, r1_n qn]
            refine ge_i ?_ g2 fun k hk => ?_
            · dsimp only
              rw [g1, decide_eq_true q0]; rfl
            · dsimp only at hk ⊢
              by_cases e : k = (hy_rr tl i).1
              · rw [e, up_eq]
                exact Or.inr hneg
              · rw [up_ne e]; exact g3 k hk
          obtain ⟨n', sp', vl', e2, e3⟩ := p_D_readException6 hw h4 h6 hg htd d (i + 1) sp (hy_up vl (hy_rr tl i).1 (nI 1)) (by omega) (by omega) (by
            rw [hy_rr, r1_n qn]
            refine ⟨ha.1, fun k hk => ?_⟩
            dsimp only at hk ⊢
            unfold hy_hy
            by_cases e : k = (hy_rr tl i).1
            · rw [e, up_eq, up_eq, if_pos hneg]
            · rw [up_ne e, up_ne e]; exact ha.2 k hk) hp'
          refine ⟨n', sp', vl', ?_, e3⟩
          rw [← e2, hy_rr, r1_n qn, ev_D_readException_6]
          dsimp only
          rw [q10] at q hgi
          simp (disch := omega) only [e_gi, e_gr, e_ob, e_ai, e_ar, e_ln, e_pf, e_pa, wr_eq, wr_ne, wr_wr, Option.map_some, Option.bind_some, hy_bi_s, hy_br_s, hy_bv_s, hy_xi_s, hy_xi_t, hy_xv_s, hy_xv_t, hy_k_l, hy_k_r, ia_ai, ia_pa, ia_ln, oc_a_ar, oc_o_pa, oc_r_ln, n_le_t, n_le_f, n_lt_t, n_lt_f, n_eq_t, n_eq_f, nI_add, pk_mul, n_sub, n_prd, ne_1, hy_b_t, hy_b_f, ↓reduceIte, true_or, or_true, Bool.false_eq_true, or_false, false_or, and_true, true_and, and_false, false_and, li_c, li_0, li_1, li_2, li_3, li_4, li_5, li_6, li_10, li_11, li_16, li_17, li_20, li_40, li_41, li_300, li_400, oc_H_ob, oc_H_g0, oc_H_g1, oc_H_g2, oc_H_g3, oc_H_g4, oc_H_p5, oc_H_g5, oc_N_ob, oc_N_g0, oc_N_p1, oc_N_g1, oc_N_g2, oc_N_p3, oc_N_g3, oc_D_ob, oc_D_g0, oc_D_g1, oc_D_p2, oc_D_g2, oc_G_ob, oc_G_g0, oc_G_g1, oc_G_p2, oc_G_g2, oc_G_p3, oc_G_g3, oc_G_p4, oc_G_g4, oc_L_ob, oc_L_g0, oc_L_g1, oc_L_g2, oc_L_g3, oc_L_g4, oc_L_p5, oc_L_g5, oc_L_p6, oc_L_g6, oc_L_p7, oc_L_g7, oc_A_ob, oc_A_g0, oc_A_p1, oc_A_g1, oc_A_p2, oc_A_g2, oc_A_p0, oc_U_ob, oc_U_g0, oc_U_g1, oc_M_ob, oc_M_p0, oc_M_g0, oc_M_p1, oc_M_g1, oc_M_g2, oc_M_g3, oc_M_g4, oc_M_g5, oc_M_g6, oc_M_g7, oc_M_p8, oc_M_g8, oc_M_g9, oc_M_g10, oc_M_p11, oc_M_g11, oc_M_g12, oc_M_g13, oc_M_p14, oc_M_g14, oc_M_g15, oc_M_g16, oc_M_g17, oc_M_g18, oc_M_p19, oc_M_g19, oc_M_g20, oc_M_g21, oc_M_g22, oc_M_g23, oc_M_p24, oc_M_g24, oc_M_g25, sg_D_readException_6, k4, k6, hgi, q, dr_10, e1, ev_D_readException_52, sg_D_readException_52]
        · have hv0 : ¬ vl (hy_rr tl i).1 = nI 0 := by
            rcases g3 (hy_rr tl i).1 (Nat.le_refl _) with h | h
            · exact absurd h q0
            · rw [hv, hy_hy, if_pos h]; decide +kernel
          have e1 := p_D_takeValue_f (w := w) (n := (hy_rr tl i).1) (sp := sp) (vl := vl) hw (by omega) (nI 1) hv0
          have hf : hy_isE (hy_rr tl td) = false := by
            rw [← Bool.not_eq_true]
            intro h
            have h1 := ge_end (d := d) (i := i + 1) (by omega) (isE_ge h)
            rw [hy_rr, r1_n qn] at h1
            have h2 := (ge_s h1).1
            dsimp only at h2
            rw [decide_eq_false q0, Bool.and_false] at h2
            cases h2
          refine ⟨(hy_rr tl i).1, sp, vl, ?_, fun h => by rw [hf] at h; cases h⟩
          rw [hf, ev_D_readException_6]
          rw [q10] at q hgi
          simp (disch := omega) only [e_gi, e_gr, e_ob, e_ai, e_ar, e_ln, e_pf, e_pa, wr_eq, wr_ne, wr_wr, Option.map_some, Option.bind_some, hy_bi_s, hy_br_s, hy_bv_s, hy_xi_s, hy_xi_t, hy_xv_s, hy_xv_t, hy_k_l, hy_k_r, ia_ai, ia_pa, ia_ln, oc_a_ar, oc_o_pa, oc_r_ln, n_le_t, n_le_f, n_lt_t, n_lt_f, n_eq_t, n_eq_f, nI_add, pk_mul, n_sub, n_prd, ne_1, hy_b_t, hy_b_f, ↓reduceIte, true_or, or_true, Bool.false_eq_true, or_false, false_or, and_true, true_and, and_false, false_and, li_c, li_0, li_1, li_2, li_3, li_4, li_5, li_6, li_10, li_11, li_16, li_17, li_20, li_40, li_41, li_300, li_400, oc_H_ob, oc_H_g0, oc_H_g1, oc_H_g2, oc_H_g3, oc_H_g4, oc_H_p5, oc_H_g5, oc_N_ob, oc_N_g0, oc_N_p1, oc_N_g1, oc_N_g2, oc_N_p3, oc_N_g3, oc_D_ob, oc_D_g0, oc_D_g1, oc_D_p2, oc_D_g2, oc_G_ob, oc_G_g0, oc_G_g1, oc_G_p2, oc_G_g2, oc_G_p3, oc_G_g3, oc_G_p4, oc_G_g4, oc_L_ob, oc_L_g0, oc_L_g1, oc_L_g2, oc_L_g3, oc_L_g4, oc_L_p5, oc_L_g5, oc_L_p6, oc_L_g6, oc_L_p7, oc_L_g7, oc_A_ob, oc_A_g0, oc_A_p1, oc_A_g1, oc_A_p2, oc_A_g2, oc_A_p0, oc_U_ob, oc_U_g0, oc_U_g1, oc_M_ob, oc_M_p0, oc_M_g0, oc_M_p1, oc_M_g1, oc_M_g2, oc_M_g3, oc_M_g4, oc_M_g5, oc_M_g6, oc_M_g7, oc_M_p8, oc_M_g8, oc_M_g9, oc_M_g10, oc_M_p11, oc_M_g11, oc_M_g12, oc_M_g13, oc_M_p14, oc_M_g14, oc_M_g15, oc_M_g16, oc_M_g17, oc_M_g18, oc_M_p19, oc_M_g19, oc_M_g20, oc_M_g21, oc_M_g22, oc_M_g23, oc_M_p24, oc_M_g24, oc_M_g25, sg_D_readException_6, k4, k6, hgi, q, dr_10, e1, ev_D_readException_51, sg_D_readException_51, ev_D_readException_52, sg_D_readException_52]
      · have hf : hy_isE (hy_rr tl td) = false := by
          rw [← Bool.not_eq_true]
          intro h
          have h1 := ge_end (d := d) (i := i + 1) (by omega) (isE_ge h)
          rw [hy_rr] at h1
          by_cases qn : tl i < nI 0
          · rw [r1_n qn] at h1
            have h2 := (ge_s h1).2.2 (hy_rr tl i).1 (Nat.le_refl _)
            dsimp only at h2
            rw [up_eq] at h2
            rcases h2 with h2 | h2
            · have : tl i = nI 0 := by
                have h3 : - -tl i = -nI 0 := by rw [h2]
                rw [Int32.neg_neg] at h3
                rw [h3]; decide +kernel
              rw [this] at qn
              exact absurd qn (by decide +kernel)
            · exact q10 (neg_neg_ten h2)
          · have h0 : tl i = nI 0 := Int32.le_antisymm q (Int32.not_lt.mp qn)
            rw [r1_p qn] at h1
            have h2 := (ge_s h1).2.1 (hy_rr tl i).1 (Nat.lt_succ_self _)
            dsimp only at h2
            rw [up_eq] at h2
            exact h2 h0
        refine ⟨(hy_rr tl i).1, sp, vl, ?_, fun h => by rw [hf] at h; cases h⟩
        rw [hf, ev_D_readException_6]
        simp (disch := omega) only [e_gi, e_gr, e_ob, e_ai, e_ar, e_ln, e_pf, e_pa, wr_eq, wr_ne, wr_wr, Option.map_some, Option.bind_some, hy_bi_s, hy_br_s, hy_bv_s, hy_xi_s, hy_xi_t, hy_xv_s, hy_xv_t, hy_k_l, hy_k_r, ia_ai, ia_pa, ia_ln, oc_a_ar, oc_o_pa, oc_r_ln, n_le_t, n_le_f, n_lt_t, n_lt_f, n_eq_t, n_eq_f, nI_add, pk_mul, n_sub, n_prd, ne_1, hy_b_t, hy_b_f, ↓reduceIte, true_or, or_true, Bool.false_eq_true, or_false, false_or, and_true, true_and, and_false, false_and, li_c, li_0, li_1, li_2, li_3, li_4, li_5, li_6, li_10, li_11, li_16, li_17, li_20, li_40, li_41, li_300, li_400, oc_H_ob, oc_H_g0, oc_H_g1, oc_H_g2, oc_H_g3, oc_H_g4, oc_H_p5, oc_H_g5, oc_N_ob, oc_N_g0, oc_N_p1, oc_N_g1, oc_N_g2, oc_N_p3, oc_N_g3, oc_D_ob, oc_D_g0, oc_D_g1, oc_D_p2, oc_D_g2, oc_G_ob, oc_G_g0, oc_G_g1, oc_G_p2, oc_G_g2, oc_G_p3, oc_G_g3, oc_G_p4, oc_G_g4, oc_L_ob, oc_L_g0, oc_L_g1, oc_L_g2, oc_L_g3, oc_L_g4, oc_L_p5, oc_L_g5, oc_L_p6, oc_L_g6, oc_L_p7, oc_L_g7, oc_A_ob, oc_A_g0, oc_A_p1, oc_A_g1, oc_A_p2, oc_A_g2, oc_A_p0, oc_U_ob, oc_U_g0, oc_U_g1, oc_M_ob, oc_M_p0, oc_M_g0, oc_M_p1, oc_M_g1, oc_M_g2, oc_M_g3, oc_M_g4, oc_M_g5, oc_M_g6, oc_M_g7, oc_M_p8, oc_M_g8, oc_M_g9, oc_M_g10, oc_M_p11, oc_M_g11, oc_M_g12, oc_M_g13, oc_M_p14, oc_M_g14, oc_M_g15, oc_M_g16, oc_M_g17, oc_M_g18, oc_M_p19, oc_M_g19, oc_M_g20, oc_M_g21, oc_M_g22, oc_M_g23, oc_M_p24, oc_M_g24, oc_M_g25, sg_D_readException_6, k4, k6, hgi, q, q10, ev_D_readException_51, sg_D_readException_51, ev_D_readException_52, sg_D_readException_52]
    · have e1 := p_D_takeLetter (w := w) (n := (hy_rr tl i).1) (sp := sp) (vl := vl) hw (by omega) (tl i)
      have qn : ¬ tl i < nI 0 := fun h => q (Int32.le_of_lt h)
      have hp' : hy_ge (hy_rr tl (i + 1)) = true := by
        rw [hy_rr, r1_p qn]
        refine ge_i g1 (fun k hk => ?_) fun k hk => ?_
        · dsimp only at hk ⊢
          by_cases e : k = (hy_rr tl i).1
          · rw [e, up_eq]
            intro h
            rw [h] at q
            exact q (by decide +kernel)
          · rw [up_ne e]; exact g2 k (by omega)
        · dsimp only at hk ⊢
          by_cases e : k = (hy_rr tl i).1 + 1
          · rw [e, up_eq]; exact Or.inl rfl
          · rw [up_ne e]; exact g3 k (by omega)
      obtain ⟨n', sp', vl', e2, e3⟩ := p_D_readException6 hw h4 h6 hg htd d (i + 1) (hy_up sp (hy_rr tl i).1 (tl i)) (hy_up vl ((hy_rr tl i).1 + 1) (nI 0)) (by omega) (by omega) (by
        rw [hy_rr, r1_p qn]
        refine ⟨to_up1 ha.1, fun k hk => ?_⟩
        dsimp only at hk ⊢
        unfold hy_hy
        by_cases e : k = (hy_rr tl i).1 + 1
        · rw [e, up_eq, up_eq, if_neg z_ne_ten]
        · rw [up_ne e, up_ne e]; exact ha.2 k (by omega)) hp'
      refine ⟨n', sp', vl', ?_, e3⟩
      rw [← e2, hy_rr, r1_p qn, ev_D_readException_6]
      dsimp only
      simp (disch := omega) only [e_gi, e_gr, e_ob, e_ai, e_ar, e_ln, e_pf, e_pa, wr_eq, wr_ne, wr_wr, Option.map_some, Option.bind_some, hy_bi_s, hy_br_s, hy_bv_s, hy_xi_s, hy_xi_t, hy_xv_s, hy_xv_t, hy_k_l, hy_k_r, ia_ai, ia_pa, ia_ln, oc_a_ar, oc_o_pa, oc_r_ln, n_le_t, n_le_f, n_lt_t, n_lt_f, n_eq_t, n_eq_f, nI_add, pk_mul, n_sub, n_prd, ne_1, hy_b_t, hy_b_f, ↓reduceIte, true_or, or_true, Bool.false_eq_true, or_false, false_or, and_true, true_and, and_false, false_and, li_c, li_0, li_1, li_2, li_3, li_4, li_5, li_6, li_10, li_11, li_16, li_17, li_20, li_40, li_41, li_300, li_400, oc_H_ob, oc_H_g0, oc_H_g1, oc_H_g2, oc_H_g3, oc_H_g4, oc_H_p5, oc_H_g5, oc_N_ob, oc_N_g0, oc_N_p1, oc_N_g1, oc_N_g2, oc_N_p3, oc_N_g3, oc_D_ob, oc_D_g0, oc_D_g1, oc_D_p2, oc_D_g2, oc_G_ob, oc_G_g0, oc_G_g1, oc_G_p2, oc_G_g2, oc_G_p3, oc_G_g3, oc_G_p4, oc_G_g4, oc_L_ob, oc_L_g0, oc_L_g1, oc_L_g2, oc_L_g3, oc_L_g4, oc_L_p5, oc_L_g5, oc_L_p6, oc_L_g6, oc_L_p7, oc_L_g7, oc_A_ob, oc_A_g0, oc_A_p1, oc_A_g1, oc_A_p2, oc_A_g2, oc_A_p0, oc_U_ob, oc_U_g0, oc_U_g1, oc_M_ob, oc_M_p0, oc_M_g0, oc_M_p1, oc_M_g1, oc_M_g2, oc_M_g3, oc_M_g4, oc_M_g5, oc_M_g6, oc_M_g7, oc_M_p8, oc_M_g8, oc_M_g9, oc_M_g10, oc_M_p11, oc_M_g11, oc_M_g12, oc_M_g13, oc_M_p14, oc_M_g14, oc_M_g15, oc_M_g16, oc_M_g17, oc_M_g18, oc_M_p19, oc_M_g19, oc_M_g20, oc_M_g21, oc_M_g22, oc_M_g23, oc_M_p24, oc_M_g24, oc_M_g25, sg_D_readException_6, k4, k6, hgi, q, dr_10, e1, ev_D_readException_52, sg_D_readException_52]
theorem p_D_readException (hw : 12 < w.1.length) (h4 : w.1[4]? = some (oc_N 6 5 lo td)) (h6 : w.1[6]? = some (hy_ia 40 g)) (hg : hy_to td g tl) (htd : td ≤ 40) (n : Nat) (sp vl : Nat → Int32) : ∃ n' sp' vl', f_D_readException [.ref 10, .ref 4] (hy_dr w n sp vl) = some (.inl (some (.int (hy_b (hy_isE (hy_rr tl td))))), hy_dr w n' sp' vl') ∧ (hy_isE (hy_rr tl td) = true → n' = (hy_rr tl td).1 ∧ hy_ae (hy_rr tl td) sp' vl') := by
  obtain ⟨n', sp', vl', e1, e2⟩ := p_D_readException6 hw h4 h6 hg htd td 0 sp (hy_up vl 0 (nI 0)) (by omega) (by omega) ⟨fun k hk => absurd hk (Nat.not_lt_zero k), fun k hk => by
    have : k = 0 := by have : k < 0 + 1 := hk; omega
    rw [this, up_eq]; exact (if_neg z_ne_ten).symm⟩ (ge_i rfl (fun k hk => absurd hk (Nat.not_lt_zero k)) fun k hk => Or.inl rfl)
  refine ⟨n', sp', vl', ?_, e2⟩
  have e3 := p_D_start (w := w) (n := n) (sp := sp) (vl := vl) hw
  rw [f_D_readException, ev_D_readException_0, ← e1]
  simp (disch := omega) only [e_gi, e_gr, e_ob, e_ai, e_ar, e_ln, e_pf, e_pa, wr_eq, wr_ne, wr_wr, Option.map_some, Option.bind_some, hy_bi_s, hy_br_s, hy_bv_s, hy_xi_s, hy_xi_t, hy_xv_s, hy_xv_t, hy_k_l, hy_k_r, ia_ai, ia_pa, ia_ln, oc_a_ar, oc_o_pa, oc_r_ln, n_le_t, n_le_f, n_lt_t, n_lt_f, n_eq_t, n_eq_f, nI_add, pk_mul, n_sub, n_prd, ne_1, hy_b_t, hy_b_f, ↓reduceIte, true_or, or_true, Bool.false_eq_true, or_false, false_or, and_true, true_and, and_false, false_and, li_c, li_0, li_1, li_2, li_3, li_4, li_5, li_6, li_10, li_11, li_16, li_17, li_20, li_40, li_41, li_300, li_400, oc_H_ob, oc_H_g0, oc_H_g1, oc_H_g2, oc_H_g3, oc_H_g4, oc_H_p5, oc_H_g5, oc_N_ob, oc_N_g0, oc_N_p1, oc_N_g1, oc_N_g2, oc_N_p3, oc_N_g3, oc_D_ob, oc_D_g0, oc_D_g1, oc_D_p2, oc_D_g2, oc_G_ob, oc_G_g0, oc_G_g1, oc_G_p2, oc_G_g2, oc_G_p3, oc_G_g3, oc_G_p4, oc_G_g4, oc_L_ob, oc_L_g0, oc_L_g1, oc_L_g2, oc_L_g3, oc_L_g4, oc_L_p5, oc_L_g5, oc_L_p6, oc_L_g6, oc_L_p7, oc_L_g7, oc_A_ob, oc_A_g0, oc_A_p1, oc_A_g1, oc_A_p2, oc_A_g2, oc_A_p0, oc_U_ob, oc_U_g0, oc_U_g1, oc_M_ob, oc_M_p0, oc_M_g0, oc_M_p1, oc_M_g1, oc_M_g2, oc_M_g3, oc_M_g4, oc_M_g5, oc_M_g6, oc_M_g7, oc_M_p8, oc_M_g8, oc_M_g9, oc_M_g10, oc_M_p11, oc_M_g11, oc_M_g12, oc_M_g13, oc_M_p14, oc_M_g14, oc_M_g15, oc_M_g16, oc_M_g17, oc_M_g18, oc_M_p19, oc_M_g19, oc_M_g20, oc_M_g21, oc_M_g22, oc_M_g23, oc_M_p24, oc_M_g24, oc_M_g25, sg_D_readException_0, dr_10, e3]
  rfl
end DRT
