/-! THE START of the law, and all of it -/
theorem at_d {A l : List hy_C} {k d : Nat} (hk : A.length = k) : (A ++ l)[k + d]? = l[d]? := by
  rw [List.getElem?_append_right (by omega), hk, Nat.add_sub_cancel_left]
def hy_m2 (w : hy_W) (f g : Nat → Int32) : hy_W := hy_wr (hy_wr w 45 (hy_ia 4 f)) 46 (hy_ia 4 g)
section M2S
variable {w : hy_W} {f g f' g' : Nat → Int32}
theorem m2_45 (hw : 46 < w.1.length) : (hy_m2 w f g).1[45]? = some (hy_ia 4 f) := by
  obtain ⟨d, hd⟩ := get_lt (w := w) (k := 45) (by omega)
  unfold hy_m2
  simp (disch := omega) only [e_gi, e_gr, e_ob, e_ai, e_ar, e_ln, e_pf, e_pa, wr_eq, wr_ne, wr_wr, Option.map_some, Option.bind_some, hy_bi_s, hy_br_s, hy_bv_s, hy_xi_s, hy_xi_t, hy_xv_s, hy_xv_t, hy_k_l, hy_k_r, ia_ai, ia_pa, ia_ln, oc_a_ar, oc_o_pa, oc_r_ln, n_le_t, n_le_f, n_lt_t, n_lt_f, n_eq_t, n_eq_f, nI_add, pk_mul, n_sub, n_prd, ne_1, hy_b_t, hy_b_f, ↓reduceIte, true_or, or_true, Bool.false_eq_true, or_false, false_or, and_true, true_and, and_false, false_and, li_c, li_0, li_1, li_2, li_3, li_4, li_5, li_6, li_10, li_11, li_16, li_17, li_20, li_40, li_41, li_300, li_400, oc_H_ob, oc_H_g0, oc_H_g1, oc_H_g2, oc_H_g3, oc_H_g4, oc_H_p5, oc_H_g5, oc_N_ob, oc_N_g0, oc_N_p1, oc_N_g1, oc_N_g2, oc_N_p3, oc_N_g3, oc_D_ob, oc_D_g0, oc_D_g1, oc_D_p2, oc_D_g2, oc_G_ob, oc_G_g0, oc_G_g1, oc_G_p2, oc_G_g2, oc_G_p3, oc_G_g3, oc_G_p4, oc_G_g4, oc_L_ob, oc_L_g0, oc_L_g1, oc_L_g2, oc_L_g3, oc_L_g4, oc_L_p5, oc_L_g5, oc_L_p6, oc_L_g6, oc_L_p7, oc_L_g7, oc_A_ob, oc_A_g0, oc_A_p1, oc_A_g1, oc_A_p2, oc_A_g2, oc_A_p0, oc_U_ob, oc_U_g0, oc_U_g1, oc_M_ob, oc_M_p0, oc_M_g0, oc_M_p1, oc_M_g1, oc_M_g2, oc_M_g3, oc_M_g4, oc_M_g5, oc_M_g6, oc_M_g7, oc_M_p8, oc_M_g8, oc_M_g9, oc_M_g10, oc_M_p11, oc_M_g11, oc_M_g12, oc_M_g13, oc_M_p14, oc_M_g14, oc_M_g15, oc_M_g16, oc_M_g17, oc_M_g18, oc_M_p19, oc_M_g19, oc_M_g20, oc_M_g21, oc_M_g22, oc_M_g23, oc_M_p24, oc_M_g24, oc_M_g25, hd]
theorem m2_46 (hw : 46 < w.1.length) : (hy_m2 w f g).1[46]? = some (hy_ia 4 g) := by
  obtain ⟨d, hd⟩ := get_lt (w := w) (k := 46) (by omega)
  unfold hy_m2
  simp (disch := omega) only [e_gi, e_gr, e_ob, e_ai, e_ar, e_ln, e_pf, e_pa, wr_eq, wr_ne, wr_wr, Option.map_some, Option.bind_some, hy_bi_s, hy_br_s, hy_bv_s, hy_xi_s, hy_xi_t, hy_xv_s, hy_xv_t, hy_k_l, hy_k_r, ia_ai, ia_pa, ia_ln, oc_a_ar, oc_o_pa, oc_r_ln, n_le_t, n_le_f, n_lt_t, n_lt_f, n_eq_t, n_eq_f, nI_add, pk_mul, n_sub, n_prd, ne_1, hy_b_t, hy_b_f, ↓reduceIte, true_or, or_true, Bool.false_eq_true, or_false, false_or, and_true, true_and, and_false, false_and, li_c, li_0, li_1, li_2, li_3, li_4, li_5, li_6, li_10, li_11, li_16, li_17, li_20, li_40, li_41, li_300, li_400, oc_H_ob, oc_H_g0, oc_H_g1, oc_H_g2, oc_H_g3, oc_H_g4, oc_H_p5, oc_H_g5, oc_N_ob, oc_N_g0, oc_N_p1, oc_N_g1, oc_N_g2, oc_N_p3, oc_N_g3, oc_D_ob, oc_D_g0, oc_D_g1, oc_D_p2, oc_D_g2, oc_G_ob, oc_G_g0, oc_G_g1, oc_G_p2, oc_G_g2, oc_G_p3, oc_G_g3, oc_G_p4, oc_G_g4, oc_L_ob, oc_L_g0, oc_L_g1, oc_L_g2, oc_L_g3, oc_L_g4, oc_L_p5, oc_L_g5, oc_L_p6, oc_L_g6, oc_L_p7, oc_L_g7, oc_A_ob, oc_A_g0, oc_A_p1, oc_A_g1, oc_A_p2, oc_A_g2, oc_A_p0, oc_U_ob, oc_U_g0, oc_U_g1, oc_M_ob, oc_M_p0, oc_M_g0, oc_M_p1, oc_M_g1, oc_M_g2, oc_M_g3, oc_M_g4, oc_M_g5, oc_M_g6, oc_M_g7, oc_M_p8, oc_M_g8, oc_M_g9, oc_M_g10, oc_M_p11, oc_M_g11, oc_M_g12, oc_M_g13, oc_M_p14, oc_M_g14, oc_M_g15, oc_M_g16, oc_M_g17, oc_M_g18, oc_M_p19, oc_M_g19, oc_M_g20, oc_M_g21, oc_M_g22, oc_M_g23, oc_M_p24, oc_M_g24, oc_M_g25, hd]
theorem m2_ne {k : Nat} (h : k ≠ 45 ∧ k ≠ 46) : (hy_m2 w f g).1[k]? = w.1[k]? := by
  unfold hy_m2
  simp (disch := omega) only [e_gi, e_gr, e_ob, e_ai, e_ar, e_ln, e_pf, e_pa, wr_eq, wr_ne, wr_wr, Option.map_some, Option.bind_some, hy_bi_s, hy_br_s, hy_bv_s, hy_xi_s, hy_xi_t, hy_xv_s, hy_xv_t, hy_k_l, hy_k_r, ia_ai, ia_pa, ia_ln, oc_a_ar, oc_o_pa, oc_r_ln, n_le_t, n_le_f, n_lt_t, n_lt_f, n_eq_t, n_eq_f, nI_add, pk_mul, n_sub, n_prd, ne_1, hy_b_t, hy_b_f, ↓reduceIte, true_or, or_true, Bool.false_eq_true, or_false, false_or, and_true, true_and, and_false, false_and, li_c, li_0, li_1, li_2, li_3, li_4, li_5, li_6, li_10, li_11, li_16, li_17, li_20, li_40, li_41, li_300, li_400, oc_H_ob, oc_H_g0, oc_H_g1, oc_H_g2, oc_H_g3, oc_H_g4, oc_H_p5, oc_H_g5, oc_N_ob, oc_N_g0, oc_N_p1, oc_N_g1, oc_N_g2, oc_N_p3, oc_N_g3, oc_D_ob, oc_D_g0, oc_D_g1, oc_D_p2, oc_D_g2, oc_G_ob, oc_G_g0, oc_G_g1, oc_G_p2, oc_G_g2, oc_G_p3, oc_G_g3, oc_G_p4, oc_G_g4, oc_L_ob, oc_L_g0, oc_L_g1, oc_L_g2, oc_L_g3, oc_L_g4, oc_L_p5, oc_L_g5, oc_L_p6, oc_L_g6, oc_L_p7, oc_L_g7, oc_A_ob, oc_A_g0, oc_A_p1, oc_A_g1, oc_A_p2, oc_A_g2, oc_A_p0, oc_U_ob, oc_U_g0, oc_U_g1, oc_M_ob, oc_M_p0, oc_M_g0, oc_M_p1, oc_M_g1, oc_M_g2, oc_M_g3, oc_M_g4, oc_M_g5, oc_M_g6, oc_M_g7, oc_M_p8, oc_M_g8, oc_M_g9, oc_M_g10, oc_M_p11, oc_M_g11, oc_M_g12, oc_M_g13, oc_M_p14, oc_M_g14, oc_M_g15, oc_M_g16, oc_M_g17, oc_M_g18, oc_M_p19, oc_M_g19, oc_M_g20, oc_M_g21, oc_M_g22, oc_M_g23, oc_M_p24, oc_M_g24, oc_M_g25]
theorem m2_w45 : hy_wr (hy_m2 w f g) 45 (hy_ia 4 f') = hy_m2 w f' g := by
  unfold hy_m2
  rw [wr_comm (k := 46) (j := 45) (by decide), wr_wr]
theorem m2_w46 : hy_wr (hy_m2 w f g) 46 (hy_ia 4 g') = hy_m2 w f g' := by
  unfold hy_m2
  rw [wr_wr]
theorem i_M161 (hw : 46 < w.1.length) (h40 : w.1[40]? = some (oc_M (nI 0) 0 0 0 0 0 0)) {j : Nat} (hj : j < 4) : hy_fx nx_M_init (161, [.ref 40, .int (nI j)], hy_m2 w f g) = hy_fx nx_M_init (161, [.ref 40, .int (nI (j + 1))], hy_m2 w (hy_up f j (nI 2)) (hy_up g j (nI 3))) := by
  have k40 : ∀ f g, (hy_m2 w f g).1[40]? = some (oc_M (nI 0) 0 0 0 0 0 0) := fun f g => (m2_ne (by omega)).trans h40
  rw [ev_M_init_161]
  simp (disch := omega) only [e_gi, e_gr, e_ob, e_ai, e_ar, e_ln, e_pf, e_pa, wr_eq, wr_ne, wr_wr, Option.map_some, Option.bind_some, hy_bi_s, hy_br_s, hy_bv_s, hy_xi_s, hy_xi_t, hy_xv_s, hy_xv_t, hy_k_l, hy_k_r, ia_ai, ia_pa, ia_ln, oc_a_ar, oc_o_pa, oc_r_ln, n_le_t, n_le_f, n_lt_t, n_lt_f, n_eq_t, n_eq_f, nI_add, pk_mul, n_sub, n_prd, ne_1, hy_b_t, hy_b_f, ↓reduceIte, true_or, or_true, Bool.false_eq_true, or_false, false_or, and_true, true_and, and_false, false_and, li_c, li_0, li_1, li_2, li_3, li_4, li_5, li_6, li_10, li_11, li_16, li_17, li_20, li_40, li_41, li_300, li_400, oc_H_ob, oc_H_g0, oc_H_g1, oc_H_g2, oc_H_g3, oc_H_g4, oc_H_p5, oc_H_g5, oc_N_ob, oc_N_g0, oc_N_p1, oc_N_g1, oc_N_g2, oc_N_p3, oc_N_g3, oc_D_ob, oc_D_g0, oc_D_g1, oc_D_p2, oc_D_g2, oc_G_ob, oc_G_g0, oc_G_g1, oc_G_p2, oc_G_g2, oc_G_p3, oc_G_g3, oc_G_p4, oc_G_g4, oc_L_ob, oc_L_g0, oc_L_g1, oc_L_g2, oc_L_g3, oc_L_g4, oc_L_p5, oc_L_g5, oc_L_p6, oc_L_g6, oc_L_p7, oc_L_g7, oc_A_ob, oc_A_g0, oc_A_p1, oc_A_g1, oc_A_p2, oc_A_g2, oc_A_p0, oc_U_ob, oc_U_g0, oc_U_g1, oc_M_ob, oc_M_p0, oc_M_g0, oc_M_p1, oc_M_g1, oc_M_g2, oc_M_g3, oc_M_g4, oc_M_g5, oc_M_g6, oc_M_g7, oc_M_p8, oc_M_g8, oc_M_g9, oc_M_g10, oc_M_p11, oc_M_g11, oc_M_g12, oc_M_g13, oc_M_p14, oc_M_g14, oc_M_g15, oc_M_g16, oc_M_g17, oc_M_g18, oc_M_p19, oc_M_g19, oc_M_g20, oc_M_g21, oc_M_g22, oc_M_g23, oc_M_p24, oc_M_g24, oc_M_g25, sg_M_init_161, k40, m2_45, m2_46, m2_w45, m2_w46]
theorem i_M161e (hw : 46 < w.1.length) : hy_fx nx_M_init (161, [.ref 40, .int (nI (0 + 1 + 1 + 1 + 1))], w) = some (.inl none, w) := by
  rw [ev_M_init_161]
  simp (disch := omega) only [e_gi, e_gr, e_ob, e_ai, e_ar, e_ln, e_pf, e_pa, wr_eq, wr_ne, wr_wr, Option.map_some, Option.bind_some, hy_bi_s, hy_br_s, hy_bv_s, hy_xi_s, hy_xi_t, hy_xv_s, hy_xv_t, hy_k_l, hy_k_r, ia_ai, ia_pa, ia_ln, oc_a_ar, oc_o_pa, oc_r_ln, n_le_t, n_le_f, n_lt_t, n_lt_f, n_eq_t, n_eq_f, nI_add, pk_mul, n_sub, n_prd, ne_1, hy_b_t, hy_b_f, ↓reduceIte, true_or, or_true, Bool.false_eq_true, or_false, false_or, and_true, true_and, and_false, false_and, li_c, li_0, li_1, li_2, li_3, li_4, li_5, li_6, li_10, li_11, li_16, li_17, li_20, li_40, li_41, li_300, li_400, oc_H_ob, oc_H_g0, oc_H_g1, oc_H_g2, oc_H_g3, oc_H_g4, oc_H_p5, oc_H_g5, oc_N_ob, oc_N_g0, oc_N_p1, oc_N_g1, oc_N_g2, oc_N_p3, oc_N_g3, oc_D_ob, oc_D_g0, oc_D_g1, oc_D_p2, oc_D_g2, oc_G_ob, oc_G_g0, oc_G_g1, oc_G_p2, oc_G_g2, oc_G_p3, oc_G_g3, oc_G_p4, oc_G_g4, oc_L_ob, oc_L_g0, oc_L_g1, oc_L_g2, oc_L_g3, oc_L_g4, oc_L_p5, oc_L_g5, oc_L_p6, oc_L_g6, oc_L_p7, oc_L_g7, oc_A_ob, oc_A_g0, oc_A_p1, oc_A_g1, oc_A_p2, oc_A_g2, oc_A_p0, oc_U_ob, oc_U_g0, oc_U_g1, oc_M_ob, oc_M_p0, oc_M_g0, oc_M_p1, oc_M_g1, oc_M_g2, oc_M_g3, oc_M_g4, oc_M_g5, oc_M_g6, oc_M_g7, oc_M_p8, oc_M_g8, oc_M_g9, oc_M_g10, oc_M_p11, oc_M_g11, oc_M_g12, oc_M_g13, oc_M_p14, oc_M_g14, oc_M_g15, oc_M_g16, oc_M_g17, oc_M_g18, oc_M_p19, oc_M_g19, oc_M_g20, oc_M_g21, oc_M_g22, oc_M_g23, oc_M_p24, oc_M_g24, oc_M_g25, sg_M_init_161]
end M2S
theorem up4 {v : Int32} : hy_ia 4 (hy_up (hy_up (hy_up (hy_up hy_z 0 v) (0 + 1) v) (0 + 1 + 1) v) (0 + 1 + 1 + 1) v) = hy_ia 4 (fun _ => v) := by
  apply ia_ext
  intro i hi
  have : i = 0 ∨ i = 1 ∨ i = 2 ∨ i = 3 := by omega
  rcases this with rfl | rfl | rfl | rfl <;> rfl
theorem i_M {A : List hy_C} {a b : Nat} (hk : A.length = 40) (h1 : 19 ≤ a) (h2 : 14598 ≤ b) : ∃ w', f_M_init [.ref 40] (A ++ [.inl (6, [.int 0, .int 0, .null, .null, .null, .null, .null, .null, .int 0, .null, .null, .int 0, .null, .null, .int 0, .null, .null, .null, .null, .int 0, .null, .null, .null, .null, .int 0, .null])], a, b) = some (.inl none, w') ∧ (∀ (j : Nat) (c : hy_C), j < 40 → A[j]? = some c → w'.1[j]? = some c) ∧ w'.1.length = 60 ∧ hy_Dc w' 0 0 0 hy_z hy_z hy_z hy_z hy_z (fun _ => nI 2) (fun _ => nI 3) 0 0 (nI 0) 0 hy_z hy_z hy_z hy_z hy_z hy_z hy_z hy_z hy_z hy_z hy_z hy_z ∧ w'.2 = (a - 19, b - 14598) := by
  have e0 := i_M0 (a0 := a - 0) (b0 := b - 0) (a1 := a - 1) (b1 := b - 4) (a2 := a - 2) (b2 := b - 84) (a3 := a - 3) (b3 := b - 164) (a4 := a - 4) (b4 := b - 244) (a5 := a - 5) (b5 := b - 248) (a6 := a - 6) (b6 := b - 252) (a7 := a - 7) (b7 := b - 292) (a8 := a - 8) (b8 := b - 297) (a9 := a - 9) (b9 := b - 337) (a10 := a - 10) (b10 := b - 378) (a11 := a - 11) (b11 := b - 678) (a12 := a - 12) (b12 := b - 978) (a13 := a - 13) (b13 := b - 5778) (a14 := a - 14) (b14 := b - 10878) (a15 := a - 15) (b15 := b - 10918) (a16 := a - 16) (b16 := b - 10958) (a17 := a - 17) (b17 := b - 12558) (a18 := a - 18) (b18 := b - 14198) (a19 := a - 19) (b19 := b - 14598) hk (by omega) (fun l => na_s (i := 0) (p := 0) (by omega) (by omega) (by omega)) (fun l => na_s (i := 1) (p := 4) (by omega) (by omega) (by omega)) (fun l => na_s (i := 2) (p := 84) (by omega) (by omega) (by omega)) (fun l => na_s (i := 3) (p := 164) (by omega) (by omega) (by omega)) (fun l => na_s (i := 4) (p := 244) (by omega) (by omega) (by omega)) (fun l => na_s (i := 5) (p := 248) (by omega) (by omega) (by omega)) (fun l => na_s (i := 6) (p := 252) (by omega) (by omega) (by omega)) (fun l => na_s (i := 7) (p := 292) (by omega) (by omega) (by omega)) (fun l => na_s (i := 8) (p := 297) (by omega) (by omega) (by omega)) (fun l => na_s (i := 9) (p := 337) (by omega) (by omega) (by omega)) (fun l => na_s (i := 10) (p := 378) (by omega) (by omega) (by omega)) (fun l => na_s (i := 11) (p := 678) (by omega) (by omega) (by omega)) (fun l => na_s (i := 12) (p := 978) (by omega) (by omega) (by omega)) (fun l => na_s (i := 13) (p := 5778) (by omega) (by omega) (by omega)) (fun l => na_s (i := 14) (p := 10878) (by omega) (by omega) (by omega)) (fun l => na_s (i := 15) (p := 10918) (by omega) (by omega) (by omega)) (fun l => na_s (i := 16) (p := 10958) (by omega) (by omega) (by omega)) (fun l => na_s (i := 17) (p := 12558) (by omega) (by omega) (by omega)) (fun l => na_s (i := 18) (p := 14198) (by omega) (by omega) (by omega))
  have m40 : (A ++ [oc_M (nI 0) 0 0 0 0 0 0, hy_ia 4 hy_z, hy_ia 80 hy_z, hy_ia 80 hy_z, hy_ia 80 hy_z, hy_ia 4 hy_z, hy_ia 4 hy_z, hy_ia 40 hy_z, hy_ia 5 hy_z, hy_ia 40 hy_z, hy_ia 41 hy_z, hy_ia 300 hy_z, hy_ia 300 hy_z, hy_ia 4800 hy_z, hy_ia 5100 hy_z, hy_ia 40 hy_z, hy_ia 40 hy_z, hy_ia 1600 hy_z, hy_ia 1640 hy_z, hy_ia 400 hy_z] : List hy_C)[40]? = some (oc_M (nI 0) 0 0 0 0 0 0) := (at_d (d := 0) hk).trans rfl
  have m41 : (A ++ [oc_M (nI 0) 0 0 0 0 0 0, hy_ia 4 hy_z, hy_ia 80 hy_z, hy_ia 80 hy_z, hy_ia 80 hy_z, hy_ia 4 hy_z, hy_ia 4 hy_z, hy_ia 40 hy_z, hy_ia 5 hy_z, hy_ia 40 hy_z, hy_ia 41 hy_z, hy_ia 300 hy_z, hy_ia 300 hy_z, hy_ia 4800 hy_z, hy_ia 5100 hy_z, hy_ia 40 hy_z, hy_ia 40 hy_z, hy_ia 1600 hy_z, hy_ia 1640 hy_z, hy_ia 400 hy_z] : List hy_C)[41]? = some (hy_ia 4 hy_z) := (at_d (d := 1) hk).trans rfl
  have m42 : (A ++ [oc_M (nI 0) 0 0 0 0 0 0, hy_ia 4 hy_z, hy_ia 80 hy_z, hy_ia 80 hy_z, hy_ia 80 hy_z, hy_ia 4 hy_z, hy_ia 4 hy_z, hy_ia 40 hy_z, hy_ia 5 hy_z, hy_ia 40 hy_z, hy_ia 41 hy_z, hy_ia 300 hy_z, hy_ia 300 hy_z, hy_ia 4800 hy_z, hy_ia 5100 hy_z, hy_ia 40 hy_z, hy_ia 40 hy_z, hy_ia 1600 hy_z, hy_ia 1640 hy_z, hy_ia 400 hy_z] : List hy_C)[42]? = some (hy_ia 80 hy_z) := (at_d (d := 2) hk).trans rfl
  have m43 : (A ++ [oc_M (nI 0) 0 0 0 0 0 0, hy_ia 4 hy_z, hy_ia 80 hy_z, hy_ia 80 hy_z, hy_ia 80 hy_z, hy_ia 4 hy_z, hy_ia 4 hy_z, hy_ia 40 hy_z, hy_ia 5 hy_z, hy_ia 40 hy_z, hy_ia 41 hy_z, hy_ia 300 hy_z, hy_ia 300 hy_z, hy_ia 4800 hy_z, hy_ia 5100 hy_z, hy_ia 40 hy_z, hy_ia 40 hy_z, hy_ia 1600 hy_z, hy_ia 1640 hy_z, hy_ia 400 hy_z] : List hy_C)[43]? = some (hy_ia 80 hy_z) := (at_d (d := 3) hk).trans rfl
  have m44 : (A ++ [oc_M (nI 0) 0 0 0 0 0 0, hy_ia 4 hy_z, hy_ia 80 hy_z, hy_ia 80 hy_z, hy_ia 80 hy_z, hy_ia 4 hy_z, hy_ia 4 hy_z, hy_ia 40 hy_z, hy_ia 5 hy_z, hy_ia 40 hy_z, hy_ia 41 hy_z, hy_ia 300 hy_z, hy_ia 300 hy_z, hy_ia 4800 hy_z, hy_ia 5100 hy_z, hy_ia 40 hy_z, hy_ia 40 hy_z, hy_ia 1600 hy_z, hy_ia 1640 hy_z, hy_ia 400 hy_z] : List hy_C)[44]? = some (hy_ia 80 hy_z) := (at_d (d := 4) hk).trans rfl
  have m45 : (A ++ [oc_M (nI 0) 0 0 0 0 0 0, hy_ia 4 hy_z, hy_ia 80 hy_z, hy_ia 80 hy_z, hy_ia 80 hy_z, hy_ia 4 hy_z, hy_ia 4 hy_z, hy_ia 40 hy_z, hy_ia 5 hy_z, hy_ia 40 hy_z, hy_ia 41 hy_z, hy_ia 300 hy_z, hy_ia 300 hy_z, hy_ia 4800 hy_z, hy_ia 5100 hy_z, hy_ia 40 hy_z, hy_ia 40 hy_z, hy_ia 1600 hy_z, hy_ia 1640 hy_z, hy_ia 400 hy_z] : List hy_C)[45]? = some (hy_ia 4 hy_z) := (at_d (d := 5) hk).trans rfl
  have m46 : (A ++ [oc_M (nI 0) 0 0 0 0 0 0, hy_ia 4 hy_z, hy_ia 80 hy_z, hy_ia 80 hy_z, hy_ia 80 hy_z, hy_ia 4 hy_z, hy_ia 4 hy_z, hy_ia 40 hy_z, hy_ia 5 hy_z, hy_ia 40 hy_z, hy_ia 41 hy_z, hy_ia 300 hy_z, hy_ia 300 hy_z, hy_ia 4800 hy_z, hy_ia 5100 hy_z, hy_ia 40 hy_z, hy_ia 40 hy_z, hy_ia 1600 hy_z, hy_ia 1640 hy_z, hy_ia 400 hy_z] : List hy_C)[46]? = some (hy_ia 4 hy_z) := (at_d (d := 6) hk).trans rfl
  have m47 : (A ++ [oc_M (nI 0) 0 0 0 0 0 0, hy_ia 4 hy_z, hy_ia 80 hy_z, hy_ia 80 hy_z, hy_ia 80 hy_z, hy_ia 4 hy_z, hy_ia 4 hy_z, hy_ia 40 hy_z, hy_ia 5 hy_z, hy_ia 40 hy_z, hy_ia 41 hy_z, hy_ia 300 hy_z, hy_ia 300 hy_z, hy_ia 4800 hy_z, hy_ia 5100 hy_z, hy_ia 40 hy_z, hy_ia 40 hy_z, hy_ia 1600 hy_z, hy_ia 1640 hy_z, hy_ia 400 hy_z] : List hy_C)[47]? = some (hy_ia 40 hy_z) := (at_d (d := 7) hk).trans rfl
  have m48 : (A ++ [oc_M (nI 0) 0 0 0 0 0 0, hy_ia 4 hy_z, hy_ia 80 hy_z, hy_ia 80 hy_z, hy_ia 80 hy_z, hy_ia 4 hy_z, hy_ia 4 hy_z, hy_ia 40 hy_z, hy_ia 5 hy_z, hy_ia 40 hy_z, hy_ia 41 hy_z, hy_ia 300 hy_z, hy_ia 300 hy_z, hy_ia 4800 hy_z, hy_ia 5100 hy_z, hy_ia 40 hy_z, hy_ia 40 hy_z, hy_ia 1600 hy_z, hy_ia 1640 hy_z, hy_ia 400 hy_z] : List hy_C)[48]? = some (hy_ia 5 hy_z) := (at_d (d := 8) hk).trans rfl
  have m49 : (A ++ [oc_M (nI 0) 0 0 0 0 0 0, hy_ia 4 hy_z, hy_ia 80 hy_z, hy_ia 80 hy_z, hy_ia 80 hy_z, hy_ia 4 hy_z, hy_ia 4 hy_z, hy_ia 40 hy_z, hy_ia 5 hy_z, hy_ia 40 hy_z, hy_ia 41 hy_z, hy_ia 300 hy_z, hy_ia 300 hy_z, hy_ia 4800 hy_z, hy_ia 5100 hy_z, hy_ia 40 hy_z, hy_ia 40 hy_z, hy_ia 1600 hy_z, hy_ia 1640 hy_z, hy_ia 400 hy_z] : List hy_C)[49]? = some (hy_ia 40 hy_z) := (at_d (d := 9) hk).trans rfl
  have m50 : (A ++ [oc_M (nI 0) 0 0 0 0 0 0, hy_ia 4 hy_z, hy_ia 80 hy_z, hy_ia 80 hy_z, hy_ia 80 hy_z, hy_ia 4 hy_z, hy_ia 4 hy_z, hy_ia 40 hy_z, hy_ia 5 hy_z, hy_ia 40 hy_z, hy_ia 41 hy_z, hy_ia 300 hy_z, hy_ia 300 hy_z, hy_ia 4800 hy_z, hy_ia 5100 hy_z, hy_ia 40 hy_z, hy_ia 40 hy_z, hy_ia 1600 hy_z, hy_ia 1640 hy_z, hy_ia 400 hy_z] : List hy_C)[50]? = some (hy_ia 41 hy_z) := (at_d (d := 10) hk).trans rfl
  have m51 : (A ++ [oc_M (nI 0) 0 0 0 0 0 0, hy_ia 4 hy_z, hy_ia 80 hy_z, hy_ia 80 hy_z, hy_ia 80 hy_z, hy_ia 4 hy_z, hy_ia 4 hy_z, hy_ia 40 hy_z, hy_ia 5 hy_z, hy_ia 40 hy_z, hy_ia 41 hy_z, hy_ia 300 hy_z, hy_ia 300 hy_z, hy_ia 4800 hy_z, hy_ia 5100 hy_z, hy_ia 40 hy_z, hy_ia 40 hy_z, hy_ia 1600 hy_z, hy_ia 1640 hy_z, hy_ia 400 hy_z] : List hy_C)[51]? = some (hy_ia 300 hy_z) := (at_d (d := 11) hk).trans rfl
  have m52 : (A ++ [oc_M (nI 0) 0 0 0 0 0 0, hy_ia 4 hy_z, hy_ia 80 hy_z, hy_ia 80 hy_z, hy_ia 80 hy_z, hy_ia 4 hy_z, hy_ia 4 hy_z, hy_ia 40 hy_z, hy_ia 5 hy_z, hy_ia 40 hy_z, hy_ia 41 hy_z, hy_ia 300 hy_z, hy_ia 300 hy_z, hy_ia 4800 hy_z, hy_ia 5100 hy_z, hy_ia 40 hy_z, hy_ia 40 hy_z, hy_ia 1600 hy_z, hy_ia 1640 hy_z, hy_ia 400 hy_z] : List hy_C)[52]? = some (hy_ia 300 hy_z) := (at_d (d := 12) hk).trans rfl
  have m53 : (A ++ [oc_M (nI 0) 0 0 0 0 0 0, hy_ia 4 hy_z, hy_ia 80 hy_z, hy_ia 80 hy_z, hy_ia 80 hy_z, hy_ia 4 hy_z, hy_ia 4 hy_z, hy_ia 40 hy_z, hy_ia 5 hy_z, hy_ia 40 hy_z, hy_ia 41 hy_z, hy_ia 300 hy_z, hy_ia 300 hy_z, hy_ia 4800 hy_z, hy_ia 5100 hy_z, hy_ia 40 hy_z, hy_ia 40 hy_z, hy_ia 1600 hy_z, hy_ia 1640 hy_z, hy_ia 400 hy_z] : List hy_C)[53]? = some (hy_ia 4800 hy_z) := (at_d (d := 13) hk).trans rfl
  have m54 : (A ++ [oc_M (nI 0) 0 0 0 0 0 0, hy_ia 4 hy_z, hy_ia 80 hy_z, hy_ia 80 hy_z, hy_ia 80 hy_z, hy_ia 4 hy_z, hy_ia 4 hy_z, hy_ia 40 hy_z, hy_ia 5 hy_z, hy_ia 40 hy_z, hy_ia 41 hy_z, hy_ia 300 hy_z, hy_ia 300 hy_z, hy_ia 4800 hy_z, hy_ia 5100 hy_z, hy_ia 40 hy_z, hy_ia 40 hy_z, hy_ia 1600 hy_z, hy_ia 1640 hy_z, hy_ia 400 hy_z] : List hy_C)[54]? = some (hy_ia 5100 hy_z) := (at_d (d := 14) hk).trans rfl
  have m55 : (A ++ [oc_M (nI 0) 0 0 0 0 0 0, hy_ia 4 hy_z, hy_ia 80 hy_z, hy_ia 80 hy_z, hy_ia 80 hy_z, hy_ia 4 hy_z, hy_ia 4 hy_z, hy_ia 40 hy_z, hy_ia 5 hy_z, hy_ia 40 hy_z, hy_ia 41 hy_z, hy_ia 300 hy_z, hy_ia 300 hy_z, hy_ia 4800 hy_z, hy_ia 5100 hy_z, hy_ia 40 hy_z, hy_ia 40 hy_z, hy_ia 1600 hy_z, hy_ia 1640 hy_z, hy_ia 400 hy_z] : List hy_C)[55]? = some (hy_ia 40 hy_z) := (at_d (d := 15) hk).trans rfl
  have m56 : (A ++ [oc_M (nI 0) 0 0 0 0 0 0, hy_ia 4 hy_z, hy_ia 80 hy_z, hy_ia 80 hy_z, hy_ia 80 hy_z, hy_ia 4 hy_z, hy_ia 4 hy_z, hy_ia 40 hy_z, hy_ia 5 hy_z, hy_ia 40 hy_z, hy_ia 41 hy_z, hy_ia 300 hy_z, hy_ia 300 hy_z, hy_ia 4800 hy_z, hy_ia 5100 hy_z, hy_ia 40 hy_z, hy_ia 40 hy_z, hy_ia 1600 hy_z, hy_ia 1640 hy_z, hy_ia 400 hy_z] : List hy_C)[56]? = some (hy_ia 40 hy_z) := (at_d (d := 16) hk).trans rfl
  have m57 : (A ++ [oc_M (nI 0) 0 0 0 0 0 0, hy_ia 4 hy_z, hy_ia 80 hy_z, hy_ia 80 hy_z, hy_ia 80 hy_z, hy_ia 4 hy_z, hy_ia 4 hy_z, hy_ia 40 hy_z, hy_ia 5 hy_z, hy_ia 40 hy_z, hy_ia 41 hy_z, hy_ia 300 hy_z, hy_ia 300 hy_z, hy_ia 4800 hy_z, hy_ia 5100 hy_z, hy_ia 40 hy_z, hy_ia 40 hy_z, hy_ia 1600 hy_z, hy_ia 1640 hy_z, hy_ia 400 hy_z] : List hy_C)[57]? = some (hy_ia 1600 hy_z) := (at_d (d := 17) hk).trans rfl
  have m58 : (A ++ [oc_M (nI 0) 0 0 0 0 0 0, hy_ia 4 hy_z, hy_ia 80 hy_z, hy_ia 80 hy_z, hy_ia 80 hy_z, hy_ia 4 hy_z, hy_ia 4 hy_z, hy_ia 40 hy_z, hy_ia 5 hy_z, hy_ia 40 hy_z, hy_ia 41 hy_z, hy_ia 300 hy_z, hy_ia 300 hy_z, hy_ia 4800 hy_z, hy_ia 5100 hy_z, hy_ia 40 hy_z, hy_ia 40 hy_z, hy_ia 1600 hy_z, hy_ia 1640 hy_z, hy_ia 400 hy_z] : List hy_C)[58]? = some (hy_ia 1640 hy_z) := (at_d (d := 18) hk).trans rfl
  have m59 : (A ++ [oc_M (nI 0) 0 0 0 0 0 0, hy_ia 4 hy_z, hy_ia 80 hy_z, hy_ia 80 hy_z, hy_ia 80 hy_z, hy_ia 4 hy_z, hy_ia 4 hy_z, hy_ia 40 hy_z, hy_ia 5 hy_z, hy_ia 40 hy_z, hy_ia 41 hy_z, hy_ia 300 hy_z, hy_ia 300 hy_z, hy_ia 4800 hy_z, hy_ia 5100 hy_z, hy_ia 40 hy_z, hy_ia 40 hy_z, hy_ia 1600 hy_z, hy_ia 1640 hy_z, hy_ia 400 hy_z] : List hy_C)[59]? = some (hy_ia 400 hy_z) := (at_d (d := 19) hk).trans rfl
  have hl : (A ++ [oc_M (nI 0) 0 0 0 0 0 0, hy_ia 4 hy_z, hy_ia 80 hy_z, hy_ia 80 hy_z, hy_ia 80 hy_z, hy_ia 4 hy_z, hy_ia 4 hy_z, hy_ia 40 hy_z, hy_ia 5 hy_z, hy_ia 40 hy_z, hy_ia 41 hy_z, hy_ia 300 hy_z, hy_ia 300 hy_z, hy_ia 4800 hy_z, hy_ia 5100 hy_z, hy_ia 40 hy_z, hy_ia 40 hy_z, hy_ia 1600 hy_z, hy_ia 1640 hy_z, hy_ia 400 hy_z] : List hy_C).length = 60 := by rw [List.length_append, hk]; rfl
  have hA : ∀ (j : Nat) (c : hy_C), j < 40 → A[j]? = some c → (A ++ [oc_M (nI 0) 0 0 0 0 0 0, hy_ia 4 hy_z, hy_ia 80 hy_z, hy_ia 80 hy_z, hy_ia 80 hy_z, hy_ia 4 hy_z, hy_ia 4 hy_z, hy_ia 40 hy_z, hy_ia 5 hy_z, hy_ia 40 hy_z, hy_ia 41 hy_z, hy_ia 300 hy_z, hy_ia 300 hy_z, hy_ia 4800 hy_z, hy_ia 5100 hy_z, hy_ia 40 hy_z, hy_ia 40 hy_z, hy_ia 1600 hy_z, hy_ia 1640 hy_z, hy_ia 400 hy_z] : List hy_C)[j]? = some c := fun j c hj h => by rw [List.getElem?_append_left (by omega)]; exact h
  generalize (A ++ [oc_M (nI 0) 0 0 0 0 0 0, hy_ia 4 hy_z, hy_ia 80 hy_z, hy_ia 80 hy_z, hy_ia 80 hy_z, hy_ia 4 hy_z, hy_ia 4 hy_z, hy_ia 40 hy_z, hy_ia 5 hy_z, hy_ia 40 hy_z, hy_ia 41 hy_z, hy_ia 300 hy_z, hy_ia 300 hy_z, hy_ia 4800 hy_z, hy_ia 5100 hy_z, hy_ia 40 hy_z, hy_ia 40 hy_z, hy_ia 1600 hy_z, hy_ia 1640 hy_z, hy_ia 400 hy_z] : List hy_C) = X at e0 m40 m41 m42 m43 m44 m45 m46 m47 m48 m49 m50 m51 m52 m53 m54 m55 m56 m57 m58 m59 hl hA
  have hw : 46 < (X, a - 19, b - 14598).1.length := by show 46 < X.length; omega
  have s0 : hy_m2 (X, a - 19, b - 14598) hy_z hy_z = (X, a - 19, b - 14598) := by
    unfold hy_m2
    rw [wr_same (w := (X, a - 19, b - 14598)) m45, wr_same (w := (X, a - 19, b - 14598)) m46]
  have st := fun (f g : Nat → Int32) (j : Nat) (hj : j < 4) => i_M161 (w := (X, a - 19, b - 14598)) (f := f) (g := g) hw m40 hj
  refine ⟨hy_m2 (X, a - 19, b - 14598) (fun _ => nI 2) (fun _ => nI 3), ?_, fun j c hj h => (m2_ne (by omega)).trans (hA j c hj h), ?_, ?_, rfl⟩
  · rw [f_M_init]
    refine e0.trans ?_
    refine (congrArg (fun v => hy_fx nx_M_init (161, [.ref 40, .int (nI 0)], v)) s0.symm).trans ?_
    rw [st _ _ 0 (by omega), st _ _ (0 + 1) (by omega), st _ _ (0 + 1 + 1) (by omega), st _ _ (0 + 1 + 1 + 1) (by omega), i_M161e (by unfold hy_m2; rw [wr_len, wr_len]; exact hw)]
    unfold hy_m2
    rw [up4, up4]
  · unfold hy_m2
    rw [wr_len, wr_len]
    exact hl
  · unfold hy_Dc hy_m2
    simp (disch := omega) only [e_gi, e_gr, e_ob, e_ai, e_ar, e_ln, e_pf, e_pa, wr_eq, wr_ne, wr_wr, Option.map_some, Option.bind_some, hy_bi_s, hy_br_s, hy_bv_s, hy_xi_s, hy_xi_t, hy_xv_s, hy_xv_t, hy_k_l, hy_k_r, ia_ai, ia_pa, ia_ln, oc_a_ar, oc_o_pa, oc_r_ln, n_le_t, n_le_f, n_lt_t, n_lt_f, n_eq_t, n_eq_f, nI_add, pk_mul, n_sub, n_prd, ne_1, hy_b_t, hy_b_f, ↓reduceIte, true_or, or_true, Bool.false_eq_true, or_false, false_or, and_true, true_and, and_false, false_and, li_c, li_0, li_1, li_2, li_3, li_4, li_5, li_6, li_10, li_11, li_16, li_17, li_20, li_40, li_41, li_300, li_400, oc_H_ob, oc_H_g0, oc_H_g1, oc_H_g2, oc_H_g3, oc_H_g4, oc_H_p5, oc_H_g5, oc_N_ob, oc_N_g0, oc_N_p1, oc_N_g1, oc_N_g2, oc_N_p3, oc_N_g3, oc_D_ob, oc_D_g0, oc_D_g1, oc_D_p2, oc_D_g2, oc_G_ob, oc_G_g0, oc_G_g1, oc_G_p2, oc_G_g2, oc_G_p3, oc_G_g3, oc_G_p4, oc_G_g4, oc_L_ob, oc_L_g0, oc_L_g1, oc_L_g2, oc_L_g3, oc_L_g4, oc_L_p5, oc_L_g5, oc_L_p6, oc_L_g6, oc_L_p7, oc_L_g7, oc_A_ob, oc_A_g0, oc_A_p1, oc_A_g1, oc_A_p2, oc_A_g2, oc_A_p0, oc_U_ob, oc_U_g0, oc_U_g1, oc_M_ob, oc_M_p0, oc_M_g0, oc_M_p1, oc_M_g1, oc_M_g2, oc_M_g3, oc_M_g4, oc_M_g5, oc_M_g6, oc_M_g7, oc_M_p8, oc_M_g8, oc_M_g9, oc_M_g10, oc_M_p11, oc_M_g11, oc_M_g12, oc_M_g13, oc_M_p14, oc_M_g14, oc_M_g15, oc_M_g16, oc_M_g17, oc_M_g18, oc_M_p19, oc_M_g19, oc_M_g20, oc_M_g21, oc_M_g22, oc_M_g23, oc_M_p24, oc_M_g24, oc_M_g25, m40, m41, m42, m43, m44, m45, m46, m47, m48, m49, m50, m51, m52, m53, m54, m55, m56, m57, m58, m59]
theorem na_1 {w : hy_W} (h1 : 1 ≤ w.2.1) (h2 : 1 ≤ w.2.2) : hy_na w 1 (nI 1) = some (w.1 ++ [oc_o 0], w.2.1 - 1, w.2.2 - 1) := by
  unfold hy_na
  rw [nI_clamp (by omega), if_pos ⟨nI_pos' (by omega), by omega⟩]
  exact if_pos ⟨h1, h2⟩
/-- the invariant where the law begins -/
theorem I_0 {w : hy_W} (hc : ∀ (j : Nat) (c : hy_C), j < 40 → hy_h0[j]? = some c → w.1[j]? = some c) (hd : hy_Dc w 0 0 0 hy_z hy_z hy_z hy_z hy_z (fun _ => nI 2) (fun _ => nI 3) 0 0 (nI 0) 0 hy_z hy_z hy_z hy_z hy_z hy_z hy_z hy_z hy_z hy_z hy_z hy_z) (h60 : w.1[60]? = some (oc_o 0)) (b1 : 8 * 512 ≤ w.2.1) (b2 : 2000 * 512 ≤ w.2.2) : hy_I 512 w := by
  refine ⟨nI 0, 0, 0, 0, hy_z, hy_z, hy_z, hy_z, hy_z, (fun _ => nI 2), (fun _ => nI 3), (fun _ => 0), [], [], 0, ⟨?_, ?_, ?_⟩, ⟨0, hy_z, hy_z, hy_z, hy_z, hy_z, hy_z, hy_z, hy_z, hy_z, hy_z, hy_z, hy_z, hd, fun _ _ => rfl, fun i lg p h => (by cases h), fun i lg p h => (by cases h)⟩, ⟨by omega, by omega, by omega, fun k hk => ⟨Nat.zero_le _, fun i hi => absurd hi (Nat.not_lt_zero i)⟩, fun i hi => by omega, Nat.zero_le _, Nat.zero_le _, fun e he => (by cases he), fun e he => (by cases he), fun i j a b ha => (by cases ha), fun i j a b ha => (by cases ha)⟩, h60, b1, b2⟩
  · exact ⟨hy_z, hy_z, 0, hy_z, hy_z, 0, 0, nI 0, hy_z, hy_z, hc _ _ (by omega) rfl, hc _ _ (by omega) rfl, hc _ _ (by omega) rfl, hc _ _ (by omega) rfl, hc _ _ (by omega) rfl, hc _ _ (by omega) rfl, hc _ _ (by omega) rfl, hc _ _ (by omega) rfl, hc _ _ (by omega) rfl, hc _ _ (by omega) rfl, hc _ _ (by omega) rfl, hc _ _ (by omega) rfl, hc _ _ (by omega) rfl, hc _ _ (by omega) rfl⟩
  · intro k hk
    have : k = 0 ∨ k = 1 ∨ k = 2 ∨ k = 3 := by omega
    rcases this with rfl | rfl | rfl | rfl
    · exact ⟨hc 16 _ (by omega) rfl, hc 17 _ (by omega) rfl, hc 18 _ (by omega) rfl, hc 19 _ (by omega) rfl⟩
    · exact ⟨hc 22 _ (by omega) rfl, hc 23 _ (by omega) rfl, hc 24 _ (by omega) rfl, hc 25 _ (by omega) rfl⟩
    · exact ⟨hc 28 _ (by omega) rfl, hc 29 _ (by omega) rfl, hc 30 _ (by omega) rfl, hc 31 _ (by omega) rfl⟩
    · exact ⟨hc 34 _ (by omega) rfl, hc 35 _ (by omega) rfl, hc 36 _ (by omega) rfl, hc 37 _ (by omega) rfl⟩
  · have hz : w.1[0]? = some (oc_r []) := hc 0 _ (by omega) rfl
    have key : ∀ c, w.1[c]? = some (oc_A 0 0 (nI 0)) → hy_RL w c 0 [] := fun c h => ⟨nI 0, [], h, hz, Nat.le_refl _, Nat.zero_le _, Or.inl ⟨rfl, rfl⟩, fun v hv => (by cases hv), fun i p hp => (by cases hp)⟩
    have qn : ∀ c, hy_qf [] [] c = [] := by
      intro c
      unfold hy_qf
      split <;> rfl
    refine ⟨fun _ => 0, fun c h => ?_, fun _ _ _ _ _ => Or.inl rfl⟩
    rw [qn]
    apply key
    have : c = 20 ∨ c = 21 ∨ c = 26 ∨ c = 27 ∨ c = 32 ∨ c = 33 ∨ c = 38 ∨ c = 39 := by unfold hy_lc at h; omega
    rcases this with rfl | rfl | rfl | rfl | rfl | rfl | rfl | rfl
    · exact hc 20 _ (by omega) rfl
    · exact hc 21 _ (by omega) rfl
    · exact hc 26 _ (by omega) rfl
    · exact hc 27 _ (by omega) rfl
    · exact hc 32 _ (by omega) rfl
    · exact hc 33 _ (by omega) rfl
    · exact hc 38 _ (by omega) rfl
    · exact hc 39 _ (by omega) rfl
theorem hy_pure : hy_Pure := by
  intro N xs hN
  obtain ⟨a1, b1, e1, g1, g2⟩ := i_H (a := 601023) (b := 7293028) (by omega) (by omega)
  have hh : hy_h0.length = 40 := rfl
  obtain ⟨w2, e2, k2, l2, D2, p2⟩ := i_M (A := hy_h0) (a := a1 - 1) (b := b1 - 26) hh (by omega) (Nat.le_sub_of_add_le (by omega))
  have c1 : a1 ≤ w2.2.1 + 20 := by rw [p2]; show a1 ≤ a1 - 1 - 19 + 20; omega
  have c2 : b1 ≤ w2.2.2 + 14624 := by
    rw [p2]
    show b1 ≤ b1 - 26 - 14598 + 14624
    rw [Nat.sub_sub]
    exact Nat.le_add_of_sub_le (Nat.le_refl _)
  have e3 := na_1 (w := w2) (by omega) (by omega)
  have n1 : hy_nw hy_w0 (.inl (5, [.null, .null, .null, .null, .null, .int 0])) 6 = some ([.inr (3, []), .inl (99, []), .inl (5, [.null, .null, .null, .null, .null, .int 0])], 601023, 7293028) := nw_l (l := [.inr (3, []), .inl (99, [])]) (a := 601024) (b := 7293034) (by omega) (by omega)
  have n2 : hy_nw (hy_h0, a1, b1) (.inl (6, [.int 0, .int 0, .null, .null, .null, .null, .null, .null, .int 0, .null, .null, .int 0, .null, .null, .int 0, .null, .null, .null, .null, .int 0, .null, .null, .null, .null, .int 0, .null])) 26 = some (hy_h0 ++ [.inl (6, [.int 0, .int 0, .null, .null, .null, .null, .null, .null, .int 0, .null, .null, .int 0, .null, .null, .int 0, .null, .null, .null, .null, .int 0, .null, .null, .null, .null, .int 0, .null])], a1 - 1, b1 - 26) := nw_l (by omega) (by omega)
  have I : hy_I 512 (w2.1 ++ [oc_o 0], w2.2.1 - 1, w2.2.2 - 1) := by
    have kk : ∀ (j : Nat) (c : hy_C), w2.1[j]? = some c → (w2.1 ++ [oc_o 0] : List hy_C)[j]? = some c := fun j c h => by
      have := (List.getElem?_eq_some_iff.mp h).1
      rw [List.getElem?_append_left this]; exact h
    refine I_0 (fun j c hj h => kk j c (k2 j c hj h)) ?_ ?_ ?_ ?_
    · obtain ⟨m40, m41, m42, m43, m44, m45, m46, m47, m48, m49, m50, m51, m52, m53, m54, m55, m56, m57, m58, m59⟩ := D2
      exact ⟨kk _ _ m40, kk _ _ m41, kk _ _ m42, kk _ _ m43, kk _ _ m44, kk _ _ m45, kk _ _ m46, kk _ _ m47, kk _ _ m48, kk _ _ m49, kk _ _ m50, kk _ _ m51, kk _ _ m52, kk _ _ m53, kk _ _ m54, kk _ _ m55, kk _ _ m56, kk _ _ m57, kk _ _ m58, kk _ _ m59⟩
    · exact (at_d (d := 0) l2).trans rfl
    · show 8 * 512 ≤ w2.2.1 - 1
      omega
    · show 2000 * 512 ≤ w2.2.2 - 1
      omega
  obtain ⟨w', ew⟩ := lp_all (xs := xs) hN 512 0 _ I (by omega) (by omega)
  refine ⟨w', ?_⟩
  rw [f_X_law, ev_X_law_0]
  unfold sg_X_law_0
  rw [n1, Option.bind_some, show hy_w0.1.length = 2 from rfl, e1, hy_bv_s, n2, Option.bind_some]
  show hy_k _ (hy_bv (f_M_init [.ref hy_h0.length] _) _) = _
  rw [hh, e2, hy_bv_s, li_1, e3, Option.bind_some, hy_k_l, l2]
  exact ew
