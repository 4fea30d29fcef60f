/-! EVERY CALL keeps both sides together -/
def hy_I (K : Nat) (w : hy_W) : Prop := ∃ (ft : Int32) (l td n : Nat) (tl x F L T lf rg : Nat → Int32) (r : Nat → Nat) (PM EM : List (Nat × hy_U)) (o : Int64), hy_CI w l td n tl x F L T lf rg r PM EM ∧ hy_DI w ft l td n tl x F L T lf rg r PM EM ∧ hy_QI l td n tl x F L T lf rg r PM EM ∧ w.1[60]? = some (oc_o o) ∧ 8 * K ≤ w.2.1 ∧ 2000 * K ≤ w.2.2
theorem wr_at {w : hy_W} {k : Nat} {c d : hy_C} (h : w.1[k]? = some d) : (hy_wr w k c).1[k]? = some c := by
  rw [wr_eq, h]; rfl
theorem I_end {K : Nat} {w1 w2 : hy_W} {ft : Int32} {l td n : Nat} {tl x F L T lf rg : Nat → Int32} {r : Nat → Nat} {PM EM : List (Nat × hy_U)} (C : hy_CI w1 l td n tl x F L T lf rg r PM EM) (D : hy_DI w2 ft l td n tl x F L T lf rg r PM EM) (Q : hy_QI l td n tl x F L T lf rg r PM EM) (h60 : ∃ o, w1.1[60]? = some (oc_o o)) (hk : ∀ (j : Nat) (c : hy_C), j < 40 ∨ 60 ≤ j → w1.1[j]? = some c → w2.1[j]? = some c) (h2 : w2.2 = w1.2) (b1 : 8 * K ≤ w1.2.1) (b2 : 2000 * K ≤ w1.2.2) : hy_I K w2 := by
  obtain ⟨o, h60⟩ := h60
  exact ⟨ft, l, td, n, tl, x, F, L, T, lf, rg, r, PM, EM, o, CI_fr C fun j c hj h => hk j c (by omega) h, D, Q, hk _ _ (by omega) h60, by rw [h2]; exact b1, by rw [h2]; exact b2⟩
theorem ne_10 : ¬ nI 1 = nI 0 := by decide +kernel
theorem ne_20 : ¬ nI 2 = nI 0 := by decide +kernel
section STS
variable {N : Nat} {xs : Nat → Int32} {w : hy_W} {i K : Nat}
theorem s_choose (I : hy_I (K + 1) w) (hi : i + 6 ≤ N) (hN : N ≤ 3072) : ∃ w2, hy_fx (nx_X_law N xs) (112, [.ref 2, .ref 40, .ref 60, .int (nI i)], w) = hy_fx (nx_X_law N xs) (23, [.ref 2, .ref 40, .ref 60, .int (nI (i + 6))], w2) ∧ hy_I K w2 := by
  obtain ⟨ft, l, td, n, tl, x, F, L, T, lf, rg, r, PM, EM, o, C, h, Q, h60, b1, b2⟩ := I
  have C' := C
  have Q' := Q
  obtain ⟨⟨f5, f8, nd, sd, vd, s, m, c, sr, gr, c2, c3, c4, c5, c6, c7, c8, c9, c10, c11, c12, c13, c14, c15⟩, C2, A, A1, A2⟩ := C
  obtain ⟨lc, R, f48, rl, rv, po, pz, pa, pv, eo, ez, ea, ev, ⟨m40, m41, m42, m43, m44, m45, m46, m47, m48, m49, m50, m51, m52, m53, m54, m55, m56, m57, m58, m59⟩, mR, tp, te⟩ := h
  obtain ⟨ql, qt, qn, qr, qv, qp, qe, qop, qoe, qup, que⟩ := Q
  by_cases hv : xs (i + 1) < nI 0 ∨ ¬ xs (i + 1) < nI 4
  · have e1 := p_H_choose_t (w := w) hv (by omega) (by omega)
    have e3 := p_M_choose_t (w := hy_tw w) m40 hv
    exact ⟨_, lw_choose hi hN (x_choose_1 c2 e1) m40 e3 (wr_at m40) (fun h => absurd h ne_10), I_end (w1 := hy_tw w) (ft := nI 1) (CI_tw C') ⟨lc, R, f48, rl, rv, po, pz, pa, pv, eo, ez, ea, ev, by unfold hy_Dc; simp (disch := omega) only [e_gi, e_gr, e_ob, e_ai, e_ar, e_ln, e_pf, e_pa, wr_eq, wr_ne, wr_wr, Option.map_some, Option.bind_some, hy_bi_s, hy_br_s, hy_bv_s, hy_xi_s, hy_xi_t, hy_xv_s, hy_xv_t, hy_k_l, hy_k_r, ia_ai, ia_pa, ia_ln, oc_a_ar, oc_o_pa, oc_r_ln, n_le_t, n_le_f, n_lt_t, n_lt_f, n_eq_t, n_eq_f, nI_add, pk_mul, n_sub, n_prd, ne_1, hy_b_t, hy_b_f, ↓reduceIte, true_or, or_true, Bool.false_eq_true, or_false, false_or, and_true, true_and, and_false, false_and, li_c, li_0, li_1, li_2, li_3, li_4, li_5, li_6, li_10, li_11, li_16, li_17, li_20, li_40, li_41, li_300, li_400, oc_H_ob, oc_H_g0, oc_H_g1, oc_H_g2, oc_H_g3, oc_H_g4, oc_H_p5, oc_H_g5, oc_N_ob, oc_N_g0, oc_N_p1, oc_N_g1, oc_N_g2, oc_N_p3, oc_N_g3, oc_D_ob, oc_D_g0, oc_D_g1, oc_D_p2, oc_D_g2, oc_G_ob, oc_G_g0, oc_G_g1, oc_G_p2, oc_G_g2, oc_G_p3, oc_G_g3, oc_G_p4, oc_G_g4, oc_L_ob, oc_L_g0, oc_L_g1, oc_L_g2, oc_L_g3, oc_L_g4, oc_L_p5, oc_L_g5, oc_L_p6, oc_L_g6, oc_L_p7, oc_L_g7, oc_A_ob, oc_A_g0, oc_A_p1, oc_A_g1, oc_A_p2, oc_A_g2, oc_A_p0, oc_U_ob, oc_U_g0, oc_U_g1, oc_M_ob, oc_M_p0, oc_M_g0, oc_M_p1, oc_M_g1, oc_M_g2, oc_M_g3, oc_M_g4, oc_M_g5, oc_M_g6, oc_M_g7, oc_M_p8, oc_M_g8, oc_M_g9, oc_M_g10, oc_M_p11, oc_M_g11, oc_M_g12, oc_M_g13, oc_M_p14, oc_M_g14, oc_M_g15, oc_M_g16, oc_M_g17, oc_M_g18, oc_M_p19, oc_M_g19, oc_M_g20, oc_M_g21, oc_M_g22, oc_M_g23, oc_M_p24, oc_M_g24, oc_M_g25, tw_get, m40, m41, m42, m43, m44, m45, m46, m47, m48, m49, m50, m51, m52, m53, m54, m55, m56, m57, m58, m59], mR, tp, te⟩ Q' ⟨o, h60⟩ (fun j c hj h => by rw [wr_ne (by omega)]; exact h) rfl (by show 8 * K ≤ w.2.1 - 1; omega) (by show 2000 * K ≤ w.2.2 - 6; omega)⟩
  · have hj : ∃ j : Nat, j < 4 ∧ xs (i + 1) = nI j := by
      have h1 : ¬ xs (i + 1) < 0 := fun h => hv (Or.inl h)
      obtain ⟨j, hj, e⟩ := nI_of h1
      refine ⟨j, ?_, e⟩
      apply Nat.lt_of_not_le
      intro h4
      apply hv
      right
      rw [e, nI_ltI (by omega) (by omega)]
      omega
    obtain ⟨j, hj, e⟩ := hj
    have e1 := p_H_choose (w := w) c2 hj
    rw [← e] at e1
    have k60 : (hy_wr w 2 (oc_H j)).1[60]? = some (oc_o o) := by rw [wr_ne (by omega)]; exact h60
    have k40 : (hy_wr (hy_wr w 2 (oc_H j)) 60 (oc_o (nI l).toInt64)).1[40]? = some (oc_M ft l td lc PM.length EM.length n) := by rw [wr_ne (by omega), wr_ne (by omega)]; exact m40
    have e3 := p_M_choose k40 hj
    rw [← e] at e3
    exact ⟨_, lw_choose hi hN (x_choose_s c2 e1 k60) k40 e3 (wr_at k40) (fun _ => by rw [wr_ne (by omega)]; exact wr_at k60), I_end (w1 := hy_wr (hy_wr w 2 (oc_H j)) 60 (oc_o (nI l).toInt64)) (ft := nI 0) (CI_60 (CI_2 C')) ⟨lc, R, f48, rl, rv, po, pz, pa, pv, eo, ez, ea, ev, by unfold hy_Dc; simp (disch := omega) only [e_gi, e_gr, e_ob, e_ai, e_ar, e_ln, e_pf, e_pa, wr_eq, wr_ne, wr_wr, Option.map_some, Option.bind_some, hy_bi_s, hy_br_s, hy_bv_s, hy_xi_s, hy_xi_t, hy_xv_s, hy_xv_t, hy_k_l, hy_k_r, ia_ai, ia_pa, ia_ln, oc_a_ar, oc_o_pa, oc_r_ln, n_le_t, n_le_f, n_lt_t, n_lt_f, n_eq_t, n_eq_f, nI_add, pk_mul, n_sub, n_prd, ne_1, hy_b_t, hy_b_f, ↓reduceIte, true_or, or_true, Bool.false_eq_true, or_false, false_or, and_true, true_and, and_false, false_and, li_c, li_0, li_1, li_2, li_3, li_4, li_5, li_6, li_10, li_11, li_16, li_17, li_20, li_40, li_41, li_300, li_400, oc_H_ob, oc_H_g0, oc_H_g1, oc_H_g2, oc_H_g3, oc_H_g4, oc_H_p5, oc_H_g5, oc_N_ob, oc_N_g0, oc_N_p1, oc_N_g1, oc_N_g2, oc_N_p3, oc_N_g3, oc_D_ob, oc_D_g0, oc_D_g1, oc_D_p2, oc_D_g2, oc_G_ob, oc_G_g0, oc_G_g1, oc_G_p2, oc_G_g2, oc_G_p3, oc_G_g3, oc_G_p4, oc_G_g4, oc_L_ob, oc_L_g0, oc_L_g1, oc_L_g2, oc_L_g3, oc_L_g4, oc_L_p5, oc_L_g5, oc_L_p6, oc_L_g6, oc_L_p7, oc_L_g7, oc_A_ob, oc_A_g0, oc_A_p1, oc_A_g1, oc_A_p2, oc_A_g2, oc_A_p0, oc_U_ob, oc_U_g0, oc_U_g1, oc_M_ob, oc_M_p0, oc_M_g0, oc_M_p1, oc_M_g1, oc_M_g2, oc_M_g3, oc_M_g4, oc_M_g5, oc_M_g6, oc_M_g7, oc_M_p8, oc_M_g8, oc_M_g9, oc_M_g10, oc_M_p11, oc_M_g11, oc_M_g12, oc_M_g13, oc_M_p14, oc_M_g14, oc_M_g15, oc_M_g16, oc_M_g17, oc_M_g18, oc_M_p19, oc_M_g19, oc_M_g20, oc_M_g21, oc_M_g22, oc_M_g23, oc_M_p24, oc_M_g24, oc_M_g25, m40, m41, m42, m43, m44, m45, m46, m47, m48, m49, m50, m51, m52, m53, m54, m55, m56, m57, m58, m59], mR, tp, te⟩ ⟨hj, qt, qn, qr, qv, qp, qe, qop, qoe, qup, que⟩ ⟨_, wr_at k60⟩ (fun j c hj h => by rw [wr_ne (by omega)]; exact h) rfl (by show 8 * K ≤ w.2.1; omega) (by show 2000 * K ≤ w.2.2; omega)⟩
theorem s_letters (I : hy_I (K + 1) w) (hi : i + 6 ≤ N) (hN : N ≤ 3072) : ∃ w2, hy_fx (nx_X_law N xs) (168, [.ref 2, .ref 40, .ref 60, .int (nI i)], w) = hy_fx (nx_X_law N xs) (23, [.ref 2, .ref 40, .ref 60, .int (nI (i + 6))], w2) ∧ hy_I K w2 := by
  obtain ⟨ft, l, td, n, tl, x, F, L, T, lf, rg, r, PM, EM, o, C, h, Q, h60, b1, b2⟩ := I
  have C' := C
  have Q' := Q
  obtain ⟨⟨f5, f8, nd, sd, vd, s, m, c, sr, gr, c2, c3, c4, c5, c6, c7, c8, c9, c10, c11, c12, c13, c14, c15⟩, C2, A, A1, A2⟩ := C
  obtain ⟨lc, R, f48, rl, rv, po, pz, pa, pv, eo, ez, ea, ev, ⟨m40, m41, m42, m43, m44, m45, m46, m47, m48, m49, m50, m51, m52, m53, m54, m55, m56, m57, m58, m59⟩, mR, tp, te⟩ := h
  obtain ⟨ql, qt, qn, qr, qv, qp, qe, qop, qoe, qup, que⟩ := Q
  obtain ⟨d1, d2, d3, d4⟩ := C2 l ql
  cases hv : hy_lok (xs (i + 1)) (xs (i + 2)) (xs (i + 3))
  · have e1 := p_H_letters_f (w := w) hv (by omega) (by omega)
    have e3 := p_M_letters_f (w := hy_tw w) m40 hv
    exact ⟨_, lw_letters hi hN (x_letters_1 c2 e1) m40 e3 (wr_at m40), I_end (w1 := hy_tw w) (ft := nI 1) (CI_tw C') ⟨lc, R, f48, rl, rv, po, pz, pa, pv, eo, ez, ea, ev, by unfold hy_Dc; simp (disch := omega) only [e_gi, e_gr, e_ob, e_ai, e_ar, e_ln, e_pf, e_pa, wr_eq, wr_ne, wr_wr, Option.map_some, Option.bind_some, hy_bi_s, hy_br_s, hy_bv_s, hy_xi_s, hy_xi_t, hy_xv_s, hy_xv_t, hy_k_l, hy_k_r, ia_ai, ia_pa, ia_ln, oc_a_ar, oc_o_pa, oc_r_ln, n_le_t, n_le_f, n_lt_t, n_lt_f, n_eq_t, n_eq_f, nI_add, pk_mul, n_sub, n_prd, ne_1, hy_b_t, hy_b_f, ↓reduceIte, true_or, or_true, Bool.false_eq_true, or_false, false_or, and_true, true_and, and_false, false_and, li_c, li_0, li_1, li_2, li_3, li_4, li_5, li_6, li_10, li_11, li_16, li_17, li_20, li_40, li_41, li_300, li_400, oc_H_ob, oc_H_g0, oc_H_g1, oc_H_g2, oc_H_g3, oc_H_g4, oc_H_p5, oc_H_g5, oc_N_ob, oc_N_g0, oc_N_p1, oc_N_g1, oc_N_g2, oc_N_p3, oc_N_g3, oc_D_ob, oc_D_g0, oc_D_g1, oc_D_p2, oc_D_g2, oc_G_ob, oc_G_g0, oc_G_g1, oc_G_p2, oc_G_g2, oc_G_p3, oc_G_g3, oc_G_p4, oc_G_g4, oc_L_ob, oc_L_g0, oc_L_g1, oc_L_g2, oc_L_g3, oc_L_g4, oc_L_p5, oc_L_g5, oc_L_p6, oc_L_g6, oc_L_p7, oc_L_g7, oc_A_ob, oc_A_g0, oc_A_p1, oc_A_g1, oc_A_p2, oc_A_g2, oc_A_p0, oc_U_ob, oc_U_g0, oc_U_g1, oc_M_ob, oc_M_p0, oc_M_g0, oc_M_p1, oc_M_g1, oc_M_g2, oc_M_g3, oc_M_g4, oc_M_g5, oc_M_g6, oc_M_g7, oc_M_p8, oc_M_g8, oc_M_g9, oc_M_g10, oc_M_p11, oc_M_g11, oc_M_g12, oc_M_g13, oc_M_p14, oc_M_g14, oc_M_g15, oc_M_g16, oc_M_g17, oc_M_g18, oc_M_p19, oc_M_g19, oc_M_g20, oc_M_g21, oc_M_g22, oc_M_g23, oc_M_p24, oc_M_g24, oc_M_g25, tw_get, m40, m41, m42, m43, m44, m45, m46, m47, m48, m49, m50, m51, m52, m53, m54, m55, m56, m57, m58, m59], mR, tp, te⟩ Q' ⟨o, h60⟩ (fun j c hj h => by rw [wr_ne (by omega)]; exact h) rfl (by show 8 * K ≤ w.2.1 - 1; omega) (by show 2000 * K ≤ w.2.2 - 6; omega)⟩
  · have hr20 := (qr l ql).1
    by_cases hr : r l = 20
    · have e1 := p_H_letters_s (w := w) hv c2 c3 ql d1 hr (by omega) (by omega)
      have e3 := p_M_letters_s (w := hy_tw w) m40 hv m41 ql (by rw [mR l ql, hr])
      exact ⟨_, lw_letters hi hN (x_letters_2 c2 e1) m40 e3 (wr_at m40), I_end (w1 := hy_tw w) (ft := nI 2) (CI_tw C') ⟨lc, R, f48, rl, rv, po, pz, pa, pv, eo, ez, ea, ev, by unfold hy_Dc; simp (disch := omega) only [e_gi, e_gr, e_ob, e_ai, e_ar, e_ln, e_pf, e_pa, wr_eq, wr_ne, wr_wr, Option.map_some, Option.bind_some, hy_bi_s, hy_br_s, hy_bv_s, hy_xi_s, hy_xi_t, hy_xv_s, hy_xv_t, hy_k_l, hy_k_r, ia_ai, ia_pa, ia_ln, oc_a_ar, oc_o_pa, oc_r_ln, n_le_t, n_le_f, n_lt_t, n_lt_f, n_eq_t, n_eq_f, nI_add, pk_mul, n_sub, n_prd, ne_1, hy_b_t, hy_b_f, ↓reduceIte, true_or, or_true, Bool.false_eq_true, or_false, false_or, and_true, true_and, and_false, false_and, li_c, li_0, li_1, li_2, li_3, li_4, li_5, li_6, li_10, li_11, li_16, li_17, li_20, li_40, li_41, li_300, li_400, oc_H_ob, oc_H_g0, oc_H_g1, oc_H_g2, oc_H_g3, oc_H_g4, oc_H_p5, oc_H_g5, oc_N_ob, oc_N_g0, oc_N_p1, oc_N_g1, oc_N_g2, oc_N_p3, oc_N_g3, oc_D_ob, oc_D_g0, oc_D_g1, oc_D_p2, oc_D_g2, oc_G_ob, oc_G_g0, oc_G_g1, oc_G_p2, oc_G_g2, oc_G_p3, oc_G_g3, oc_G_p4, oc_G_g4, oc_L_ob, oc_L_g0, oc_L_g1, oc_L_g2, oc_L_g3, oc_L_g4, oc_L_p5, oc_L_g5, oc_L_p6, oc_L_g6, oc_L_p7, oc_L_g7, oc_A_ob, oc_A_g0, oc_A_p1, oc_A_g1, oc_A_p2, oc_A_g2, oc_A_p0, oc_U_ob, oc_U_g0, oc_U_g1, oc_M_ob, oc_M_p0, oc_M_g0, oc_M_p1, oc_M_g1, oc_M_g2, oc_M_g3, oc_M_g4, oc_M_g5, oc_M_g6, oc_M_g7, oc_M_p8, oc_M_g8, oc_M_g9, oc_M_g10, oc_M_p11, oc_M_g11, oc_M_g12, oc_M_g13, oc_M_p14, oc_M_g14, oc_M_g15, oc_M_g16, oc_M_g17, oc_M_g18, oc_M_p19, oc_M_g19, oc_M_g20, oc_M_g21, oc_M_g22, oc_M_g23, oc_M_p24, oc_M_g24, oc_M_g25, tw_get, m40, m41, m42, m43, m44, m45, m46, m47, m48, m49, m50, m51, m52, m53, m54, m55, m56, m57, m58, m59], mR, tp, te⟩ Q' ⟨o, h60⟩ (fun j c hj h => by rw [wr_ne (by omega)]; exact h) rfl (by show 8 * K ≤ w.2.1 - 1; omega) (by show 2000 * K ≤ w.2.2 - 6; omega)⟩
    · have hr' : r l < 20 := by omega
      have e1 := p_H_letters (w := w) hv c2 c3 ql d1 d2 d3 d4 hr'
      have CN := p_L_A2 C' ql (v1 := xs (i + 1)) (v2 := xs (i + 2)) (v3 := xs (i + 3)) hr'
      generalize hw1 : hy_wr (hy_wr (hy_wr (hy_wr w (17 + 6 * l) (hy_ia 20 (hy_up (hy_sh l F) (r l) (xs (i + 1))))) (18 + 6 * l) (hy_ia 20 (hy_up (hy_sh l L) (r l) (xs (i + 2))))) (19 + 6 * l) (hy_ia 20 (hy_up (hy_sh l T) (r l) (xs (i + 3))))) (16 + 6 * l) (oc_L l (r l + 1) (lf l) (rg l)) = w1 at e1 CN
      have hk : ∀ j, 40 ≤ j → w1.1[j]? = w.1[j]? := by
        intro j hj
        rw [← hw1, wr_ne (by omega), wr_ne (by omega), wr_ne (by omega), wr_ne (by omega)]
      have h2 : w1.2 = w.2 := by rw [← hw1]; rfl
      have m40 := (hk 40 (by omega)).trans m40
      have m41 := (hk 41 (by omega)).trans m41
      have m42 := (hk 42 (by omega)).trans m42
      have m43 := (hk 43 (by omega)).trans m43
      have m44 := (hk 44 (by omega)).trans m44
      have m45 := (hk 45 (by omega)).trans m45
      have m46 := (hk 46 (by omega)).trans m46
      have m47 := (hk 47 (by omega)).trans m47
      have m48 := (hk 48 (by omega)).trans m48
      have m49 := (hk 49 (by omega)).trans m49
      have m50 := (hk 50 (by omega)).trans m50
      have m51 := (hk 51 (by omega)).trans m51
      have m52 := (hk 52 (by omega)).trans m52
      have m53 := (hk 53 (by omega)).trans m53
      have m54 := (hk 54 (by omega)).trans m54
      have m55 := (hk 55 (by omega)).trans m55
      have m56 := (hk 56 (by omega)).trans m56
      have m57 := (hk 57 (by omega)).trans m57
      have m58 := (hk 58 (by omega)).trans m58
      have m59 := (hk 59 (by omega)).trans m59
      have e3 := p_M_letters (w := w1) m40 hv m41 m42 m43 m44 ql (mR l ql) hr'
      refine ⟨_, lw_letters hi hN (x_letters_s c2 e1) m40 e3 (by rw [wr_ne (by omega), wr_ne (by omega), wr_ne (by omega), wr_ne (by omega)]; exact wr_at m40), I_end (w1 := w1) (ft := nI 0) CN ⟨lc, hy_up R l (nI (r l + 1)), f48, rl, rv, po, pz, pa, pv, eo, ez, ea, ev, by unfold hy_Dc; simp (disch := omega) only [e_gi, e_gr, e_ob, e_ai, e_ar, e_ln, e_pf, e_pa, wr_eq, wr_ne, wr_wr, Option.map_some, Option.bind_some, hy_bi_s, hy_br_s, hy_bv_s, hy_xi_s, hy_xi_t, hy_xv_s, hy_xv_t, hy_k_l, hy_k_r, ia_ai, ia_pa, ia_ln, oc_a_ar, oc_o_pa, oc_r_ln, n_le_t, n_le_f, n_lt_t, n_lt_f, n_eq_t, n_eq_f, nI_add, pk_mul, n_sub, n_prd, ne_1, hy_b_t, hy_b_f, ↓reduceIte, true_or, or_true, Bool.false_eq_true, or_false, false_or, and_true, true_and, and_false, false_and, li_c, li_0, li_1, li_2, li_3, li_4, li_5, li_6, li_10, li_11, li_16, li_17, li_20, li_40, li_41, li_300, li_400, oc_H_ob, oc_H_g0, oc_H_g1, oc_H_g2, oc_H_g3, oc_H_g4, oc_H_p5, oc_H_g5, oc_N_ob, oc_N_g0, oc_N_p1, oc_N_g1, oc_N_g2, oc_N_p3, oc_N_g3, oc_D_ob, oc_D_g0, oc_D_g1, oc_D_p2, oc_D_g2, oc_G_ob, oc_G_g0, oc_G_g1, oc_G_p2, oc_G_g2, oc_G_p3, oc_G_g3, oc_G_p4, oc_G_g4, oc_L_ob, oc_L_g0, oc_L_g1, oc_L_g2, oc_L_g3, oc_L_g4, oc_L_p5, oc_L_g5, oc_L_p6, oc_L_g6, oc_L_p7, oc_L_g7, oc_A_ob, oc_A_g0, oc_A_p1, oc_A_g1, oc_A_p2, oc_A_g2, oc_A_p0, oc_U_ob, oc_U_g0, oc_U_g1, oc_M_ob, oc_M_p0, oc_M_g0, oc_M_p1, oc_M_g1, oc_M_g2, oc_M_g3, oc_M_g4, oc_M_g5, oc_M_g6, oc_M_g7, oc_M_p8, oc_M_g8, oc_M_g9, oc_M_g10, oc_M_p11, oc_M_g11, oc_M_g12, oc_M_g13, oc_M_p14, oc_M_g14, oc_M_g15, oc_M_g16, oc_M_g17, oc_M_g18, oc_M_p19, oc_M_g19, oc_M_g20, oc_M_g21, oc_M_g22, oc_M_g23, oc_M_p24, oc_M_g24, oc_M_g25, m40, m41, m42, m43, m44, m45, m46, m47, m48, m49, m50, m51, m52, m53, m54, m55, m56, m57, m58, m59], ?_, tp, te⟩ ?_ ⟨o, (hk 60 (by omega)).trans h60⟩ (fun j c hj h => by rw [wr_ne (by omega), wr_ne (by omega), wr_ne (by omega), wr_ne (by omega), wr_ne (by omega)]; exact h) rfl (by rw [h2]; omega) (by rw [h2]; omega)⟩
      · intro k hk4
        dsimp only
        by_cases q : k = l
        · subst q; rw [up_eq, if_pos rfl]
        · rw [up_ne q, if_neg q]; exact mR k hk4
      · refine ⟨ql, qt, qn, fun k hk4 => ?_, qv, qp, qe, qop, qoe, qup, que⟩
        obtain ⟨z1, z2⟩ := qr k hk4
        dsimp only
        by_cases q : k = l
        · subst q
          rw [if_pos rfl]
          refine ⟨by omega, fun j hj => ?_⟩
          by_cases q2 : j = r k
          · subst q2; rw [up_eq, up_eq, up_eq]; exact hv
          · rw [up_ne (by omega), up_ne (by omega), up_ne (by omega)]; exact z2 j (by omega)
        · rw [if_neg q]
          refine ⟨z1, fun j hj => ?_⟩
          rw [up_ne (by omega), up_ne (by omega), up_ne (by omega)]; exact z2 j hj
theorem s_least (I : hy_I (K + 1) w) (hi : i + 6 ≤ N) (hN : N ≤ 3072) : ∃ w2, hy_fx (nx_X_law N xs) (228, [.ref 2, .ref 40, .ref 60, .int (nI i)], w) = hy_fx (nx_X_law N xs) (23, [.ref 2, .ref 40, .ref 60, .int (nI (i + 6))], w2) ∧ hy_I K w2 := by
  obtain ⟨ft, l, td, n, tl, x, F, L, T, lf, rg, r, PM, EM, o, C, h, Q, h60, b1, b2⟩ := I
  have C' := C
  have Q' := Q
  obtain ⟨⟨f5, f8, nd, sd, vd, s, m, c, sr, gr, c2, c3, c4, c5, c6, c7, c8, c9, c10, c11, c12, c13, c14, c15⟩, C2, A, A1, A2⟩ := C
  obtain ⟨lc, R, f48, rl, rv, po, pz, pa, pv, eo, ez, ea, ev, ⟨m40, m41, m42, m43, m44, m45, m46, m47, m48, m49, m50, m51, m52, m53, m54, m55, m56, m57, m58, m59⟩, mR, tp, te⟩ := h
  obtain ⟨ql, qt, qn, qr, qv, qp, qe, qop, qoe, qup, que⟩ := Q
  obtain ⟨d1, d2, d3, d4⟩ := C2 l ql
  cases hv : hy_sok (xs (i + 1)) (xs (i + 2))
  · have e1 := p_H_least_f (w := w) hv (by omega) (by omega)
    have e3 := p_M_least_f (w := hy_tw w) m40 hv
    exact ⟨_, lw_least hi hN (x_least_1 c2 e1) m40 e3 (wr_at m40), I_end (w1 := hy_tw w) (ft := nI 1) (CI_tw C') ⟨lc, R, f48, rl, rv, po, pz, pa, pv, eo, ez, ea, ev, by unfold hy_Dc; simp (disch := omega) only [e_gi, e_gr, e_ob, e_ai, e_ar, e_ln, e_pf, e_pa, wr_eq, wr_ne, wr_wr, Option.map_some, Option.bind_some, hy_bi_s, hy_br_s, hy_bv_s, hy_xi_s, hy_xi_t, hy_xv_s, hy_xv_t, hy_k_l, hy_k_r, ia_ai, ia_pa, ia_ln, oc_a_ar, oc_o_pa, oc_r_ln, n_le_t, n_le_f, n_lt_t, n_lt_f, n_eq_t, n_eq_f, nI_add, pk_mul, n_sub, n_prd, ne_1, hy_b_t, hy_b_f, ↓reduceIte, true_or, or_true, Bool.false_eq_true, or_false, false_or, and_true, true_and, and_false, false_and, li_c, li_0, li_1, li_2, li_3, li_4, li_5, li_6, li_10, li_11, li_16, li_17, li_20, li_40, li_41, li_300, li_400, oc_H_ob, oc_H_g0, oc_H_g1, oc_H_g2, oc_H_g3, oc_H_g4, oc_H_p5, oc_H_g5, oc_N_ob, oc_N_g0, oc_N_p1, oc_N_g1, oc_N_g2, oc_N_p3, oc_N_g3, oc_D_ob, oc_D_g0, oc_D_g1, oc_D_p2, oc_D_g2, oc_G_ob, oc_G_g0, oc_G_g1, oc_G_p2, oc_G_g2, oc_G_p3, oc_G_g3, oc_G_p4, oc_G_g4, oc_L_ob, oc_L_g0, oc_L_g1, oc_L_g2, oc_L_g3, oc_L_g4, oc_L_p5, oc_L_g5, oc_L_p6, oc_L_g6, oc_L_p7, oc_L_g7, oc_A_ob, oc_A_g0, oc_A_p1, oc_A_g1, oc_A_p2, oc_A_g2, oc_A_p0, oc_U_ob, oc_U_g0, oc_U_g1, oc_M_ob, oc_M_p0, oc_M_g0, oc_M_p1, oc_M_g1, oc_M_g2, oc_M_g3, oc_M_g4, oc_M_g5, oc_M_g6, oc_M_g7, oc_M_p8, oc_M_g8, oc_M_g9, oc_M_g10, oc_M_p11, oc_M_g11, oc_M_g12, oc_M_g13, oc_M_p14, oc_M_g14, oc_M_g15, oc_M_g16, oc_M_g17, oc_M_g18, oc_M_p19, oc_M_g19, oc_M_g20, oc_M_g21, oc_M_g22, oc_M_g23, oc_M_p24, oc_M_g24, oc_M_g25, tw_get, m40, m41, m42, m43, m44, m45, m46, m47, m48, m49, m50, m51, m52, m53, m54, m55, m56, m57, m58, m59], mR, tp, te⟩ Q' ⟨o, h60⟩ (fun j c hj h => by rw [wr_ne (by omega)]; exact h) rfl (by show 8 * K ≤ w.2.1 - 1; omega) (by show 2000 * K ≤ w.2.2 - 6; omega)⟩
  · have e1 := p_H_least (w := w) hv c2 c3 ql d1
    have k40 : (hy_wr w (16 + 6 * l) (oc_L l (r l) (xs (i + 1)) (xs (i + 2)))).1[40]? = some (oc_M ft l td lc PM.length EM.length n) := by rw [wr_ne (by omega)]; exact m40
    have k45 : (hy_wr w (16 + 6 * l) (oc_L l (r l) (xs (i + 1)) (xs (i + 2)))).1[45]? = some (hy_ia 4 lf) := by rw [wr_ne (by omega)]; exact m45
    have k46 : (hy_wr w (16 + 6 * l) (oc_L l (r l) (xs (i + 1)) (xs (i + 2)))).1[46]? = some (hy_ia 4 rg) := by rw [wr_ne (by omega)]; exact m46
    have e3 := p_M_least k40 hv k45 k46 ql
    exact ⟨_, lw_least hi hN (x_least_s c2 e1) k40 e3 (by rw [wr_ne (by omega), wr_ne (by omega)]; exact wr_at k40), I_end (w1 := hy_wr w (16 + 6 * l) (oc_L l (r l) (xs (i + 1)) (xs (i + 2)))) (ft := nI 0) (p_L_A2' C' ql) ⟨lc, R, f48, rl, rv, po, pz, pa, pv, eo, ez, ea, ev, by unfold hy_Dc; simp (disch := omega) only [e_gi, e_gr, e_ob, e_ai, e_ar, e_ln, e_pf, e_pa, wr_eq, wr_ne, wr_wr, Option.map_some, Option.bind_some, hy_bi_s, hy_br_s, hy_bv_s, hy_xi_s, hy_xi_t, hy_xv_s, hy_xv_t, hy_k_l, hy_k_r, ia_ai, ia_pa, ia_ln, oc_a_ar, oc_o_pa, oc_r_ln, n_le_t, n_le_f, n_lt_t, n_lt_f, n_eq_t, n_eq_f, nI_add, pk_mul, n_sub, n_prd, ne_1, hy_b_t, hy_b_f, ↓reduceIte, true_or, or_true, Bool.false_eq_true, or_false, false_or, and_true, true_and, and_false, false_and, li_c, li_0, li_1, li_2, li_3, li_4, li_5, li_6, li_10, li_11, li_16, li_17, li_20, li_40, li_41, li_300, li_400, oc_H_ob, oc_H_g0, oc_H_g1, oc_H_g2, oc_H_g3, oc_H_g4, oc_H_p5, oc_H_g5, oc_N_ob, oc_N_g0, oc_N_p1, oc_N_g1, oc_N_g2, oc_N_p3, oc_N_g3, oc_D_ob, oc_D_g0, oc_D_g1, oc_D_p2, oc_D_g2, oc_G_ob, oc_G_g0, oc_G_g1, oc_G_p2, oc_G_g2, oc_G_p3, oc_G_g3, oc_G_p4, oc_G_g4, oc_L_ob, oc_L_g0, oc_L_g1, oc_L_g2, oc_L_g3, oc_L_g4, oc_L_p5, oc_L_g5, oc_L_p6, oc_L_g6, oc_L_p7, oc_L_g7, oc_A_ob, oc_A_g0, oc_A_p1, oc_A_g1, oc_A_p2, oc_A_g2, oc_A_p0, oc_U_ob, oc_U_g0, oc_U_g1, oc_M_ob, oc_M_p0, oc_M_g0, oc_M_p1, oc_M_g1, oc_M_g2, oc_M_g3, oc_M_g4, oc_M_g5, oc_M_g6, oc_M_g7, oc_M_p8, oc_M_g8, oc_M_g9, oc_M_g10, oc_M_p11, oc_M_g11, oc_M_g12, oc_M_g13, oc_M_p14, oc_M_g14, oc_M_g15, oc_M_g16, oc_M_g17, oc_M_g18, oc_M_p19, oc_M_g19, oc_M_g20, oc_M_g21, oc_M_g22, oc_M_g23, oc_M_p24, oc_M_g24, oc_M_g25, m40, m41, m42, m43, m44, m45, m46, m47, m48, m49, m50, m51, m52, m53, m54, m55, m56, m57, m58, m59], mR, tp, te⟩ Q' ⟨o, by rw [wr_ne (by omega)]; exact h60⟩ (fun j c hj h => by rw [wr_ne (by omega), wr_ne (by omega), wr_ne (by omega)]; exact h) rfl (by show 8 * K ≤ w.2.1; omega) (by show 2000 * K ≤ w.2.2; omega)⟩
theorem s_drop (I : hy_I (K + 1) w) (hi : i + 6 ≤ N) (hN : N ≤ 3072) : ∃ w2, hy_fx (nx_X_law N xs) (380, [.ref 2, .ref 40, .ref 60, .int (nI i)], w) = hy_fx (nx_X_law N xs) (23, [.ref 2, .ref 40, .ref 60, .int (nI (i + 6))], w2) ∧ hy_I K w2 := by
  obtain ⟨ft, l, td, n, tl, x, F, L, T, lf, rg, r, PM, EM, o, C, h, Q, h60, b1, b2⟩ := I
  have C' := C
  have Q' := Q
  obtain ⟨⟨f5, f8, nd, sd, vd, s, m, c, sr, gr, c2, c3, c4, c5, c6, c7, c8, c9, c10, c11, c12, c13, c14, c15⟩, C2, A, A1, A2⟩ := C
  obtain ⟨lc, R, f48, rl, rv, po, pz, pa, pv, eo, ez, ea, ev, ⟨m40, m41, m42, m43, m44, m45, m46, m47, m48, m49, m50, m51, m52, m53, m54, m55, m56, m57, m58, m59⟩, mR, tp, te⟩ := h
  obtain ⟨ql, qt, qn, qr, qv, qp, qe, qop, qoe, qup, que⟩ := Q
  have e1 := p_H_drop (w := w) c2 c4
  have k40 : (hy_wr w 4 (oc_N 6 5 (-nI 10) 0)).1[40]? = some (oc_M ft l td lc PM.length EM.length n) := by rw [wr_ne (by omega)]; exact m40
  have e3 := p_M_drop k40
  exact ⟨_, lw_drop hi hN c2 e1 k40 e3, I_end (w1 := hy_wr w 4 (oc_N 6 5 (-nI 10) 0)) (ft := nI 0) (CI_4 C') ⟨lc, R, f48, rl, rv, po, pz, pa, pv, eo, ez, ea, ev, by unfold hy_Dc; simp (disch := omega) only [e_gi, e_gr, e_ob, e_ai, e_ar, e_ln, e_pf, e_pa, wr_eq, wr_ne, wr_wr, Option.map_some, Option.bind_some, hy_bi_s, hy_br_s, hy_bv_s, hy_xi_s, hy_xi_t, hy_xv_s, hy_xv_t, hy_k_l, hy_k_r, ia_ai, ia_pa, ia_ln, oc_a_ar, oc_o_pa, oc_r_ln, n_le_t, n_le_f, n_lt_t, n_lt_f, n_eq_t, n_eq_f, nI_add, pk_mul, n_sub, n_prd, ne_1, hy_b_t, hy_b_f, ↓reduceIte, true_or, or_true, Bool.false_eq_true, or_false, false_or, and_true, true_and, and_false, false_and, li_c, li_0, li_1, li_2, li_3, li_4, li_5, li_6, li_10, li_11, li_16, li_17, li_20, li_40, li_41, li_300, li_400, oc_H_ob, oc_H_g0, oc_H_g1, oc_H_g2, oc_H_g3, oc_H_g4, oc_H_p5, oc_H_g5, oc_N_ob, oc_N_g0, oc_N_p1, oc_N_g1, oc_N_g2, oc_N_p3, oc_N_g3, oc_D_ob, oc_D_g0, oc_D_g1, oc_D_p2, oc_D_g2, oc_G_ob, oc_G_g0, oc_G_g1, oc_G_p2, oc_G_g2, oc_G_p3, oc_G_g3, oc_G_p4, oc_G_g4, oc_L_ob, oc_L_g0, oc_L_g1, oc_L_g2, oc_L_g3, oc_L_g4, oc_L_p5, oc_L_g5, oc_L_p6, oc_L_g6, oc_L_p7, oc_L_g7, oc_A_ob, oc_A_g0, oc_A_p1, oc_A_g1, oc_A_p2, oc_A_g2, oc_A_p0, oc_U_ob, oc_U_g0, oc_U_g1, oc_M_ob, oc_M_p0, oc_M_g0, oc_M_p1, oc_M_g1, oc_M_g2, oc_M_g3, oc_M_g4, oc_M_g5, oc_M_g6, oc_M_g7, oc_M_p8, oc_M_g8, oc_M_g9, oc_M_g10, oc_M_p11, oc_M_g11, oc_M_g12, oc_M_g13, oc_M_p14, oc_M_g14, oc_M_g15, oc_M_g16, oc_M_g17, oc_M_g18, oc_M_p19, oc_M_g19, oc_M_g20, oc_M_g21, oc_M_g22, oc_M_g23, oc_M_p24, oc_M_g24, oc_M_g25, m40, m41, m42, m43, m44, m45, m46, m47, m48, m49, m50, m51, m52, m53, m54, m55, m56, m57, m58, m59], mR, tp, te⟩ ⟨ql, by omega, qn, qr, fun j hj => by omega, qp, qe, qop, qoe, qup, que⟩ ⟨o, by rw [wr_ne (by omega)]; exact h60⟩ (fun j c hj h => by rw [wr_ne (by omega)]; exact h) rfl (by show 8 * K ≤ w.2.1; omega) (by show 2000 * K ≤ w.2.2; omega)⟩
theorem s_clear (I : hy_I (K + 1) w) (hi : i + 6 ≤ N) (hN : N ≤ 3072) : ∃ w2, hy_fx (nx_X_law N xs) (598, [.ref 2, .ref 40, .ref 60, .int (nI i)], w) = hy_fx (nx_X_law N xs) (23, [.ref 2, .ref 40, .ref 60, .int (nI (i + 6))], w2) ∧ hy_I K w2 := by
  obtain ⟨ft, l, td, n, tl, x, F, L, T, lf, rg, r, PM, EM, o, C, h, Q, h60, b1, b2⟩ := I
  have C' := C
  have Q' := Q
  obtain ⟨⟨f5, f8, nd, sd, vd, s, m, c, sr, gr, c2, c3, c4, c5, c6, c7, c8, c9, c10, c11, c12, c13, c14, c15⟩, C2, A, A1, A2⟩ := C
  obtain ⟨lc, R, f48, rl, rv, po, pz, pa, pv, eo, ez, ea, ev, ⟨m40, m41, m42, m43, m44, m45, m46, m47, m48, m49, m50, m51, m52, m53, m54, m55, m56, m57, m58, m59⟩, mR, tp, te⟩ := h
  obtain ⟨ql, qt, qn, qr, qv, qp, qe, qop, qoe, qup, que⟩ := Q
  have e1 := p_H_clear (w := w) c2 c7
  have k40 : (hy_wr w 7 (oc_N 9 8 (nI 1) 0)).1[40]? = some (oc_M ft l td lc PM.length EM.length n) := by rw [wr_ne (by omega)]; exact m40
  have e3 := p_M_clear k40
  exact ⟨_, lw_clear hi hN c2 e1 k40 e3, I_end (w1 := hy_wr w 7 (oc_N 9 8 (nI 1) 0)) (ft := nI 0) (CI_7 C') ⟨lc, R, f48, rl, rv, po, pz, pa, pv, eo, ez, ea, ev, by unfold hy_Dc; simp (disch := omega) only [e_gi, e_gr, e_ob, e_ai, e_ar, e_ln, e_pf, e_pa, wr_eq, wr_ne, wr_wr, Option.map_some, Option.bind_some, hy_bi_s, hy_br_s, hy_bv_s, hy_xi_s, hy_xi_t, hy_xv_s, hy_xv_t, hy_k_l, hy_k_r, ia_ai, ia_pa, ia_ln, oc_a_ar, oc_o_pa, oc_r_ln, n_le_t, n_le_f, n_lt_t, n_lt_f, n_eq_t, n_eq_f, nI_add, pk_mul, n_sub, n_prd, ne_1, hy_b_t, hy_b_f, ↓reduceIte, true_or, or_true, Bool.false_eq_true, or_false, false_or, and_true, true_and, and_false, false_and, li_c, li_0, li_1, li_2, li_3, li_4, li_5, li_6, li_10, li_11, li_16, li_17, li_20, li_40, li_41, li_300, li_400, oc_H_ob, oc_H_g0, oc_H_g1, oc_H_g2, oc_H_g3, oc_H_g4, oc_H_p5, oc_H_g5, oc_N_ob, oc_N_g0, oc_N_p1, oc_N_g1, oc_N_g2, oc_N_p3, oc_N_g3, oc_D_ob, oc_D_g0, oc_D_g1, oc_D_p2, oc_D_g2, oc_G_ob, oc_G_g0, oc_G_g1, oc_G_p2, oc_G_g2, oc_G_p3, oc_G_g3, oc_G_p4, oc_G_g4, oc_L_ob, oc_L_g0, oc_L_g1, oc_L_g2, oc_L_g3, oc_L_g4, oc_L_p5, oc_L_g5, oc_L_p6, oc_L_g6, oc_L_p7, oc_L_g7, oc_A_ob, oc_A_g0, oc_A_p1, oc_A_g1, oc_A_p2, oc_A_g2, oc_A_p0, oc_U_ob, oc_U_g0, oc_U_g1, oc_M_ob, oc_M_p0, oc_M_g0, oc_M_p1, oc_M_g1, oc_M_g2, oc_M_g3, oc_M_g4, oc_M_g5, oc_M_g6, oc_M_g7, oc_M_p8, oc_M_g8, oc_M_g9, oc_M_g10, oc_M_p11, oc_M_g11, oc_M_g12, oc_M_g13, oc_M_p14, oc_M_g14, oc_M_g15, oc_M_g16, oc_M_g17, oc_M_g18, oc_M_p19, oc_M_g19, oc_M_g20, oc_M_g21, oc_M_g22, oc_M_g23, oc_M_p24, oc_M_g24, oc_M_g25, m40, m41, m42, m43, m44, m45, m46, m47, m48, m49, m50, m51, m52, m53, m54, m55, m56, m57, m58, m59], mR, tp, te⟩ ⟨ql, qt, by omega, qr, qv, qp, qe, qop, qoe, qup, que⟩ ⟨o, by rw [wr_ne (by omega)]; exact h60⟩ (fun j c hj h => by rw [wr_ne (by omega)]; exact h) rfl (by show 8 * K ≤ w.2.1; omega) (by show 2000 * K ≤ w.2.2; omega)⟩
theorem s_tell (I : hy_I (K + 1) w) (hi : i + 6 ≤ N) (hN : N ≤ 3072) : ∃ w2, hy_fx (nx_X_law N xs) (276, [.ref 2, .ref 40, .ref 60, .int (nI i)], w) = hy_fx (nx_X_law N xs) (23, [.ref 2, .ref 40, .ref 60, .int (nI (i + 6))], w2) ∧ hy_I K w2 := by
  obtain ⟨ft, l, td, n, tl, x, F, L, T, lf, rg, r, PM, EM, o, C, h, Q, h60, b1, b2⟩ := I
  have C' := C
  have Q' := Q
  obtain ⟨⟨f5, f8, nd, sd, vd, s, m, c, sr, gr, c2, c3, c4, c5, c6, c7, c8, c9, c10, c11, c12, c13, c14, c15⟩, C2, A, A1, A2⟩ := C
  obtain ⟨lc, R, f48, rl, rv, po, pz, pa, pv, eo, ez, ea, ev, ⟨m40, m41, m42, m43, m44, m45, m46, m47, m48, m49, m50, m51, m52, m53, m54, m55, m56, m57, m58, m59⟩, mR, tp, te⟩ := h
  obtain ⟨ql, qt, qn, qr, qv, qp, qe, qop, qoe, qup, que⟩ := Q
  generalize hf : hy_5 (xs (i + 1)) (xs (i + 2)) (xs (i + 3)) (xs (i + 4)) (xs (i + 5)) = f
  have hgv : hy_gv f 5 0 ≤ 5 := by have := gv_le (f := f) (d := 5) (i := 0); omega
  cases hv : pu_al (hy_in f (-nI 10)) (hy_gv f 5 0) 0
  · rw [← hf] at hv
    have e1 := p_N_append_f (w := w) c4 (by omega) c5 (by omega) (by omega) (by omega) (by omega) hv
    have k40 : (hy_tw (hy_wr w 5 (hy_ia 5 (hy_5 (xs (i + 1)) (xs (i + 2)) (xs (i + 3)) (xs (i + 4)) (xs (i + 5)))))).1[40]? = some (oc_M ft l td lc PM.length EM.length n) := by rw [tw_get, wr_ne (by omega)]; exact m40
    have k48 : (hy_tw (hy_wr w 5 (hy_ia 5 (hy_5 (xs (i + 1)) (xs (i + 2)) (xs (i + 3)) (xs (i + 4)) (xs (i + 5)))))).1[48]? = some (hy_ia 5 f48) := by rw [tw_get, wr_ne (by omega)]; exact m48
    have e3 := p_M_tell_f k40 k48 hv
    exact ⟨_, lw_tell hi hN (x_tell_1 c2 (h_tell_t c2 c4 e1)) k40 e3 (wr_at (by rw [wr_ne (by omega)]; exact k40)) (fun h => absurd h ne_10), I_end (w1 := hy_tw (hy_wr w 5 (hy_ia 5 (hy_5 (xs (i + 1)) (xs (i + 2)) (xs (i + 3)) (xs (i + 4)) (xs (i + 5)))))) (ft := nI 1) (CI_tw (CI_5 C')) ⟨lc, R, _, rl, rv, po, pz, pa, pv, eo, ez, ea, ev, by unfold hy_Dc; simp (disch := omega) only [e_gi, e_gr, e_ob, e_ai, e_ar, e_ln, e_pf, e_pa, wr_eq, wr_ne, wr_wr, Option.map_some, Option.bind_some, hy_bi_s, hy_br_s, hy_bv_s, hy_xi_s, hy_xi_t, hy_xv_s, hy_xv_t, hy_k_l, hy_k_r, ia_ai, ia_pa, ia_ln, oc_a_ar, oc_o_pa, oc_r_ln, n_le_t, n_le_f, n_lt_t, n_lt_f, n_eq_t, n_eq_f, nI_add, pk_mul, n_sub, n_prd, ne_1, hy_b_t, hy_b_f, ↓reduceIte, true_or, or_true, Bool.false_eq_true, or_false, false_or, and_true, true_and, and_false, false_and, li_c, li_0, li_1, li_2, li_3, li_4, li_5, li_6, li_10, li_11, li_16, li_17, li_20, li_40, li_41, li_300, li_400, oc_H_ob, oc_H_g0, oc_H_g1, oc_H_g2, oc_H_g3, oc_H_g4, oc_H_p5, oc_H_g5, oc_N_ob, oc_N_g0, oc_N_p1, oc_N_g1, oc_N_g2, oc_N_p3, oc_N_g3, oc_D_ob, oc_D_g0, oc_D_g1, oc_D_p2, oc_D_g2, oc_G_ob, oc_G_g0, oc_G_g1, oc_G_p2, oc_G_g2, oc_G_p3, oc_G_g3, oc_G_p4, oc_G_g4, oc_L_ob, oc_L_g0, oc_L_g1, oc_L_g2, oc_L_g3, oc_L_g4, oc_L_p5, oc_L_g5, oc_L_p6, oc_L_g6, oc_L_p7, oc_L_g7, oc_A_ob, oc_A_g0, oc_A_p1, oc_A_g1, oc_A_p2, oc_A_g2, oc_A_p0, oc_U_ob, oc_U_g0, oc_U_g1, oc_M_ob, oc_M_p0, oc_M_g0, oc_M_p1, oc_M_g1, oc_M_g2, oc_M_g3, oc_M_g4, oc_M_g5, oc_M_g6, oc_M_g7, oc_M_p8, oc_M_g8, oc_M_g9, oc_M_g10, oc_M_p11, oc_M_g11, oc_M_g12, oc_M_g13, oc_M_p14, oc_M_g14, oc_M_g15, oc_M_g16, oc_M_g17, oc_M_g18, oc_M_p19, oc_M_g19, oc_M_g20, oc_M_g21, oc_M_g22, oc_M_g23, oc_M_p24, oc_M_g24, oc_M_g25, tw_get, m40, m41, m42, m43, m44, m45, m46, m47, m48, m49, m50, m51, m52, m53, m54, m55, m56, m57, m58, m59]; rfl, mR, tp, te⟩ Q' ⟨o, by rw [tw_get, wr_ne (by omega)]; exact h60⟩ (fun j c hj h => by rw [wr_ne (by omega), wr_ne (by omega)]; exact h) rfl (by show 8 * K ≤ w.2.1 - 1; omega) (by show 2000 * K ≤ w.2.2 - 6; omega)⟩
  · by_cases hq : 40 < td + hy_gv f 5 0
    · rw [← hf] at hv hq
      have e1 := p_N_append_s (w := w) (cap := 40) c4 (by omega) c6 (by omega) (by omega) c5 (by omega) (by omega) (by omega) (by omega) (by omega) (by omega) hv hq
      have k40 : (hy_tw (hy_wr w 5 (hy_ia 5 (hy_5 (xs (i + 1)) (xs (i + 2)) (xs (i + 3)) (xs (i + 4)) (xs (i + 5)))))).1[40]? = some (oc_M ft l td lc PM.length EM.length n) := by rw [tw_get, wr_ne (by omega)]; exact m40
      have k48 : (hy_tw (hy_wr w 5 (hy_ia 5 (hy_5 (xs (i + 1)) (xs (i + 2)) (xs (i + 3)) (xs (i + 4)) (xs (i + 5)))))).1[48]? = some (hy_ia 5 f48) := by rw [tw_get, wr_ne (by omega)]; exact m48
      have e3 := p_M_tell_s k40 k48 hv qt hq
      exact ⟨_, lw_tell hi hN (x_tell_2 c2 (h_tell_t c2 c4 e1)) k40 e3 (wr_at (by rw [wr_ne (by omega)]; exact k40)) (fun h => absurd h ne_20), I_end (w1 := hy_tw (hy_wr w 5 (hy_ia 5 (hy_5 (xs (i + 1)) (xs (i + 2)) (xs (i + 3)) (xs (i + 4)) (xs (i + 5)))))) (ft := nI 2) (CI_tw (CI_5 C')) ⟨lc, R, _, rl, rv, po, pz, pa, pv, eo, ez, ea, ev, by unfold hy_Dc; simp (disch := omega) only [e_gi, e_gr, e_ob, e_ai, e_ar, e_ln, e_pf, e_pa, wr_eq, wr_ne, wr_wr, Option.map_some, Option.bind_some, hy_bi_s, hy_br_s, hy_bv_s, hy_xi_s, hy_xi_t, hy_xv_s, hy_xv_t, hy_k_l, hy_k_r, ia_ai, ia_pa, ia_ln, oc_a_ar, oc_o_pa, oc_r_ln, n_le_t, n_le_f, n_lt_t, n_lt_f, n_eq_t, n_eq_f, nI_add, pk_mul, n_sub, n_prd, ne_1, hy_b_t, hy_b_f, ↓reduceIte, true_or, or_true, Bool.false_eq_true, or_false, false_or, and_true, true_and, and_false, false_and, li_c, li_0, li_1, li_2, li_3, li_4, li_5, li_6, li_10, li_11, li_16, li_17, li_20, li_40, li_41, li_300, li_400, oc_H_ob, oc_H_g0, oc_H_g1, oc_H_g2, oc_H_g3, oc_H_g4, oc_H_p5, oc_H_g5, oc_N_ob, oc_N_g0, oc_N_p1, oc_N_g1, oc_N_g2, oc_N_p3, oc_N_g3, oc_D_ob, oc_D_g0, oc_D_g1, oc_D_p2, oc_D_g2, oc_G_ob, oc_G_g0, oc_G_g1, oc_G_p2, oc_G_g2, oc_G_p3, oc_G_g3, oc_G_p4, oc_G_g4, oc_L_ob, oc_L_g0, oc_L_g1, oc_L_g2, oc_L_g3, oc_L_g4, oc_L_p5, oc_L_g5, oc_L_p6, oc_L_g6, oc_L_p7, oc_L_g7, oc_A_ob, oc_A_g0, oc_A_p1, oc_A_g1, oc_A_p2, oc_A_g2, oc_A_p0, oc_U_ob, oc_U_g0, oc_U_g1, oc_M_ob, oc_M_p0, oc_M_g0, oc_M_p1, oc_M_g1, oc_M_g2, oc_M_g3, oc_M_g4, oc_M_g5, oc_M_g6, oc_M_g7, oc_M_p8, oc_M_g8, oc_M_g9, oc_M_g10, oc_M_p11, oc_M_g11, oc_M_g12, oc_M_g13, oc_M_p14, oc_M_g14, oc_M_g15, oc_M_g16, oc_M_g17, oc_M_g18, oc_M_p19, oc_M_g19, oc_M_g20, oc_M_g21, oc_M_g22, oc_M_g23, oc_M_p24, oc_M_g24, oc_M_g25, tw_get, m40, m41, m42, m43, m44, m45, m46, m47, m48, m49, m50, m51, m52, m53, m54, m55, m56, m57, m58, m59]; rfl, mR, tp, te⟩ Q' ⟨o, by rw [tw_get, wr_ne (by omega)]; exact h60⟩ (fun j c hj h => by rw [wr_ne (by omega), wr_ne (by omega)]; exact h) rfl (by show 8 * K ≤ w.2.1 - 1; omega) (by show 2000 * K ≤ w.2.2 - 6; omega)⟩
    · have hq' : td + hy_gv f 5 0 ≤ 40 := by omega
      have hvv := al_iff.mp hv
      have hv2 := hv
      have hq2 := hq'
      rw [← hf] at hv2 hq2
      have e1 := p_N_append (w := w) (cap := 40) c4 (by omega) c6 (by omega) (by omega) (by omega) c5 (by omega) (by omega) (by omega) hv2 hq2
      rw [hf] at e1
      have k60 : (hy_wr (hy_wr (hy_wr w 5 (hy_ia 5 f)) 6 (hy_ia 40 (hy_apd td (hy_gv f 5 0) f tl))) 4 (oc_N 6 5 (-nI 10) (td + hy_gv f 5 0))).1[60]? = some (oc_o o) := by rw [wr_ne (by omega), wr_ne (by omega), wr_ne (by omega)]; exact h60
      have CN : hy_CI (hy_wr (hy_wr (hy_wr (hy_wr w 5 (hy_ia 5 f)) 6 (hy_ia 40 (hy_apd td (hy_gv f 5 0) f tl))) 4 (oc_N 6 5 (-nI 10) (td + hy_gv f 5 0))) 60 (oc_o (nI (td + hy_gv f 5 0)).toInt64)) l (td + hy_gv f 5 0) n (hy_apd td (hy_gv f 5 0) f tl) x F L T lf rg r PM EM := CI_60 (CI_4 (CI_6 (CI_5 C')))
      have e2 := x_tell_s c2 (h_tell_s c2 c4 e1) k60
      have kk : ∀ j, 40 ≤ j → j < 60 → (hy_wr (hy_wr (hy_wr (hy_wr w 5 (hy_ia 5 f)) 6 (hy_ia 40 (hy_apd td (hy_gv f 5 0) f tl))) 4 (oc_N 6 5 (-nI 10) (td + hy_gv f 5 0))) 60 (oc_o (nI (td + hy_gv f 5 0)).toInt64)).1[j]? = w.1[j]? := fun j h1 h2 => by rw [wr_ne (by omega), wr_ne (by omega), wr_ne (by omega), wr_ne (by omega)]
      have z60 : (hy_wr (hy_wr (hy_wr (hy_wr w 5 (hy_ia 5 f)) 6 (hy_ia 40 (hy_apd td (hy_gv f 5 0) f tl))) 4 (oc_N 6 5 (-nI 10) (td + hy_gv f 5 0))) 60 (oc_o (nI (td + hy_gv f 5 0)).toInt64)).1[60]? = some (oc_o (nI (td + hy_gv f 5 0)).toInt64) := wr_at k60
      have hl2 : (hy_wr (hy_wr (hy_wr (hy_wr w 5 (hy_ia 5 f)) 6 (hy_ia 40 (hy_apd td (hy_gv f 5 0) f tl))) 4 (oc_N 6 5 (-nI 10) (td + hy_gv f 5 0))) 60 (oc_o (nI (td + hy_gv f 5 0)).toInt64)).2 = w.2 := rfl
      generalize hy_wr (hy_wr (hy_wr (hy_wr w 5 (hy_ia 5 f)) 6 (hy_ia 40 (hy_apd td (hy_gv f 5 0) f tl))) 4 (oc_N 6 5 (-nI 10) (td + hy_gv f 5 0))) 60 (oc_o (nI (td + hy_gv f 5 0)).toInt64) = w1 at e2 CN kk z60 hl2
      have m40 := (kk 40 (by omega) (by omega)).trans m40
      have m41 := (kk 41 (by omega) (by omega)).trans m41
      have m42 := (kk 42 (by omega) (by omega)).trans m42
      have m43 := (kk 43 (by omega) (by omega)).trans m43
      have m44 := (kk 44 (by omega) (by omega)).trans m44
      have m45 := (kk 45 (by omega) (by omega)).trans m45
      have m46 := (kk 46 (by omega) (by omega)).trans m46
      have m47 := (kk 47 (by omega) (by omega)).trans m47
      have m48 := (kk 48 (by omega) (by omega)).trans m48
      have m49 := (kk 49 (by omega) (by omega)).trans m49
      have m50 := (kk 50 (by omega) (by omega)).trans m50
      have m51 := (kk 51 (by omega) (by omega)).trans m51
      have m52 := (kk 52 (by omega) (by omega)).trans m52
      have m53 := (kk 53 (by omega) (by omega)).trans m53
      have m54 := (kk 54 (by omega) (by omega)).trans m54
      have m55 := (kk 55 (by omega) (by omega)).trans m55
      have m56 := (kk 56 (by omega) (by omega)).trans m56
      have m57 := (kk 57 (by omega) (by omega)).trans m57
      have m58 := (kk 58 (by omega) (by omega)).trans m58
      have m59 := (kk 59 (by omega) (by omega)).trans m59
      have hw1 : 60 ≤ w1.1.length := by have := (List.getElem?_eq_some_iff.mp z60).1; omega
      have e3 := p_M_tell m40 m48 m47 hw1 hv2 hq2
      rw [hf] at e3
      exact ⟨_, lw_tell hi hN e2 m40 e3 (wr_at (by rw [wr_ne (by omega), wr_ne (by omega)]; exact m40)) (fun _ => by rw [wr_ne (by omega), wr_ne (by omega), wr_ne (by omega)]; exact z60), I_end (w1 := w1) (ft := nI 0) CN ⟨lc, R, f, rl, rv, po, pz, pa, pv, eo, ez, ea, ev, by unfold hy_Dc; simp (disch := omega) only [e_gi, e_gr, e_ob, e_ai, e_ar, e_ln, e_pf, e_pa, wr_eq, wr_ne, wr_wr, Option.map_some, Option.bind_some, hy_bi_s, hy_br_s, hy_bv_s, hy_xi_s, hy_xi_t, hy_xv_s, hy_xv_t, hy_k_l, hy_k_r, ia_ai, ia_pa, ia_ln, oc_a_ar, oc_o_pa, oc_r_ln, n_le_t, n_le_f, n_lt_t, n_lt_f, n_eq_t, n_eq_f, nI_add, pk_mul, n_sub, n_prd, ne_1, hy_b_t, hy_b_f, ↓reduceIte, true_or, or_true, Bool.false_eq_true, or_false, false_or, and_true, true_and, and_false, false_and, li_c, li_0, li_1, li_2, li_3, li_4, li_5, li_6, li_10, li_11, li_16, li_17, li_20, li_40, li_41, li_300, li_400, oc_H_ob, oc_H_g0, oc_H_g1, oc_H_g2, oc_H_g3, oc_H_g4, oc_H_p5, oc_H_g5, oc_N_ob, oc_N_g0, oc_N_p1, oc_N_g1, oc_N_g2, oc_N_p3, oc_N_g3, oc_D_ob, oc_D_g0, oc_D_g1, oc_D_p2, oc_D_g2, oc_G_ob, oc_G_g0, oc_G_g1, oc_G_p2, oc_G_g2, oc_G_p3, oc_G_g3, oc_G_p4, oc_G_g4, oc_L_ob, oc_L_g0, oc_L_g1, oc_L_g2, oc_L_g3, oc_L_g4, oc_L_p5, oc_L_g5, oc_L_p6, oc_L_g6, oc_L_p7, oc_L_g7, oc_A_ob, oc_A_g0, oc_A_p1, oc_A_g1, oc_A_p2, oc_A_g2, oc_A_p0, oc_U_ob, oc_U_g0, oc_U_g1, oc_M_ob, oc_M_p0, oc_M_g0, oc_M_p1, oc_M_g1, oc_M_g2, oc_M_g3, oc_M_g4, oc_M_g5, oc_M_g6, oc_M_g7, oc_M_p8, oc_M_g8, oc_M_g9, oc_M_g10, oc_M_p11, oc_M_g11, oc_M_g12, oc_M_g13, oc_M_p14, oc_M_g14, oc_M_g15, oc_M_g16, oc_M_g17, oc_M_g18, oc_M_p19, oc_M_g19, oc_M_g20, oc_M_g21, oc_M_g22, oc_M_g23, oc_M_p24, oc_M_g24, oc_M_g25, m40, m41, m42, m43, m44, m45, m46, m47, m48, m49, m50, m51, m52, m53, m54, m55, m56, m57, m58, m59], mR, tp, te⟩ ⟨ql, hq', qn, qr, fun j hj => by
          unfold hy_apd
          split
          · rename_i hjj
            have := hvv (0 + (j - td)) (by omega) (by omega)
            unfold hy_in at this
            simp only [Bool.and_eq_true, Bool.not_eq_true', decide_eq_false_iff_not] at this
            exact this.1
          · exact qv j (by omega), qp, qe, qop, qoe, qup, que⟩ ⟨_, z60⟩ (fun j c hj h => by rw [wr_ne (by omega), wr_ne (by omega), wr_ne (by omega)]; exact h) rfl (by rw [hl2]; omega) (by rw [hl2]; omega)⟩
theorem s_add (I : hy_I (K + 1) w) (hi : i + 6 ≤ N) (hN : N ≤ 3072) : ∃ w2, hy_fx (nx_X_law N xs) (494, [.ref 2, .ref 40, .ref 60, .int (nI i)], w) = hy_fx (nx_X_law N xs) (23, [.ref 2, .ref 40, .ref 60, .int (nI (i + 6))], w2) ∧ hy_I K w2 := by
  obtain ⟨ft, l, td, n, tl, x, F, L, T, lf, rg, r, PM, EM, o, C, h, Q, h60, b1, b2⟩ := I
  have C' := C
  have Q' := Q
  obtain ⟨⟨f5, f8, nd, sd, vd, s, m, c, sr, gr, c2, c3, c4, c5, c6, c7, c8, c9, c10, c11, c12, c13, c14, c15⟩, C2, A, A1, A2⟩ := C
  obtain ⟨lc, R, f48, rl, rv, po, pz, pa, pv, eo, ez, ea, ev, ⟨m40, m41, m42, m43, m44, m45, m46, m47, m48, m49, m50, m51, m52, m53, m54, m55, m56, m57, m58, m59⟩, mR, tp, te⟩ := h
  obtain ⟨ql, qt, qn, qr, qv, qp, qe, qop, qoe, qup, que⟩ := Q
  generalize hf : hy_5 (xs (i + 1)) (xs (i + 2)) (xs (i + 3)) (xs (i + 4)) (xs (i + 5)) = f
  have hgv : hy_gv f 5 0 ≤ 5 := by have := gv_le (f := f) (d := 5) (i := 0); omega
  cases hv : pu_al (hy_in f (nI 1)) (hy_gv f 5 0) 0
  · rw [← hf] at hv
    have e1 := p_N_append_f (w := w) c7 (by omega) c8 (by omega) (by omega) (by omega) (by omega) hv
    have k40 : (hy_tw (hy_wr w 8 (hy_ia 5 (hy_5 (xs (i + 1)) (xs (i + 2)) (xs (i + 3)) (xs (i + 4)) (xs (i + 5)))))).1[40]? = some (oc_M ft l td lc PM.length EM.length n) := by rw [tw_get, wr_ne (by omega)]; exact m40
    have k48 : (hy_tw (hy_wr w 8 (hy_ia 5 (hy_5 (xs (i + 1)) (xs (i + 2)) (xs (i + 3)) (xs (i + 4)) (xs (i + 5)))))).1[48]? = some (hy_ia 5 f48) := by rw [tw_get, wr_ne (by omega)]; exact m48
    have e3 := p_M_add_f k40 k48 hv
    exact ⟨_, lw_add hi hN (x_add_1 c2 (h_add_t c2 c7 e1)) k40 e3 (wr_at (by rw [wr_ne (by omega)]; exact k40)) (fun h => absurd h ne_10), I_end (w1 := hy_tw (hy_wr w 8 (hy_ia 5 (hy_5 (xs (i + 1)) (xs (i + 2)) (xs (i + 3)) (xs (i + 4)) (xs (i + 5)))))) (ft := nI 1) (CI_tw (CI_8 C')) ⟨lc, R, _, rl, rv, po, pz, pa, pv, eo, ez, ea, ev, by unfold hy_Dc; simp (disch := omega) only [e_gi, e_gr, e_ob, e_ai, e_ar, e_ln, e_pf, e_pa, wr_eq, wr_ne, wr_wr, Option.map_some, Option.bind_some, hy_bi_s, hy_br_s, hy_bv_s, hy_xi_s, hy_xi_t, hy_xv_s, hy_xv_t, hy_k_l, hy_k_r, ia_ai, ia_pa, ia_ln, oc_a_ar, oc_o_pa, oc_r_ln, n_le_t, n_le_f, n_lt_t, n_lt_f, n_eq_t, n_eq_f, nI_add, pk_mul, n_sub, n_prd, ne_1, hy_b_t, hy_b_f, ↓reduceIte, true_or, or_true, Bool.false_eq_true, or_false, false_or, and_true, true_and, and_false, false_and, li_c, li_0, li_1, li_2, li_3, li_4, li_5, li_6, li_10, li_11, li_16, li_17, li_20, li_40, li_41, li_300, li_400, oc_H_ob, oc_H_g0, oc_H_g1, oc_H_g2, oc_H_g3, oc_H_g4, oc_H_p5, oc_H_g5, oc_N_ob, oc_N_g0, oc_N_p1, oc_N_g1, oc_N_g2, oc_N_p3, oc_N_g3, oc_D_ob, oc_D_g0, oc_D_g1, oc_D_p2, oc_D_g2, oc_G_ob, oc_G_g0, oc_G_g1, oc_G_p2, oc_G_g2, oc_G_p3, oc_G_g3, oc_G_p4, oc_G_g4, oc_L_ob, oc_L_g0, oc_L_g1, oc_L_g2, oc_L_g3, oc_L_g4, oc_L_p5, oc_L_g5, oc_L_p6, oc_L_g6, oc_L_p7, oc_L_g7, oc_A_ob, oc_A_g0, oc_A_p1, oc_A_g1, oc_A_p2, oc_A_g2, oc_A_p0, oc_U_ob, oc_U_g0, oc_U_g1, oc_M_ob, oc_M_p0, oc_M_g0, oc_M_p1, oc_M_g1, oc_M_g2, oc_M_g3, oc_M_g4, oc_M_g5, oc_M_g6, oc_M_g7, oc_M_p8, oc_M_g8, oc_M_g9, oc_M_g10, oc_M_p11, oc_M_g11, oc_M_g12, oc_M_g13, oc_M_p14, oc_M_g14, oc_M_g15, oc_M_g16, oc_M_g17, oc_M_g18, oc_M_p19, oc_M_g19, oc_M_g20, oc_M_g21, oc_M_g22, oc_M_g23, oc_M_p24, oc_M_g24, oc_M_g25, tw_get, m40, m41, m42, m43, m44, m45, m46, m47, m48, m49, m50, m51, m52, m53, m54, m55, m56, m57, m58, m59]; rfl, mR, tp, te⟩ Q' ⟨o, by rw [tw_get, wr_ne (by omega)]; exact h60⟩ (fun j c hj h => by rw [wr_ne (by omega), wr_ne (by omega)]; exact h) rfl (by show 8 * K ≤ w.2.1 - 1; omega) (by show 2000 * K ≤ w.2.2 - 6; omega)⟩
  · by_cases hq : 400 < n + hy_gv f 5 0
    · rw [← hf] at hv hq
      have e1 := p_N_append_s (w := w) (cap := 400) c7 (by omega) c9 (by omega) (by omega) c8 (by omega) (by omega) (by omega) (by omega) (by omega) (by omega) hv hq
      have k40 : (hy_tw (hy_wr w 8 (hy_ia 5 (hy_5 (xs (i + 1)) (xs (i + 2)) (xs (i + 3)) (xs (i + 4)) (xs (i + 5)))))).1[40]? = some (oc_M ft l td lc PM.length EM.length n) := by rw [tw_get, wr_ne (by omega)]; exact m40
      have k48 : (hy_tw (hy_wr w 8 (hy_ia 5 (hy_5 (xs (i + 1)) (xs (i + 2)) (xs (i + 3)) (xs (i + 4)) (xs (i + 5)))))).1[48]? = some (hy_ia 5 f48) := by rw [tw_get, wr_ne (by omega)]; exact m48
      have e3 := p_M_add_s k40 k48 hv qn hq
      exact ⟨_, lw_add hi hN (x_add_2 c2 (h_add_t c2 c7 e1)) k40 e3 (wr_at (by rw [wr_ne (by omega)]; exact k40)) (fun h => absurd h ne_20), I_end (w1 := hy_tw (hy_wr w 8 (hy_ia 5 (hy_5 (xs (i + 1)) (xs (i + 2)) (xs (i + 3)) (xs (i + 4)) (xs (i + 5)))))) (ft := nI 2) (CI_tw (CI_8 C')) ⟨lc, R, _, rl, rv, po, pz, pa, pv, eo, ez, ea, ev, by unfold hy_Dc; simp (disch := omega) only [e_gi, e_gr, e_ob, e_ai, e_ar, e_ln, e_pf, e_pa, wr_eq, wr_ne, wr_wr, Option.map_some, Option.bind_some, hy_bi_s, hy_br_s, hy_bv_s, hy_xi_s, hy_xi_t, hy_xv_s, hy_xv_t, hy_k_l, hy_k_r, ia_ai, ia_pa, ia_ln, oc_a_ar, oc_o_pa, oc_r_ln, n_le_t, n_le_f, n_lt_t, n_lt_f, n_eq_t, n_eq_f, nI_add, pk_mul, n_sub, n_prd, ne_1, hy_b_t, hy_b_f, ↓reduceIte, true_or, or_true, Bool.false_eq_true, or_false, false_or, and_true, true_and, and_false, false_and, li_c, li_0, li_1, li_2, li_3, li_4, li_5, li_6, li_10, li_11, li_16, li_17, li_20, li_40, li_41, li_300, li_400, oc_H_ob, oc_H_g0, oc_H_g1, oc_H_g2, oc_H_g3, oc_H_g4, oc_H_p5, oc_H_g5, oc_N_ob, oc_N_g0, oc_N_p1, oc_N_g1, oc_N_g2, oc_N_p3, oc_N_g3, oc_D_ob, oc_D_g0, oc_D_g1, oc_D_p2, oc_D_g2, oc_G_ob, oc_G_g0, oc_G_g1, oc_G_p2, oc_G_g2, oc_G_p3, oc_G_g3, oc_G_p4, oc_G_g4, oc_L_ob, oc_L_g0, oc_L_g1, oc_L_g2, oc_L_g3, oc_L_g4, oc_L_p5, oc_L_g5, oc_L_p6, oc_L_g6, oc_L_p7, oc_L_g7, oc_A_ob, oc_A_g0, oc_A_p1, oc_A_g1, oc_A_p2, oc_A_g2, oc_A_p0, oc_U_ob, oc_U_g0, oc_U_g1, oc_M_ob, oc_M_p0, oc_M_g0, oc_M_p1, oc_M_g1, oc_M_g2, oc_M_g3, oc_M_g4, oc_M_g5, oc_M_g6, oc_M_g7, oc_M_p8, oc_M_g8, oc_M_g9, oc_M_g10, oc_M_p11, oc_M_g11, oc_M_g12, oc_M_g13, oc_M_p14, oc_M_g14, oc_M_g15, oc_M_g16, oc_M_g17, oc_M_g18, oc_M_p19, oc_M_g19, oc_M_g20, oc_M_g21, oc_M_g22, oc_M_g23, oc_M_p24, oc_M_g24, oc_M_g25, tw_get, m40, m41, m42, m43, m44, m45, m46, m47, m48, m49, m50, m51, m52, m53, m54, m55, m56, m57, m58, m59]; rfl, mR, tp, te⟩ Q' ⟨o, by rw [tw_get, wr_ne (by omega)]; exact h60⟩ (fun j c hj h => by rw [wr_ne (by omega), wr_ne (by omega)]; exact h) rfl (by show 8 * K ≤ w.2.1 - 1; omega) (by show 2000 * K ≤ w.2.2 - 6; omega)⟩
    · have hq' : n + hy_gv f 5 0 ≤ 400 := by omega
      have hv2 := hv
      have hq2 := hq'
      rw [← hf] at hv2 hq2
      have e1 := p_N_append (w := w) (cap := 400) c7 (by omega) c9 (by omega) (by omega) (by omega) c8 (by omega) (by omega) (by omega) hv2 hq2
      rw [hf] at e1
      have k60 : (hy_wr (hy_wr (hy_wr w 8 (hy_ia 5 f)) 9 (hy_ia 400 (hy_apd n (hy_gv f 5 0) f x))) 7 (oc_N 9 8 (nI 1) (n + hy_gv f 5 0))).1[60]? = some (oc_o o) := by rw [wr_ne (by omega), wr_ne (by omega), wr_ne (by omega)]; exact h60
      have CN : hy_CI (hy_wr (hy_wr (hy_wr (hy_wr w 8 (hy_ia 5 f)) 9 (hy_ia 400 (hy_apd n (hy_gv f 5 0) f x))) 7 (oc_N 9 8 (nI 1) (n + hy_gv f 5 0))) 60 (oc_o (nI (n + hy_gv f 5 0)).toInt64)) l td (n + hy_gv f 5 0) tl (hy_apd n (hy_gv f 5 0) f x) F L T lf rg r PM EM := CI_60 (CI_7 (CI_9 (CI_8 C')))
      have e2 := x_add_s c2 (h_add_s c2 c7 e1) k60
      have kk : ∀ j, 40 ≤ j → j < 60 → (hy_wr (hy_wr (hy_wr (hy_wr w 8 (hy_ia 5 f)) 9 (hy_ia 400 (hy_apd n (hy_gv f 5 0) f x))) 7 (oc_N 9 8 (nI 1) (n + hy_gv f 5 0))) 60 (oc_o (nI (n + hy_gv f 5 0)).toInt64)).1[j]? = w.1[j]? := fun j h1 h2 => by rw [wr_ne (by omega), wr_ne (by omega), wr_ne (by omega), wr_ne (by omega)]
      have z60 : (hy_wr (hy_wr (hy_wr (hy_wr w 8 (hy_ia 5 f)) 9 (hy_ia 400 (hy_apd n (hy_gv f 5 0) f x))) 7 (oc_N 9 8 (nI 1) (n + hy_gv f 5 0))) 60 (oc_o (nI (n + hy_gv f 5 0)).toInt64)).1[60]? = some (oc_o (nI (n + hy_gv f 5 0)).toInt64) := wr_at k60
      have hl2 : (hy_wr (hy_wr (hy_wr (hy_wr w 8 (hy_ia 5 f)) 9 (hy_ia 400 (hy_apd n (hy_gv f 5 0) f x))) 7 (oc_N 9 8 (nI 1) (n + hy_gv f 5 0))) 60 (oc_o (nI (n + hy_gv f 5 0)).toInt64)).2 = w.2 := rfl
      generalize hy_wr (hy_wr (hy_wr (hy_wr w 8 (hy_ia 5 f)) 9 (hy_ia 400 (hy_apd n (hy_gv f 5 0) f x))) 7 (oc_N 9 8 (nI 1) (n + hy_gv f 5 0))) 60 (oc_o (nI (n + hy_gv f 5 0)).toInt64) = w1 at e2 CN kk z60 hl2
      have m40 := (kk 40 (by omega) (by omega)).trans m40
      have m41 := (kk 41 (by omega) (by omega)).trans m41
      have m42 := (kk 42 (by omega) (by omega)).trans m42
      have m43 := (kk 43 (by omega) (by omega)).trans m43
      have m44 := (kk 44 (by omega) (by omega)).trans m44
      have m45 := (kk 45 (by omega) (by omega)).trans m45
      have m46 := (kk 46 (by omega) (by omega)).trans m46
      have m47 := (kk 47 (by omega) (by omega)).trans m47
      have m48 := (kk 48 (by omega) (by omega)).trans m48
      have m49 := (kk 49 (by omega) (by omega)).trans m49
      have m50 := (kk 50 (by omega) (by omega)).trans m50
      have m51 := (kk 51 (by omega) (by omega)).trans m51
      have m52 := (kk 52 (by omega) (by omega)).trans m52
      have m53 := (kk 53 (by omega) (by omega)).trans m53
      have m54 := (kk 54 (by omega) (by omega)).trans m54
      have m55 := (kk 55 (by omega) (by omega)).trans m55
      have m56 := (kk 56 (by omega) (by omega)).trans m56
      have m57 := (kk 57 (by omega) (by omega)).trans m57
      have m58 := (kk 58 (by omega) (by omega)).trans m58
      have m59 := (kk 59 (by omega) (by omega)).trans m59
      have hw1 : 60 ≤ w1.1.length := by have := (List.getElem?_eq_some_iff.mp z60).1; omega
      have e3 := p_M_add m40 m48 m59 hw1 hv2 hq2
      rw [hf] at e3
      exact ⟨_, lw_add hi hN e2 m40 e3 (wr_at (by rw [wr_ne (by omega), wr_ne (by omega)]; exact m40)) (fun _ => by rw [wr_ne (by omega), wr_ne (by omega), wr_ne (by omega)]; exact z60), I_end (w1 := w1) (ft := nI 0) CN ⟨lc, R, f, rl, rv, po, pz, pa, pv, eo, ez, ea, ev, by unfold hy_Dc; simp (disch := omega) only [e_gi, e_gr, e_ob, e_ai, e_ar, e_ln, e_pf, e_pa, wr_eq, wr_ne, wr_wr, Option.map_some, Option.bind_some, hy_bi_s, hy_br_s, hy_bv_s, hy_xi_s, hy_xi_t, hy_xv_s, hy_xv_t, hy_k_l, hy_k_r, ia_ai, ia_pa, ia_ln, oc_a_ar, oc_o_pa, oc_r_ln, n_le_t, n_le_f, n_lt_t, n_lt_f, n_eq_t, n_eq_f, nI_add, pk_mul, n_sub, n_prd, ne_1, hy_b_t, hy_b_f, ↓reduceIte, true_or, or_true, Bool.false_eq_true, or_false, false_or, and_true, true_and, and_false, false_and, li_c, li_0, li_1, li_2, li_3, li_4, li_5, li_6, li_10, li_11, li_16, li_17, li_20, li_40, li_41, li_300, li_400, oc_H_ob, oc_H_g0, oc_H_g1, oc_H_g2, oc_H_g3, oc_H_g4, oc_H_p5, oc_H_g5, oc_N_ob, oc_N_g0, oc_N_p1, oc_N_g1, oc_N_g2, oc_N_p3, oc_N_g3, oc_D_ob, oc_D_g0, oc_D_g1, oc_D_p2, oc_D_g2, oc_G_ob, oc_G_g0, oc_G_g1, oc_G_p2, oc_G_g2, oc_G_p3, oc_G_g3, oc_G_p4, oc_G_g4, oc_L_ob, oc_L_g0, oc_L_g1, oc_L_g2, oc_L_g3, oc_L_g4, oc_L_p5, oc_L_g5, oc_L_p6, oc_L_g6, oc_L_p7, oc_L_g7, oc_A_ob, oc_A_g0, oc_A_p1, oc_A_g1, oc_A_p2, oc_A_g2, oc_A_p0, oc_U_ob, oc_U_g0, oc_U_g1, oc_M_ob, oc_M_p0, oc_M_g0, oc_M_p1, oc_M_g1, oc_M_g2, oc_M_g3, oc_M_g4, oc_M_g5, oc_M_g6, oc_M_g7, oc_M_p8, oc_M_g8, oc_M_g9, oc_M_g10, oc_M_p11, oc_M_g11, oc_M_g12, oc_M_g13, oc_M_p14, oc_M_g14, oc_M_g15, oc_M_g16, oc_M_g17, oc_M_g18, oc_M_p19, oc_M_g19, oc_M_g20, oc_M_g21, oc_M_g22, oc_M_g23, oc_M_p24, oc_M_g24, oc_M_g25, m40, m41, m42, m43, m44, m45, m46, m47, m48, m49, m50, m51, m52, m53, m54, m55, m56, m57, m58, m59], mR, tp, te⟩ ⟨ql, qt, hq', qr, qv, qp, qe, qop, qoe, qup, que⟩ ⟨_, z60⟩ (fun j c hj h => by rw [wr_ne (by omega), wr_ne (by omega), wr_ne (by omega)]; exact h) rfl (by rw [hl2]; omega) (by rw [hl2]; omega)⟩
theorem s_forget (I : hy_I (K + 1) w) (hi : i + 6 ≤ N) (hN : N ≤ 3072) : ∃ w2, hy_fx (nx_X_law N xs) (481, [.ref 2, .ref 40, .ref 60, .int (nI i)], w) = hy_fx (nx_X_law N xs) (23, [.ref 2, .ref 40, .ref 60, .int (nI (i + 6))], w2) ∧ hy_I K w2 := by
  obtain ⟨ft, l, td, n, tl, x, F, L, T, lf, rg, r, PM, EM, o, C, h, Q, h60, b1, b2⟩ := I
  have C' := C
  have Q' := Q
  obtain ⟨⟨f5, f8, nd, sd, vd, s, m, c, sr, gr, c2, c3, c4, c5, c6, c7, c8, c9, c10, c11, c12, c13, c14, c15⟩, C2, A, A1, A2⟩ := C
  obtain ⟨lc, R, f48, rl, rv, po, pz, pa, pv, eo, ez, ea, ev, ⟨m40, m41, m42, m43, m44, m45, m46, m47, m48, m49, m50, m51, m52, m53, m54, m55, m56, m57, m58, m59⟩, mR, tp, te⟩ := h
  obtain ⟨ql, qt, qn, qr, qv, qp, qe, qop, qoe, qup, que⟩ := Q
  obtain ⟨w1, e1, CN, kk', hl2⟩ := p_H_forget C' ql qp qe
  have kk : ∀ j, 40 ≤ j → j < 60 → w1.1[j]? = w.1[j]? := fun j h1 h2 => kk' j h1 (by omega)
  have z60 := (kk' 60 (by omega) (by omega)).trans h60
  have m40 := (kk 40 (by omega) (by omega)).trans m40
  have m41 := (kk 41 (by omega) (by omega)).trans m41
  have m42 := (kk 42 (by omega) (by omega)).trans m42
  have m43 := (kk 43 (by omega) (by omega)).trans m43
  have m44 := (kk 44 (by omega) (by omega)).trans m44
  have m45 := (kk 45 (by omega) (by omega)).trans m45
  have m46 := (kk 46 (by omega) (by omega)).trans m46
  have m47 := (kk 47 (by omega) (by omega)).trans m47
  have m48 := (kk 48 (by omega) (by omega)).trans m48
  have m49 := (kk 49 (by omega) (by omega)).trans m49
  have m50 := (kk 50 (by omega) (by omega)).trans m50
  have m51 := (kk 51 (by omega) (by omega)).trans m51
  have m52 := (kk 52 (by omega) (by omega)).trans m52
  have m53 := (kk 53 (by omega) (by omega)).trans m53
  have m54 := (kk 54 (by omega) (by omega)).trans m54
  have m55 := (kk 55 (by omega) (by omega)).trans m55
  have m56 := (kk 56 (by omega) (by omega)).trans m56
  have m57 := (kk 57 (by omega) (by omega)).trans m57
  have m58 := (kk 58 (by omega) (by omega)).trans m58
  have m59 := (kk 59 (by omega) (by omega)).trans m59
  have hw1 : 59 < w1.1.length := by have := (List.getElem?_eq_some_iff.mp z60).1; omega
  obtain ⟨po', pz', pa', pv', eo', ez', ea', ev', t1, t2, e3⟩ := p_M_forget hw1 m40 ql qp qe tp te m51 m52 m53 m54 m55 m56 m57 m58
  have n1 := of_ft_len (l := l) (M := PM)
  have n2 := of_ft_len (l := l) (M := EM)
  rw [show PM.length - (hy_ft l PM).length + (EM.length - (hy_ft l EM).length) = (hy_of l PM).length + (hy_of l EM).length by omega] at e3
  have f1 := ft_le (l := l) (M := PM)
  have f2 := ft_le (l := l) (M := EM)
  refine ⟨_, lw_forget hi hN c2 e1 m40 e3, I_end (w1 := w1) (ft := nI 0) CN ⟨lc, R, f48, rl, rv, po', pz', pa', pv', eo', ez', ea', ev', ?_, mR, t1, t2⟩ ⟨ql, qt, qn, qr, qv, by omega, by omega, ok_ft qop, ok_ft qoe, un_ft qup, un_ft que⟩ ⟨_, z60⟩ (fun j c hj h => ?_) rfl (by rw [hl2]; omega) (by rw [hl2]; omega)⟩
  · unfold hy_Dc hy_tE hy_tP
    simp (disch := omega) only [e_gi, e_gr, e_ob, e_ai, e_ar, e_ln, e_pf, e_pa, wr_eq, wr_ne, wr_wr, Option.map_some, Option.bind_some, hy_bi_s, hy_br_s, hy_bv_s, hy_xi_s, hy_xi_t, hy_xv_s, hy_xv_t, hy_k_l, hy_k_r, ia_ai, ia_pa, ia_ln, oc_a_ar, oc_o_pa, oc_r_ln, n_le_t, n_le_f, n_lt_t, n_lt_f, n_eq_t, n_eq_f, nI_add, pk_mul, n_sub, n_prd, ne_1, hy_b_t, hy_b_f, ↓reduceIte, true_or, or_true, Bool.false_eq_true, or_false, false_or, and_true, true_and, and_false, false_and, li_c, li_0, li_1, li_2, li_3, li_4, li_5, li_6, li_10, li_11, li_16, li_17, li_20, li_40, li_41, li_300, li_400, oc_H_ob, oc_H_g0, oc_H_g1, oc_H_g2, oc_H_g3, oc_H_g4, oc_H_p5, oc_H_g5, oc_N_ob, oc_N_g0, oc_N_p1, oc_N_g1, oc_N_g2, oc_N_p3, oc_N_g3, oc_D_ob, oc_D_g0, oc_D_g1, oc_D_p2, oc_D_g2, oc_G_ob, oc_G_g0, oc_G_g1, oc_G_p2, oc_G_g2, oc_G_p3, oc_G_g3, oc_G_p4, oc_G_g4, oc_L_ob, oc_L_g0, oc_L_g1, oc_L_g2, oc_L_g3, oc_L_g4, oc_L_p5, oc_L_g5, oc_L_p6, oc_L_g6, oc_L_p7, oc_L_g7, oc_A_ob, oc_A_g0, oc_A_p1, oc_A_g1, oc_A_p2, oc_A_g2, oc_A_p0, oc_U_ob, oc_U_g0, oc_U_g1, oc_M_ob, oc_M_p0, oc_M_g0, oc_M_p1, oc_M_g1, oc_M_g2, oc_M_g3, oc_M_g4, oc_M_g5, oc_M_g6, oc_M_g7, oc_M_p8, oc_M_g8, oc_M_g9, oc_M_g10, oc_M_p11, oc_M_g11, oc_M_g12, oc_M_g13, oc_M_p14, oc_M_g14, oc_M_g15, oc_M_g16, oc_M_g17, oc_M_g18, oc_M_p19, oc_M_g19, oc_M_g20, oc_M_g21, oc_M_g22, oc_M_g23, oc_M_p24, oc_M_g24, oc_M_g25, m40, m41, m42, m43, m44, m45, m46, m47, m48, m49, m50, m51, m52, m53, m54, m55, m56, m57, m58, m59]
  · rw [wr_ne (by omega), tE_ne (by omega), tP_ne (by omega)]; exact h
end STS
