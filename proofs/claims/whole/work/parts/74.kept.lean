/-! THE CLASS's lists: forgotten, counted, kept -/
section KPS
variable {w w' : hy_W} {l td n : Nat} {tl x F L T lf rg : Nat → Int32} {r : Nat → Nat} {PM EM : List (Nat × hy_U)} {o : Int64}
theorem p_H_forget (C : hy_CI w l td n tl x F L T lf rg r PM EM) (hl : l < 4) (hp : PM.length ≤ 300) (he : EM.length ≤ 40) : ∃ w1, f_H_forget [.ref 2] w = some (.inl (some (.int (nI ((hy_of l PM).length + (hy_of l EM).length)))), w1) ∧ hy_CI w1 l td n tl x F L T lf rg r (hy_ft l PM) (hy_ft l EM) ∧ (∀ j, 40 ≤ j → j ≤ 60 → w1.1[j]? = w.1[j]?) ∧ w1.2 = w.2 := by
  have C' := C
  obtain ⟨⟨f5, f8, nd, sd, vd, s, m, c, sr, gr, c2, c3, c4, c5, c6, c7, c8, c9, c10, c11, c12, c13, c14, c15⟩, C2, A, A1, A2⟩ := C
  obtain ⟨d1, d2, d3, d4⟩ := C2 l hl
  have R1 := A1 _ (lc_p hl)
  have R2 := A1 _ (lc_e hl)
  have g1 := (RL_ar R1).1
  have g2 := (RL_ar R2).1
  obtain ⟨w1, e1, r1, l1, k1, b1, p1⟩ := p_A_clear R1 (by omega)
  obtain ⟨A', LA⟩ := LL_cl (Q' := fun d => if d = 20 + 6 * l then [] else hy_qf PM EM d) ⟨A1, A2⟩ (lc_p hl) (by rw [if_pos rfl]; exact r1) k1 p1 (fun d hd hdc => if_neg hdc)
  have R3 := LA.1 _ (lc_e hl)
  have g3 := (RL_ar R3).1
  obtain ⟨w2, e2, r2, l2, k2, b2, p2⟩ := p_A_clear R3 (by omega)
  obtain ⟨A'', LB⟩ := LL_cl (Q' := hy_qf (hy_ft l PM) (hy_ft l EM)) LA (lc_e hl) (by rw [qf_e, of_ft_s]; exact r2) k2 p2 (fun d hd hdc => by
    obtain ⟨k, hk, q | q⟩ := lc_k hd
    · subst q
      by_cases e : k = l
      · subst e
        show _ = (if 20 + 6 * k = 20 + 6 * k then [] else _)
        rw [if_pos rfl, qf_p, of_ft_s]
      · show _ = (if 20 + 6 * k = 20 + 6 * l then [] else _)
        rw [if_neg (by omega), qf_p, qf_p, of_ft_n e]
    · subst q
      show _ = (if 21 + 6 * k = 20 + 6 * l then [] else _)
      rw [if_neg (by omega), qf_e, qf_e, of_ft_n (by omega)])
  obtain ⟨cc, es, a1, -⟩ := R1
  obtain ⟨cc', es', a1', -⟩ := R2
  rw [qf_p] at a1
  rw [qf_e] at a1'
  have z1 := p_A_size a1 (by omega)
  have z2 := p_A_size a1' (by omega)
  have f16 : w1.1[16 + 6 * l]? = some (oc_L l (r l) (lf l) (rg l)) := by rw [k1 _ (by omega) (by omega)]; exact d1
  have f21 : w1.1[21 + 6 * l]? = some (oc_A (A (21 + 6 * l)) (hy_of l EM).length cc') := by rw [k1 _ (by omega) (by omega)]; exact a1'
  have hof := of_len (l := l) (M := PM)
  have hoe := of_len (l := l) (M := EM)
  refine ⟨w2, ?_, ?_, ?_, b2.trans b1⟩
  · rw [f_H_forget, ev_H_forget_0]
    simp (disch := omega) only [e_gi, e_gr, e_ob, e_ai, e_ar, e_ln, e_pf, e_pa, wr_eq, wr_ne, wr_wr, Option.map_some, Option.bind_some, hy_bi_s, hy_br_s, hy_bv_s, hy_xi_s, hy_xi_t, hy_xv_s, hy_xv_t, hy_k_l, hy_k_r, ia_ai, ia_pa, ia_ln, oc_a_ar, oc_o_pa, oc_r_ln, n_le_t, n_le_f, n_lt_t, n_lt_f, n_eq_t, n_eq_f, nI_add, pk_mul, n_sub, n_prd, ne_1, hy_b_t, hy_b_f, ↓reduceIte, true_or, or_true, Bool.false_eq_true, or_false, false_or, and_true, true_and, and_false, false_and, li_c, li_0, li_1, li_2, li_3, li_4, li_5, li_6, li_10, li_11, li_16, li_17, li_20, li_40, li_41, li_300, li_400, oc_H_ob, oc_H_g0, oc_H_g1, oc_H_g2, oc_H_g3, oc_H_g4, oc_H_p5, oc_H_g5, oc_N_ob, oc_N_g0, oc_N_p1, oc_N_g1, oc_N_g2, oc_N_p3, oc_N_g3, oc_D_ob, oc_D_g0, oc_D_g1, oc_D_p2, oc_D_g2, oc_G_ob, oc_G_g0, oc_G_g1, oc_G_p2, oc_G_g2, oc_G_p3, oc_G_g3, oc_G_p4, oc_G_g4, oc_L_ob, oc_L_g0, oc_L_g1, oc_L_g2, oc_L_g3, oc_L_g4, oc_L_p5, oc_L_g5, oc_L_p6, oc_L_g6, oc_L_p7, oc_L_g7, oc_A_ob, oc_A_g0, oc_A_p1, oc_A_g1, oc_A_p2, oc_A_g2, oc_A_p0, oc_U_ob, oc_U_g0, oc_U_g1, oc_M_ob, oc_M_p0, oc_M_g0, oc_M_p1, oc_M_g1, oc_M_g2, oc_M_g3, oc_M_g4, oc_M_g5, oc_M_g6, oc_M_g7, oc_M_p8, oc_M_g8, oc_M_g9, oc_M_g10, oc_M_p11, oc_M_g11, oc_M_g12, oc_M_g13, oc_M_p14, oc_M_g14, oc_M_g15, oc_M_g16, oc_M_g17, oc_M_g18, oc_M_p19, oc_M_g19, oc_M_g20, oc_M_g21, oc_M_g22, oc_M_g23, oc_M_p24, oc_M_g24, oc_M_g25, sg_H_forget_0, c2, c3, d1, a1, z1, a1', z2, e1, f16, f21, e2]
  · refine ⟨A1_fr C'.1 fun j d h1 h2 h => ?_, A2_fr C'.2.1 fun j d h1 h2 h3 h4 h => ?_, A'', LB⟩
    · rw [k2 _ (by omega) (by omega), k1 _ (by omega) (by omega)]; exact h
    · rw [k2 _ (by omega) (by omega), k1 _ (by omega) (by omega)]; exact h
  · intro j h1 h2
    rw [k2 _ (by omega) (by omega), k1 _ (by omega) (by omega)]
theorem sm_to {X X' : Nat → Int32} {k : Nat} (h : hy_to k X X') (p : hy_U) : hy_sm X 0 k p = hy_sm X' 0 k p := by
  unfold hy_sm
  by_cases q : p.1.length = k
  · rw [al_ext fun j _ hj => by rw [h (0 + j) (by omega)]]
  · rw [decide_eq_false q, Bool.false_and, Bool.false_and]
end KPS
section KPS
variable {w w' : hy_W} {l td n : Nat} {tl x F L T lf rg : Nat → Int32} {r : Nat → Nat} {PM EM : List (Nat × hy_U)} {o : Int64}
theorem p_H_patternsInAll (C : hy_CI w l td n tl x F L T lf rg r PM EM) (hM : PM.length ≤ 300) (hk : ∀ e ∈ PM, e.1 < 4) : f_H_patternsInAll [.ref 2] w = some (.inl (some (.int (nI PM.length))), w) := by
  obtain ⟨⟨f5, f8, nd, sd, vd, s, m, c, sr, gr, c2, c3, c4, c5, c6, c7, c8, c9, c10, c11, c12, c13, c14, c15⟩, C2, A, A1, A2⟩ := C
  have key : ∀ k, k < 4 → ∃ a c, w.1[20 + 6 * k]? = some (oc_A a (hy_of k PM).length c) ∧ f_A_size [.ref (20 + 6 * k)] w = some (.inl (some (.int (nI (hy_of k PM).length))), w) ∧ w.1[16 + 6 * k]? = some (oc_L k (r k) (lf k) (rg k)) := by
    intro k hk
    obtain ⟨cc, es, a1, -⟩ := A1 _ (lc_p hk)
    rw [qf_p] at a1
    exact ⟨_, _, a1, p_A_size a1 (by omega), (C2 k hk).1⟩
  have step : ∀ (k s : Nat), k < 4 → hy_fx nx_H_patternsInAll (4, [.ref 2, .int (nI s), .int (nI k)], w) = hy_fx nx_H_patternsInAll (4, [.ref 2, .int (nI (s + (hy_of k PM).length)), .int (nI (k + 1))], w) := by
    intro k s hk
    obtain ⟨a, cc, a1, z1, d1⟩ := key k hk
    rw [ev_H_patternsInAll_4]
    simp (disch := omega) only [e_gi, e_gr, e_ob, e_ai, e_ar, e_ln, e_pf, e_pa, wr_eq, wr_ne, wr_wr, Option.map_some, Option.bind_some, hy_bi_s, hy_br_s, hy_bv_s, hy_xi_s, hy_xi_t, hy_xv_s, hy_xv_t, hy_k_l, hy_k_r, ia_ai, ia_pa, ia_ln, oc_a_ar, oc_o_pa, oc_r_ln, n_le_t, n_le_f, n_lt_t, n_lt_f, n_eq_t, n_eq_f, nI_add, pk_mul, n_sub, n_prd, ne_1, hy_b_t, hy_b_f, ↓reduceIte, true_or, or_true, Bool.false_eq_true, or_false, false_or, and_true, true_and, and_false, false_and, li_c, li_0, li_1, li_2, li_3, li_4, li_5, li_6, li_10, li_11, li_16, li_17, li_20, li_40, li_41, li_300, li_400, oc_H_ob, oc_H_g0, oc_H_g1, oc_H_g2, oc_H_g3, oc_H_g4, oc_H_p5, oc_H_g5, oc_N_ob, oc_N_g0, oc_N_p1, oc_N_g1, oc_N_g2, oc_N_p3, oc_N_g3, oc_D_ob, oc_D_g0, oc_D_g1, oc_D_p2, oc_D_g2, oc_G_ob, oc_G_g0, oc_G_g1, oc_G_p2, oc_G_g2, oc_G_p3, oc_G_g3, oc_G_p4, oc_G_g4, oc_L_ob, oc_L_g0, oc_L_g1, oc_L_g2, oc_L_g3, oc_L_g4, oc_L_p5, oc_L_g5, oc_L_p6, oc_L_g6, oc_L_p7, oc_L_g7, oc_A_ob, oc_A_g0, oc_A_p1, oc_A_g1, oc_A_p2, oc_A_g2, oc_A_p0, oc_U_ob, oc_U_g0, oc_U_g1, oc_M_ob, oc_M_p0, oc_M_g0, oc_M_p1, oc_M_g1, oc_M_g2, oc_M_g3, oc_M_g4, oc_M_g5, oc_M_g6, oc_M_g7, oc_M_p8, oc_M_g8, oc_M_g9, oc_M_g10, oc_M_p11, oc_M_g11, oc_M_g12, oc_M_g13, oc_M_p14, oc_M_g14, oc_M_g15, oc_M_g16, oc_M_g17, oc_M_g18, oc_M_p19, oc_M_g19, oc_M_g20, oc_M_g21, oc_M_g22, oc_M_g23, oc_M_p24, oc_M_g24, oc_M_g25, sg_H_patternsInAll_4, c2, c3, d1, a1, z1]
  have fin : ∀ s : Nat, hy_fx nx_H_patternsInAll (4, [.ref 2, .int (nI s), .int (nI (0 + 1 + 1 + 1 + 1))], w) = some (.inl (some (.int (nI s))), w) := by
    intro s
    rw [ev_H_patternsInAll_4]
    simp (disch := omega) only [e_gi, e_gr, e_ob, e_ai, e_ar, e_ln, e_pf, e_pa, wr_eq, wr_ne, wr_wr, Option.map_some, Option.bind_some, hy_bi_s, hy_br_s, hy_bv_s, hy_xi_s, hy_xi_t, hy_xv_s, hy_xv_t, hy_k_l, hy_k_r, ia_ai, ia_pa, ia_ln, oc_a_ar, oc_o_pa, oc_r_ln, n_le_t, n_le_f, n_lt_t, n_lt_f, n_eq_t, n_eq_f, nI_add, pk_mul, n_sub, n_prd, ne_1, hy_b_t, hy_b_f, ↓reduceIte, true_or, or_true, Bool.false_eq_true, or_false, false_or, and_true, true_and, and_false, false_and, li_c, li_0, li_1, li_2, li_3, li_4, li_5, li_6, li_10, li_11, li_16, li_17, li_20, li_40, li_41, li_300, li_400, oc_H_ob, oc_H_g0, oc_H_g1, oc_H_g2, oc_H_g3, oc_H_g4, oc_H_p5, oc_H_g5, oc_N_ob, oc_N_g0, oc_N_p1, oc_N_g1, oc_N_g2, oc_N_p3, oc_N_g3, oc_D_ob, oc_D_g0, oc_D_g1, oc_D_p2, oc_D_g2, oc_G_ob, oc_G_g0, oc_G_g1, oc_G_p2, oc_G_g2, oc_G_p3, oc_G_g3, oc_G_p4, oc_G_g4, oc_L_ob, oc_L_g0, oc_L_g1, oc_L_g2, oc_L_g3, oc_L_g4, oc_L_p5, oc_L_g5, oc_L_p6, oc_L_g6, oc_L_p7, oc_L_g7, oc_A_ob, oc_A_g0, oc_A_p1, oc_A_g1, oc_A_p2, oc_A_g2, oc_A_p0, oc_U_ob, oc_U_g0, oc_U_g1, oc_M_ob, oc_M_p0, oc_M_g0, oc_M_p1, oc_M_g1, oc_M_g2, oc_M_g3, oc_M_g4, oc_M_g5, oc_M_g6, oc_M_g7, oc_M_p8, oc_M_g8, oc_M_g9, oc_M_g10, oc_M_p11, oc_M_g11, oc_M_g12, oc_M_g13, oc_M_p14, oc_M_g14, oc_M_g15, oc_M_g16, oc_M_g17, oc_M_g18, oc_M_p19, oc_M_g19, oc_M_g20, oc_M_g21, oc_M_g22, oc_M_g23, oc_M_p24, oc_M_g24, oc_M_g25, sg_H_patternsInAll_4]
  have sm := of_sum hk
  rw [f_H_patternsInAll, ev_H_patternsInAll_0, sg_H_patternsInAll_0, hy_k_l, li_0, step 0 0 (by omega), step (0 + 1) _ (by omega), step (0 + 1 + 1) _ (by omega), step (0 + 1 + 1 + 1) _ (by omega), fin]
  rw [show 0 + (hy_of 0 PM).length + (hy_of (0 + 1) PM).length + (hy_of (0 + 1 + 1) PM).length + (hy_of (0 + 1 + 1 + 1) PM).length = PM.length from (by show 0 + (hy_of 0 PM).length + (hy_of 1 PM).length + (hy_of 2 PM).length + (hy_of 3 PM).length = PM.length; omega)]
theorem p_H_pattern_f (C : hy_CI w l td n tl x F L T lf rg r PM EM) (htd : td ≤ 40) (hs : hy_isP (hy_rr tl td) = false) (b1 : 1 ≤ w.2.1) (b2 : 6 ≤ w.2.2) : ∃ w1, f_H_pattern [.ref 2] w = some (.inr "java/lang/IllegalArgumentException", hy_tw w1) ∧ hy_CI w1 l td n tl x F L T lf rg r PM EM ∧ (∀ j, 40 ≤ j → j ≤ 60 → w1.1[j]? = w.1[j]?) ∧ w1.2 = w.2 := by
  have hlen := CI_len C
  have C' := C
  obtain ⟨⟨f5, f8, nd, sd, vd, s, m, c, sr, gr, c2, c3, c4, c5, c6, c7, c8, c9, c10, c11, c12, c13, c14, c15⟩, C2, A, A1, A2⟩ := C
  obtain ⟨n', sp', vl', e1, -⟩ := p_D_readPattern (tl := tl) (by omega) c4 c6 (fun _ _ => rfl) htd nd sd vd
  rw [dr_self c10 c11 c12, hs] at e1
  refine ⟨hy_dr w n' sp' vl', ?_, CI_dr C', fun j h1 h2 => dr_ne (by omega), rfl⟩
  have e := e_th (w := hy_dr w n' sp' vl') b1 b2
  rw [f_H_pattern, ev_H_pattern_0]
  simp (disch := omega) only [e_gi, e_gr, e_ob, e_ai, e_ar, e_ln, e_pf, e_pa, wr_eq, wr_ne, wr_wr, Option.map_some, Option.bind_some, hy_bi_s, hy_br_s, hy_bv_s, hy_xi_s, hy_xi_t, hy_xv_s, hy_xv_t, hy_k_l, hy_k_r, ia_ai, ia_pa, ia_ln, oc_a_ar, oc_o_pa, oc_r_ln, n_le_t, n_le_f, n_lt_t, n_lt_f, n_eq_t, n_eq_f, nI_add, pk_mul, n_sub, n_prd, ne_1, hy_b_t, hy_b_f, ↓reduceIte, true_or, or_true, Bool.false_eq_true, or_false, false_or, and_true, true_and, and_false, false_and, li_c, li_0, li_1, li_2, li_3, li_4, li_5, li_6, li_10, li_11, li_16, li_17, li_20, li_40, li_41, li_300, li_400, oc_H_ob, oc_H_g0, oc_H_g1, oc_H_g2, oc_H_g3, oc_H_g4, oc_H_p5, oc_H_g5, oc_N_ob, oc_N_g0, oc_N_p1, oc_N_g1, oc_N_g2, oc_N_p3, oc_N_g3, oc_D_ob, oc_D_g0, oc_D_g1, oc_D_p2, oc_D_g2, oc_G_ob, oc_G_g0, oc_G_g1, oc_G_p2, oc_G_g2, oc_G_p3, oc_G_g3, oc_G_p4, oc_G_g4, oc_L_ob, oc_L_g0, oc_L_g1, oc_L_g2, oc_L_g3, oc_L_g4, oc_L_p5, oc_L_g5, oc_L_p6, oc_L_g6, oc_L_p7, oc_L_g7, oc_A_ob, oc_A_g0, oc_A_p1, oc_A_g1, oc_A_p2, oc_A_g2, oc_A_p0, oc_U_ob, oc_U_g0, oc_U_g1, oc_M_ob, oc_M_p0, oc_M_g0, oc_M_p1, oc_M_g1, oc_M_g2, oc_M_g3, oc_M_g4, oc_M_g5, oc_M_g6, oc_M_g7, oc_M_p8, oc_M_g8, oc_M_g9, oc_M_g10, oc_M_p11, oc_M_g11, oc_M_g12, oc_M_g13, oc_M_p14, oc_M_g14, oc_M_g15, oc_M_g16, oc_M_g17, oc_M_g18, oc_M_p19, oc_M_g19, oc_M_g20, oc_M_g21, oc_M_g22, oc_M_g23, oc_M_p24, oc_M_g24, oc_M_g25, sg_H_pattern_0, c2, c10, e1, e]
theorem p_H_pattern_k (C : hy_CI w l td n tl x F L T lf rg r PM EM) (Q : hy_QI l td n tl x F L T lf rg r PM EM) (hs : hy_isP (hy_rr tl td) = true) (hlen : 60 < w.1.length) (b1 : 4 ≤ w.2.1) (b2 : 1100 ≤ w.2.2) :
    (∀ p, hy_fl (hy_ml l (hy_rr tl td).2.1 0 (hy_rr tl td).1) PM 0 none = some p → ∃ w1, f_H_pattern [.ref 2] w = some (.inl (some (.int (nI (hy_rr tl td).1))), w1) ∧ hy_CI w1 l 0 n tl x F L T lf rg r (PM.set p (l, hy_eP tl td)) EM ∧ (∀ (j : Nat) (d : hy_C), 40 ≤ j → j ≤ 60 → w.1[j]? = some d → w1.1[j]? = some d) ∧ w.2.1 - 4 ≤ w1.2.1 ∧ w.2.2 - 1100 ≤ w1.2.2) ∧
    (hy_fl (hy_ml l (hy_rr tl td).2.1 0 (hy_rr tl td).1) PM 0 none = none → PM.length = 300 → ∃ w1, f_H_pattern [.ref 2] w = some (.inr "java/lang/IllegalStateException", hy_tw w1) ∧ hy_CI w1 l td n tl x F L T lf rg r PM EM ∧ (∀ j, 40 ≤ j → j ≤ 60 → w1.1[j]? = w.1[j]?) ∧ w1.2 = w.2) ∧
    (hy_fl (hy_ml l (hy_rr tl td).2.1 0 (hy_rr tl td).1) PM 0 none = none → PM.length < 300 → ∃ w1, f_H_pattern [.ref 2] w = some (.inl (some (.int (nI (hy_rr tl td).1))), w1) ∧ hy_CI w1 l 0 n tl x F L T lf rg r (PM ++ [(l, hy_eP tl td)]) EM ∧ (∀ (j : Nat) (d : hy_C), 40 ≤ j → j ≤ 60 → w.1[j]? = some d → w1.1[j]? = some d) ∧ w.2.1 - 4 ≤ w1.2.1 ∧ w.2.2 - 1100 ≤ w1.2.2) := by
  have C' := C
  obtain ⟨⟨f5, f8, nd, sd, vd, s, m, c, sr, gr, c2, c3, c4, c5, c6, c7, c8, c9, c10, c11, c12, c13, c14, c15⟩, C2, A, A1, A2⟩ := C
  obtain ⟨ql, qt, qn, qr, qv, qp, qe, qop, qoe, qup, que⟩ := Q
  have hle := rr_le (tl := tl) td
  have h1le := isP_le hs
  obtain ⟨n', sp', vl', e1, e2⟩ := p_D_readPattern (tl := tl) (by omega) c4 c6 (fun _ _ => rfl) qt nd sd vd
  obtain ⟨rfl, hag⟩ := e2 hs
  rw [dr_self c10 c11 c12, hs] at e1
  have CD : hy_CI (hy_dr w (hy_rr tl td).1 sp' vl') l td n tl x F L T lf rg r PM EM := CI_dr C'
  have eA := p_H_patternsInAll CD qp (fun e he => (qop e he).2.2.2.1)
  have C3 := CD
  obtain ⟨D1, D2, B, B1, B2⟩ := CD
  have R := B1 _ (lc_p ql)
  rw [qf_p] at R
  have hfd : hy_fd (hy_sm sp' 0 (hy_rr tl td).1) (hy_of l PM) 0 = hy_fd (hy_sm (hy_rr tl td).2.1 0 (hy_rr tl td).1) (hy_of l PM) 0 := fd_ext fun a _ => sm_to hag.1 a
  have k2 : (hy_dr w (hy_rr tl td).1 sp' vl').1[2]? = some (oc_H l) := (dr_ne (by omega)).trans c2
  have k3 : (hy_dr w (hy_rr tl td).1 sp' vl').1[3]? = some oc_a := (dr_ne (by omega)).trans c3
  have k4 : (hy_dr w (hy_rr tl td).1 sp' vl').1[4]? = some (oc_N 6 5 (-nI 10) td) := (dr_ne (by omega)).trans c4
  have d1 : (hy_dr w (hy_rr tl td).1 sp' vl').1[16 + 6 * l]? = some (oc_L l (r l) (lf l) (rg l)) := (dr_ne (by omega)).trans (C2 l ql).1
  have q1 : (hy_eP tl td).1.length = (hy_rr tl td).1 := tk_len
  have q2 : (hy_eP tl td).2.length = (hy_rr tl td).1 + 1 := tk_len
  have q3 : hy_to (hy_rr tl td).1 sp' (hy_g (hy_eP tl td).1) := fun k hk => (hag.1 k hk).trans (tk_g hk).symm
  have q4 : hy_to ((hy_rr tl td).1 + 1) vl' (hy_g (hy_eP tl td).2) := fun k hk => (hag.2 k hk).trans (tk_g hk).symm
  have hln : 60 < (hy_dr w (hy_rr tl td).1 sp' vl').1.length := by rw [dr_len]; exact hlen
  have hof := of_len (l := l) (M := PM)
  -- the kept world
  have fin : ∀ (w1 : hy_W) (ar' : Nat) (PM' EM' : List (Nat × hy_U)), hy_RL w1 (20 + 6 * l) ar' (hy_qf PM' EM' (20 + 6 * l)) → 60 < ar' → (ar' = B (20 + 6 * l) ∨ (hy_dr w (hy_rr tl td).1 sp' vl').1.length ≤ ar') → w1.1[4]? = some (oc_N 6 5 (-nI 10) 0) → (∀ (j : Nat) (d : hy_C), j ≠ 20 + 6 * l → j ≠ ar' → j ≠ 4 → (hy_dr w (hy_rr tl td).1 sp' vl').1[j]? = some d → w1.1[j]? = some d) → (∀ d, hy_lc d → d ≠ 20 + 6 * l → hy_qf PM' EM' d = hy_qf PM EM d) → hy_CI w1 l 0 n tl x F L T lf rg r PM' EM' ∧ ∀ (j : Nat) (d : hy_C), 40 ≤ j → j ≤ 60 → w.1[j]? = some d → w1.1[j]? = some d := by
    intro w1 ar' PM' EM' g1 g2 g3 g4 g5 g6
    refine ⟨⟨?_, ?_, LL_up ⟨B1, B2⟩ (lc_p ql) g1 g2 g3 g5 g6⟩, fun j d h1 h2 h => g5 j d (by omega) (by omega) (by omega) ((dr_ne (by omega)).trans h)⟩
    · obtain ⟨f5, f8, nd, sd, vd, s, m, c, sr, gr, c2, c3, c4, c5, c6, c7, c8, c9, c10, c11, c12, c13, c14, c15⟩ := D1
      exact ⟨f5, f8, nd, sd, vd, s, m, c, sr, gr, g5 _ _ (by omega) (by omega) (by omega) c2, g5 _ _ (by omega) (by omega) (by omega) c3, g4, g5 _ _ (by omega) (by omega) (by omega) c5, g5 _ _ (by omega) (by omega) (by omega) c6, g5 _ _ (by omega) (by omega) (by omega) c7, g5 _ _ (by omega) (by omega) (by omega) c8, g5 _ _ (by omega) (by omega) (by omega) c9, g5 _ _ (by omega) (by omega) (by omega) c10, g5 _ _ (by omega) (by omega) (by omega) c11, g5 _ _ (by omega) (by omega) (by omega) c12, g5 _ _ (by omega) (by omega) (by omega) c13, g5 _ _ (by omega) (by omega) (by omega) c14, g5 _ _ (by omega) (by omega) (by omega) c15⟩
    · exact A2_fr D2 fun j d h1 h2 h3 h4 h => g5 j d (by omega) (by omega) (by omega) h
  have go : ∀ (fb : Nat) (o : hy_O), (fb = 0 ∧ PM.length < 300 ∨ fb = 1 ∧ PM.length = 300) → f_H_keepDraft [.ref 2, .ref (20 + 6 * l), .int (nI fb)] (hy_dr w (hy_rr tl td).1 sp' vl') = some o → (∀ v w1, o = (.inl (some (.int v)), w1) → f_H_pattern [.ref 2] w = some (.inl (some (.int v)), w1)) ∧ ∀ E w1, o = (.inr E, w1) → f_H_pattern [.ref 2] w = some (.inr E, w1) := by
    intro fb o hfb hk
    constructor
    · rintro v w1 rfl
      rw [f_H_pattern, ev_H_pattern_0]
      rcases hfb with ⟨rfl, hf⟩ | ⟨rfl, hf⟩
      · simp (disch := omega) only [e_gi, e_gr, e_ob, e_ai, e_ar, e_ln, e_pf, e_pa, wr_eq, wr_ne, wr_wr, Option.map_some, Option.bind_some, hy_bi_s, hy_br_s, hy_bv_s, hy_xi_s, hy_xi_t, hy_xv_s, hy_xv_t, hy_k_l, hy_k_r, ia_ai, ia_pa, ia_ln, oc_a_ar, oc_o_pa, oc_r_ln, n_le_t, n_le_f, n_lt_t, n_lt_f, n_eq_t, n_eq_f, nI_add, pk_mul, n_sub, n_prd, ne_1, hy_b_t, hy_b_f, ↓reduceIte, true_or, or_true, Bool.false_eq_true, or_false, false_or, and_true, true_and, and_false, false_and, li_c, li_0, li_1, li_2, li_3, li_4, li_5, li_6, li_10, li_11, li_16, li_17, li_20, li_40, li_41, li_300, li_400, oc_H_ob, oc_H_g0, oc_H_g1, oc_H_g2, oc_H_g3, oc_H_g4, oc_H_p5, oc_H_g5, oc_N_ob, oc_N_g0, oc_N_p1, oc_N_g1, oc_N_g2, oc_N_p3, oc_N_g3, oc_D_ob, oc_D_g0, oc_D_g1, oc_D_p2, oc_D_g2, oc_G_ob, oc_G_g0, oc_G_g1, oc_G_p2, oc_G_g2, oc_G_p3, oc_G_g3, oc_G_p4, oc_G_g4, oc_L_ob, oc_L_g0, oc_L_g1, oc_L_g2, oc_L_g3, oc_L_g4, oc_L_p5, oc_L_g5, oc_L_p6, oc_L_g6, oc_L_p7, oc_L_g7, oc_A_ob, oc_A_g0, oc_A_p1, oc_A_g1, oc_A_p2, oc_A_g2, oc_A_p0, oc_U_ob, oc_U_g0, oc_U_g1, oc_M_ob, oc_M_p0, oc_M_g0, oc_M_p1, oc_M_g1, oc_M_g2, oc_M_g3, oc_M_g4, oc_M_g5, oc_M_g6, oc_M_g7, oc_M_p8, oc_M_g8, oc_M_g9, oc_M_g10, oc_M_p11, oc_M_g11, oc_M_g12, oc_M_g13, oc_M_p14, oc_M_g14, oc_M_g15, oc_M_g16, oc_M_g17, oc_M_g18, oc_M_p19, oc_M_g19, oc_M_g20, oc_M_g21, oc_M_g22, oc_M_g23, oc_M_p24, oc_M_g24, oc_M_g25, sg_H_pattern_0, c2, c10, e1, k2, k3, d1, eA, ev_H_pattern_52, sg_H_pattern_52, hk]
      · simp (disch := omega) only [e_gi, e_gr, e_ob, e_ai, e_ar, e_ln, e_pf, e_pa, wr_eq, wr_ne, wr_wr, Option.map_some, Option.bind_some, hy_bi_s, hy_br_s, hy_bv_s, hy_xi_s, hy_xi_t, hy_xv_s, hy_xv_t, hy_k_l, hy_k_r, ia_ai, ia_pa, ia_ln, oc_a_ar, oc_o_pa, oc_r_ln, n_le_t, n_le_f, n_lt_t, n_lt_f, n_eq_t, n_eq_f, nI_add, pk_mul, n_sub, n_prd, ne_1, hy_b_t, hy_b_f, ↓reduceIte, true_or, or_true, Bool.false_eq_true, or_false, false_or, and_true, true_and, and_false, false_and, li_c, li_0, li_1, li_2, li_3, li_4, li_5, li_6, li_10, li_11, li_16, li_17, li_20, li_40, li_41, li_300, li_400, oc_H_ob, oc_H_g0, oc_H_g1, oc_H_g2, oc_H_g3, oc_H_g4, oc_H_p5, oc_H_g5, oc_N_ob, oc_N_g0, oc_N_p1, oc_N_g1, oc_N_g2, oc_N_p3, oc_N_g3, oc_D_ob, oc_D_g0, oc_D_g1, oc_D_p2, oc_D_g2, oc_G_ob, oc_G_g0, oc_G_g1, oc_G_p2, oc_G_g2, oc_G_p3, oc_G_g3, oc_G_p4, oc_G_g4, oc_L_ob, oc_L_g0, oc_L_g1, oc_L_g2, oc_L_g3, oc_L_g4, oc_L_p5, oc_L_g5, oc_L_p6, oc_L_g6, oc_L_p7, oc_L_g7, oc_A_ob, oc_A_g0, oc_A_p1, oc_A_g1, oc_A_p2, oc_A_g2, oc_A_p0, oc_U_ob, oc_U_g0, oc_U_g1, oc_M_ob, oc_M_p0, oc_M_g0, oc_M_p1, oc_M_g1, oc_M_g2, oc_M_g3, oc_M_g4, oc_M_g5, oc_M_g6, oc_M_g7, oc_M_p8, oc_M_g8, oc_M_g9, oc_M_g10, oc_M_p11, oc_M_g11, oc_M_g12, oc_M_g13, oc_M_p14, oc_M_g14, oc_M_g15, oc_M_g16, oc_M_g17, oc_M_g18, oc_M_p19, oc_M_g19, oc_M_g20, oc_M_g21, oc_M_g22, oc_M_g23, oc_M_p24, oc_M_g24, oc_M_g25, sg_H_pattern_0, c2, c10, e1, k2, k3, d1, eA, ev_H_pattern_52, sg_H_pattern_52, hk]
    · rintro E w1 rfl
      rw [f_H_pattern, ev_H_pattern_0]
      rcases hfb with ⟨rfl, hf⟩ | ⟨rfl, hf⟩
      · simp (disch := omega) only [e_gi, e_gr, e_ob, e_ai, e_ar, e_ln, e_pf, e_pa, wr_eq, wr_ne, wr_wr, Option.map_some, Option.bind_some, hy_bi_s, hy_br_s, hy_bv_s, hy_xi_s, hy_xi_t, hy_xv_s, hy_xv_t, hy_k_l, hy_k_r, ia_ai, ia_pa, ia_ln, oc_a_ar, oc_o_pa, oc_r_ln, n_le_t, n_le_f, n_lt_t, n_lt_f, n_eq_t, n_eq_f, nI_add, pk_mul, n_sub, n_prd, ne_1, hy_b_t, hy_b_f, ↓reduceIte, true_or, or_true, Bool.false_eq_true, or_false, false_or, and_true, true_and, and_false, false_and, li_c, li_0, li_1, li_2, li_3, li_4, li_5, li_6, li_10, li_11, li_16, li_17, li_20, li_40, li_41, li_300, li_400, oc_H_ob, oc_H_g0, oc_H_g1, oc_H_g2, oc_H_g3, oc_H_g4, oc_H_p5, oc_H_g5, oc_N_ob, oc_N_g0, oc_N_p1, oc_N_g1, oc_N_g2, oc_N_p3, oc_N_g3, oc_D_ob, oc_D_g0, oc_D_g1, oc_D_p2, oc_D_g2, oc_G_ob, oc_G_g0, oc_G_g1, oc_G_p2, oc_G_g2, oc_G_p3, oc_G_g3, oc_G_p4, oc_G_g4, oc_L_ob, oc_L_g0, oc_L_g1, oc_L_g2, oc_L_g3, oc_L_g4, oc_L_p5, oc_L_g5, oc_L_p6, oc_L_g6, oc_L_p7, oc_L_g7, oc_A_ob, oc_A_g0, oc_A_p1, oc_A_g1, oc_A_p2, oc_A_g2, oc_A_p0, oc_U_ob, oc_U_g0, oc_U_g1, oc_M_ob, oc_M_p0, oc_M_g0, oc_M_p1, oc_M_g1, oc_M_g2, oc_M_g3, oc_M_g4, oc_M_g5, oc_M_g6, oc_M_g7, oc_M_p8, oc_M_g8, oc_M_g9, oc_M_g10, oc_M_p11, oc_M_g11, oc_M_g12, oc_M_g13, oc_M_p14, oc_M_g14, oc_M_g15, oc_M_g16, oc_M_g17, oc_M_g18, oc_M_p19, oc_M_g19, oc_M_g20, oc_M_g21, oc_M_g22, oc_M_g23, oc_M_p24, oc_M_g24, oc_M_g25, sg_H_pattern_0, c2, c10, e1, k2, k3, d1, eA, ev_H_pattern_52, sg_H_pattern_52, hk]
      · simp (disch := omega) only [e_gi, e_gr, e_ob, e_ai, e_ar, e_ln, e_pf, e_pa, wr_eq, wr_ne, wr_wr, Option.map_some, Option.bind_some, hy_bi_s, hy_br_s, hy_bv_s, hy_xi_s, hy_xi_t, hy_xv_s, hy_xv_t, hy_k_l, hy_k_r, ia_ai, ia_pa, ia_ln, oc_a_ar, oc_o_pa, oc_r_ln, n_le_t, n_le_f, n_lt_t, n_lt_f, n_eq_t, n_eq_f, nI_add, pk_mul, n_sub, n_prd, ne_1, hy_b_t, hy_b_f, ↓reduceIte, true_or, or_true, Bool.false_eq_true, or_false, false_or, and_true, true_and, and_false, false_and, li_c, li_0, li_1, li_2, li_3, li_4, li_5, li_6, li_10, li_11, li_16, li_17, li_20, li_40, li_41, li_300, li_400, oc_H_ob, oc_H_g0, oc_H_g1, oc_H_g2, oc_H_g3, oc_H_g4, oc_H_p5, oc_H_g5, oc_N_ob, oc_N_g0, oc_N_p1, oc_N_g1, oc_N_g2, oc_N_p3, oc_N_g3, oc_D_ob, oc_D_g0, oc_D_g1, oc_D_p2, oc_D_g2, oc_G_ob, oc_G_g0, oc_G_g1, oc_G_p2, oc_G_g2, oc_G_p3, oc_G_g3, oc_G_p4, oc_G_g4, oc_L_ob, oc_L_g0, oc_L_g1, oc_L_g2, oc_L_g3, oc_L_g4, oc_L_p5, oc_L_g5, oc_L_p6, oc_L_g6, oc_L_p7, oc_L_g7, oc_A_ob, oc_A_g0, oc_A_p1, oc_A_g1, oc_A_p2, oc_A_g2, oc_A_p0, oc_U_ob, oc_U_g0, oc_U_g1, oc_M_ob, oc_M_p0, oc_M_g0, oc_M_p1, oc_M_g1, oc_M_g2, oc_M_g3, oc_M_g4, oc_M_g5, oc_M_g6, oc_M_g7, oc_M_p8, oc_M_g8, oc_M_g9, oc_M_g10, oc_M_p11, oc_M_g11, oc_M_g12, oc_M_g13, oc_M_p14, oc_M_g14, oc_M_g15, oc_M_g16, oc_M_g17, oc_M_g18, oc_M_p19, oc_M_g19, oc_M_g20, oc_M_g21, oc_M_g22, oc_M_g23, oc_M_p24, oc_M_g24, oc_M_g25, sg_H_pattern_0, c2, c10, e1, k2, k3, d1, eA, ev_H_pattern_52, sg_H_pattern_52, hk]
  refine ⟨fun p hp => ?_, fun hn hf => ?_, fun hn hf => ?_⟩
  · obtain ⟨y, i, y1, y2, y3, y4, y5, y6⟩ := rp_some qup hp
    have hfb : ∃ fb : Nat, fb = 0 ∧ PM.length < 300 ∨ fb = 1 ∧ PM.length = 300 := by
      by_cases h : PM.length < 300
      · exact ⟨0, Or.inl ⟨rfl, h⟩⟩
      · exact ⟨1, Or.inr ⟨rfl, by omega⟩⟩
    obtain ⟨fb, hfb⟩ := hfb
    obtain ⟨w1, s1, s2, s3, s4, s5, s6, s7, s8⟩ := p_H_keepDraft_s k2 k4 (dr_10 (by omega)) (dr_11 (by omega)) (dr_12 (by omega)) R (by omega) (by omega) hln b1 b2 q1 q2 q3 q4 (hfd.trans y5) (nI fb)
    rw [← (y6 (hy_eP tl td)).1] at s2
    obtain ⟨f1, f2⟩ := fin w1 (B (20 + 6 * l)) (PM.set p (l, hy_eP tl td)) EM (by rw [qf_p]; exact s2) s3 (Or.inl rfl) s5 s6 (fun d hd hdc => by
      obtain ⟨k, hk, q | q⟩ := lc_k hd
      · subst q; rw [qf_p, qf_p]; exact (y6 _).2 k (by omega)
      · subst q; rw [qf_e, qf_e])
    exact ⟨w1, (go fb _ hfb s1).1 _ _ rfl, f1, f2, s7, s8⟩
  · have s1 := p_H_keepDraft_t k2 (dr_10 (by omega)) (dr_11 (by omega)) R (by omega) (by omega) (Nat.le_trans (by omega) b1) (Nat.le_trans (by omega) b2) (hfd.trans (rp_none hn))
    exact ⟨_, (go 1 _ (Or.inr ⟨rfl, hf⟩) s1).2 _ _ rfl, C3, fun j h1 h2 => dr_ne (by omega), rfl⟩
  · obtain ⟨w1, ar', s1, s2, s2', s3, s4, s5, s6, s7, s8⟩ := p_H_keepDraft_n k2 k4 (dr_10 (by omega)) (dr_11 (by omega)) (dr_12 (by omega)) R (by omega) (by omega) (by omega) hln b1 b2 q1 q2 q3 q4 (hfd.trans (rp_none hn))
    have eq1 : hy_of l (PM ++ [(l, hy_eP tl td)]) = hy_of l PM ++ [hy_eP tl td] := by rw [of_app, of_t (l := l) (e := (l, hy_eP tl td)) rfl]; rfl
    rw [← eq1] at s2
    obtain ⟨f1, f2⟩ := fin w1 ar' (PM ++ [(l, hy_eP tl td)]) EM (by rw [qf_p]; exact s2) s3 s2' s5 s6 (fun d hd hdc => by
      obtain ⟨k, hk, q | q⟩ := lc_k hd
      · subst q; rw [qf_p, qf_p]; rw [of_app, of_f (fun e : l = k => hdc (by omega)), of_nil, List.append_nil]
      · subst q; rw [qf_e, qf_e])
    exact ⟨w1, (go 0 _ (Or.inl ⟨rfl, hf⟩) s1).1 _ _ rfl, f1, f2, s7, s8⟩
end KPS
