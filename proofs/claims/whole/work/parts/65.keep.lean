/-! KEEPING: rules added, replaced, forgotten -/
theorem b_1100 {a b c : Nat} (h1 : a - 100 ≤ b) (h2 : b - 1000 ≤ c) : a - 1100 ≤ c := by
  have e : a - 1100 = a - 100 - 1000 := (Nat.sub_sub a 100 1000).symm
  rw [e]
  exact Nat.le_trans (Nat.sub_le_sub_right h1 1000) h2
theorem RL_len {w : hy_W} {k ar : Nat} {L : List hy_U} (R : hy_RL w k ar L) : L.length ≤ 1000 := by
  obtain ⟨c, es, a1, a2, a3, a4, -⟩ := R
  omega
/-- the last steps of adding -/
theorem p_A_add11 {w w2 : hy_W} {k r arr n : Nat} {c : Int32} {es es2 : List Value} {L : List hy_U} {p : hy_U} (hk : 15 < k ∧ k < 40) (h1 : w2.1[k]? = some (oc_A arr n c)) (h2 : w2.1[arr]? = some (oc_r es2)) (hn : n < es2.length) (hl : es2.length ≤ 1000) (ha : 60 < arr) (hr : hy_nr w2 es2) (he : ∀ i, i < n → es2[i]? = es[i]?) (K : hy_kp w w2) (hL : L.length = n) (hLe : ∀ (i : Nat) (q : hy_U), L[i]? = some q → ∃ r : Nat, es[i]? = some (Value.ref r) ∧ hy_RU w r q) (U : hy_RU w r p) : ∃ w', hy_fx nx_A_add3 (11, [.ref k, .ref r, .ref arr, .int (nI n)], w2) = some (.inl none, w') ∧ hy_RL w' k arr (L ++ [p]) ∧ w'.1.length = w2.1.length ∧ w'.2 = w2.2 ∧ ∀ j, j ≠ k → j ≠ arr → w'.1[j]? = w2.1[j]? := by
  have U2 := RU_kp U K
  have U2' := U2
  obtain ⟨a, b, u1, u2, u3, u4, -⟩ := U2'
  have hra : r ≠ arr := fun e => by rw [e, h2] at u4; cases u4
  have hkw : hy_kp w2 (hy_wr (hy_wr w2 arr (oc_r (es2.set n (.ref r)))) k (oc_A arr (n + 1) c)) := by
    intro j d hj hd hno
    rw [wr_ne (by omega), wr_ne (fun e => by rw [← e, h2] at hd; exact hno _ (Option.some.inj hd).symm)]
    exact hd
  refine ⟨hy_wr (hy_wr w2 arr (oc_r (es2.set n (.ref r)))) k (oc_A arr (n + 1) c), ?_, ?_, by rw [wr_len, wr_len], rfl, fun j h3 h4 => by rw [wr_ne (fun e => h3 e.symm), wr_ne (fun e => h4 e.symm)]⟩
  · rw [ev_A_add3_11]
    simp (disch := omega) only [e_gi, e_gr, e_ob, e_ai, e_ar, e_ln, e_pf, e_pa, wr_eq, wr_ne, wr_wr, Option.map_some, Option.bind_some, hy_bi_s, hy_br_s, hy_bv_s, hy_xi_s, hy_xi_t, hy_xv_s, hy_xv_t, hy_k_l, hy_k_r, ia_ai, ia_pa, ia_ln, oc_a_ar, oc_o_pa, oc_r_ln, n_le_t, n_le_f, n_lt_t, n_lt_f, n_eq_t, n_eq_f, nI_add, pk_mul, n_sub, n_prd, ne_1, hy_b_t, hy_b_f, ↓reduceIte, true_or, or_true, Bool.false_eq_true, or_false, false_or, and_true, true_and, and_false, false_and, li_c, li_0, li_1, li_2, li_3, li_4, li_5, li_6, li_10, li_11, li_16, li_17, li_20, li_40, li_41, li_300, li_400, oc_H_ob, oc_H_g0, oc_H_g1, oc_H_g2, oc_H_g3, oc_H_g4, oc_H_p5, oc_H_g5, oc_N_ob, oc_N_g0, oc_N_p1, oc_N_g1, oc_N_g2, oc_N_p3, oc_N_g3, oc_D_ob, oc_D_g0, oc_D_g1, oc_D_p2, oc_D_g2, oc_G_ob, oc_G_g0, oc_G_g1, oc_G_p2, oc_G_g2, oc_G_p3, oc_G_g3, oc_G_p4, oc_G_g4, oc_L_ob, oc_L_g0, oc_L_g1, oc_L_g2, oc_L_g3, oc_L_g4, oc_L_p5, oc_L_g5, oc_L_p6, oc_L_g6, oc_L_p7, oc_L_g7, oc_A_ob, oc_A_g0, oc_A_p1, oc_A_g1, oc_A_p2, oc_A_g2, oc_A_p0, oc_U_ob, oc_U_g0, oc_U_g1, oc_M_ob, oc_M_p0, oc_M_g0, oc_M_p1, oc_M_g1, oc_M_g2, oc_M_g3, oc_M_g4, oc_M_g5, oc_M_g6, oc_M_g7, oc_M_p8, oc_M_g8, oc_M_g9, oc_M_g10, oc_M_p11, oc_M_g11, oc_M_g12, oc_M_g13, oc_M_p14, oc_M_g14, oc_M_g15, oc_M_g16, oc_M_g17, oc_M_g18, oc_M_p19, oc_M_g19, oc_M_g20, oc_M_g21, oc_M_g22, oc_M_g23, oc_M_p24, oc_M_g24, oc_M_g25, sg_A_add3_11, u4, h2, oc_r_pa, h1]
  · refine ⟨c, es2.set n (.ref r), ?_, ?_, ?_, ?_, Or.inr ha, ?_, ?_⟩
    · rw [wr_eq, wr_ne (by omega), h1, List.length_append, hL]; rfl
    · rw [wr_ne (by omega), wr_eq, h2]; rfl
    · rw [List.length_append, List.length_set, hL]; exact hn
    · rw [List.length_set]; exact hl
    · intro v hv
      rcases List.mem_or_eq_of_mem_set hv with hv | rfl
      · rcases hr v hv with h | ⟨r', a', b', e1, e2, e3⟩
        · exact Or.inl h
        · exact Or.inr ⟨r', a', b', e1, e2, hkw _ _ e2 e3 oc_U_nr⟩
      · exact Or.inr ⟨r, a, b, rfl, u1, hkw _ _ u1 u4 oc_U_nr⟩
    · intro i q hq
      by_cases hi : i < n
      · rw [List.getElem?_append_left (by omega)] at hq
        obtain ⟨r', e1, e2⟩ := hLe i q hq
        refine ⟨r', ?_, RU_kp (RU_kp e2 K) hkw⟩
        rw [List.getElem?_set_ne (by omega), he i hi]
        exact e1
      · have hin : i = n := by
          have := (List.getElem?_eq_some_iff.mp hq).1
          rw [List.length_append, hL] at this
          simp at this
          omega
        rw [hin, ← hL, List.getElem?_append_right (Nat.le_refl _), Nat.sub_self] at hq
        cases hq
        refine ⟨r, ?_, RU_kp U2 hkw⟩
        rw [hin, List.getElem?_set_self hn]
theorem p_A_add1 {w : hy_W} {k ar r : Nat} {L : List hy_U} {p : hy_U} (R : hy_RL w k ar L) (hk : 15 < k ∧ k < 40) (U : hy_RU w r p) (hL : L.length ≤ 400) (hw : 60 < w.1.length) (b1 : 1 ≤ w.2.1) (b2 : 1000 ≤ w.2.2) : ∃ w' ar', f_A_add1 [.ref k, .ref r] w = some (.inl (some (.int (nI 1))), w') ∧ hy_RL w' k ar' (L ++ [p]) ∧ (ar' = ar ∨ ar' = w.1.length) ∧ 60 < ar' ∧ w.1.length ≤ w'.1.length ∧ (∀ (j : Nat) (d : hy_C), j ≠ k → j ≠ ar' → w.1[j]? = some d → w'.1[j]? = some d) ∧ w.2.1 - 1 ≤ w'.2.1 ∧ w.2.2 - 1000 ≤ w'.2.2 := by
  obtain ⟨c, es, a1, a2, a3, a4, a5, a6, a7⟩ := R
  have k1 : (hy_wr w k (oc_A ar L.length (c + nI 1))).1[k]? = some (oc_A ar L.length (c + nI 1)) := by rw [wr_eq, a1]; rfl
  have k2 : (hy_wr w k (oc_A ar L.length (c + nI 1))).1[ar]? = some (oc_r es) := by rw [wr_ne (by omega)]; exact a2
  have K1 : hy_kp w (hy_wr w k (oc_A ar L.length (c + nI 1))) := fun j d hj hd _ => by rw [wr_ne (by omega)]; exact hd
  have nr1 : hy_nr (hy_wr w k (oc_A ar L.length (c + nI 1))) es := by
    intro v hv
    rcases a6 v hv with h | ⟨r', a', b', e1, e2, e3⟩
    · exact Or.inl h
    · exact Or.inr ⟨r', a', b', e1, e2, K1 _ _ e2 e3 oc_U_nr⟩
  by_cases q : L.length = es.length
  · obtain ⟨w2, es2, g1, g2, g3, g4, g5, g6, g7, g8, g9, g10, g11⟩ := p_A_grow0 k1 hk.1 k2 a5 q nr1 hL b1 b2
    rw [wr_len] at g1 g2 g4 g5
    have K2 : hy_kp w w2 := fun j d hj hd hno => g3 j d (by omega) (K1 j d hj hd hno)
    obtain ⟨w', f1, f2, f3, f4, f5⟩ := p_A_add11 (w := w) (r := r) (es := es) hk g4 g5 g6 g7 (by omega) g9 g8 K2 rfl a7 U
    refine ⟨w', w.1.length, ?_, f2, Or.inr rfl, by omega, by omega, fun j d h1 h2 hd => ?_, by rw [f4]; exact g10, by rw [f4]; exact g11⟩
    · have e : f_A_add3 [.ref k, .ref r, .ref ar, .int (nI L.length)] (hy_wr w k (oc_A ar L.length (c + nI 1))) = some (.inl none, w') := by
        have z : ar ≠ 1 := by omega
        have z' : (ar ≠ 1) = True := eq_true z
        rw [f_A_add3, ev_A_add3_0]
        simp (disch := omega) only [e_gi, e_gr, e_ob, e_ai, e_ar, e_ln, e_pf, e_pa, wr_eq, wr_ne, wr_wr, Option.map_some, Option.bind_some, hy_bi_s, hy_br_s, hy_bv_s, hy_xi_s, hy_xi_t, hy_xv_s, hy_xv_t, hy_k_l, hy_k_r, ia_ai, ia_pa, ia_ln, oc_a_ar, oc_o_pa, oc_r_ln, n_le_t, n_le_f, n_lt_t, n_lt_f, n_eq_t, n_eq_f, nI_add, pk_mul, n_sub, n_prd, ne_1, hy_b_t, hy_b_f, ↓reduceIte, true_or, or_true, Bool.false_eq_true, or_false, false_or, and_true, true_and, and_false, false_and, li_c, li_0, li_1, li_2, li_3, li_4, li_5, li_6, li_10, li_11, li_16, li_17, li_20, li_40, li_41, li_300, li_400, oc_H_ob, oc_H_g0, oc_H_g1, oc_H_g2, oc_H_g3, oc_H_g4, oc_H_p5, oc_H_g5, oc_N_ob, oc_N_g0, oc_N_p1, oc_N_g1, oc_N_g2, oc_N_p3, oc_N_g3, oc_D_ob, oc_D_g0, oc_D_g1, oc_D_p2, oc_D_g2, oc_G_ob, oc_G_g0, oc_G_g1, oc_G_p2, oc_G_g2, oc_G_p3, oc_G_g3, oc_G_p4, oc_G_g4, oc_L_ob, oc_L_g0, oc_L_g1, oc_L_g2, oc_L_g3, oc_L_g4, oc_L_p5, oc_L_g5, oc_L_p6, oc_L_g6, oc_L_p7, oc_L_g7, oc_A_ob, oc_A_g0, oc_A_p1, oc_A_g1, oc_A_p2, oc_A_g2, oc_A_p0, oc_U_ob, oc_U_g0, oc_U_g1, oc_M_ob, oc_M_p0, oc_M_g0, oc_M_p1, oc_M_g1, oc_M_g2, oc_M_g3, oc_M_g4, oc_M_g5, oc_M_g6, oc_M_g7, oc_M_p8, oc_M_g8, oc_M_g9, oc_M_g10, oc_M_p11, oc_M_g11, oc_M_g12, oc_M_g13, oc_M_p14, oc_M_g14, oc_M_g15, oc_M_g16, oc_M_g17, oc_M_g18, oc_M_p19, oc_M_g19, oc_M_g20, oc_M_g21, oc_M_g22, oc_M_g23, oc_M_p24, oc_M_g24, oc_M_g25, sg_A_add3_0, z', k2, k1, g1, f1]
      rw [f_A_add1, ev_A_add1_0]
      simp (disch := omega) only [e_gi, e_gr, e_ob, e_ai, e_ar, e_ln, e_pf, e_pa, wr_eq, wr_ne, wr_wr, Option.map_some, Option.bind_some, hy_bi_s, hy_br_s, hy_bv_s, hy_xi_s, hy_xi_t, hy_xv_s, hy_xv_t, hy_k_l, hy_k_r, ia_ai, ia_pa, ia_ln, oc_a_ar, oc_o_pa, oc_r_ln, n_le_t, n_le_f, n_lt_t, n_lt_f, n_eq_t, n_eq_f, nI_add, pk_mul, n_sub, n_prd, ne_1, hy_b_t, hy_b_f, ↓reduceIte, true_or, or_true, Bool.false_eq_true, or_false, false_or, and_true, true_and, and_false, false_and, li_c, li_0, li_1, li_2, li_3, li_4, li_5, li_6, li_10, li_11, li_16, li_17, li_20, li_40, li_41, li_300, li_400, oc_H_ob, oc_H_g0, oc_H_g1, oc_H_g2, oc_H_g3, oc_H_g4, oc_H_p5, oc_H_g5, oc_N_ob, oc_N_g0, oc_N_p1, oc_N_g1, oc_N_g2, oc_N_p3, oc_N_g3, oc_D_ob, oc_D_g0, oc_D_g1, oc_D_p2, oc_D_g2, oc_G_ob, oc_G_g0, oc_G_g1, oc_G_p2, oc_G_g2, oc_G_p3, oc_G_g3, oc_G_p4, oc_G_g4, oc_L_ob, oc_L_g0, oc_L_g1, oc_L_g2, oc_L_g3, oc_L_g4, oc_L_p5, oc_L_g5, oc_L_p6, oc_L_g6, oc_L_p7, oc_L_g7, oc_A_ob, oc_A_g0, oc_A_p1, oc_A_g1, oc_A_p2, oc_A_g2, oc_A_p0, oc_U_ob, oc_U_g0, oc_U_g1, oc_M_ob, oc_M_p0, oc_M_g0, oc_M_p1, oc_M_g1, oc_M_g2, oc_M_g3, oc_M_g4, oc_M_g5, oc_M_g6, oc_M_g7, oc_M_p8, oc_M_g8, oc_M_g9, oc_M_g10, oc_M_p11, oc_M_g11, oc_M_g12, oc_M_g13, oc_M_p14, oc_M_g14, oc_M_g15, oc_M_g16, oc_M_g17, oc_M_g18, oc_M_p19, oc_M_g19, oc_M_g20, oc_M_g21, oc_M_g22, oc_M_g23, oc_M_p24, oc_M_g24, oc_M_g25, sg_A_add1_0, a1, e]
    · rw [f5 j h1 h2]
      exact g3 j d h1 (by rw [wr_ne (fun e => h1 e.symm)]; exact hd)
  · have har : 60 < ar := by
      rcases a5 with ⟨-, h⟩ | h
      · rw [h, List.length_nil] at a3 q; omega
      · exact h
    obtain ⟨w', f1, f2, f3, f4, f5⟩ := p_A_add11 (w := w) (r := r) (es := es) hk k1 k2 (by omega) a4 har nr1 (fun _ _ => rfl) K1 rfl a7 U
    rw [wr_len] at f3
    refine ⟨w', ar, ?_, f2, Or.inl rfl, har, by omega, fun j d h1 h2 hd => ?_, by rw [f4, wr_2]; omega, by rw [f4, wr_2]; omega⟩
    · have e : f_A_add3 [.ref k, .ref r, .ref ar, .int (nI L.length)] (hy_wr w k (oc_A ar L.length (c + nI 1))) = some (.inl none, w') := by
        rw [f_A_add3, ev_A_add3_0]
        simp (disch := omega) only [e_gi, e_gr, e_ob, e_ai, e_ar, e_ln, e_pf, e_pa, wr_eq, wr_ne, wr_wr, Option.map_some, Option.bind_some, hy_bi_s, hy_br_s, hy_bv_s, hy_xi_s, hy_xi_t, hy_xv_s, hy_xv_t, hy_k_l, hy_k_r, ia_ai, ia_pa, ia_ln, oc_a_ar, oc_o_pa, oc_r_ln, n_le_t, n_le_f, n_lt_t, n_lt_f, n_eq_t, n_eq_f, nI_add, pk_mul, n_sub, n_prd, ne_1, hy_b_t, hy_b_f, ↓reduceIte, true_or, or_true, Bool.false_eq_true, or_false, false_or, and_true, true_and, and_false, false_and, li_c, li_0, li_1, li_2, li_3, li_4, li_5, li_6, li_10, li_11, li_16, li_17, li_20, li_40, li_41, li_300, li_400, oc_H_ob, oc_H_g0, oc_H_g1, oc_H_g2, oc_H_g3, oc_H_g4, oc_H_p5, oc_H_g5, oc_N_ob, oc_N_g0, oc_N_p1, oc_N_g1, oc_N_g2, oc_N_p3, oc_N_g3, oc_D_ob, oc_D_g0, oc_D_g1, oc_D_p2, oc_D_g2, oc_G_ob, oc_G_g0, oc_G_g1, oc_G_p2, oc_G_g2, oc_G_p3, oc_G_g3, oc_G_p4, oc_G_g4, oc_L_ob, oc_L_g0, oc_L_g1, oc_L_g2, oc_L_g3, oc_L_g4, oc_L_p5, oc_L_g5, oc_L_p6, oc_L_g6, oc_L_p7, oc_L_g7, oc_A_ob, oc_A_g0, oc_A_p1, oc_A_g1, oc_A_p2, oc_A_g2, oc_A_p0, oc_U_ob, oc_U_g0, oc_U_g1, oc_M_ob, oc_M_p0, oc_M_g0, oc_M_p1, oc_M_g1, oc_M_g2, oc_M_g3, oc_M_g4, oc_M_g5, oc_M_g6, oc_M_g7, oc_M_p8, oc_M_g8, oc_M_g9, oc_M_g10, oc_M_p11, oc_M_g11, oc_M_g12, oc_M_g13, oc_M_p14, oc_M_g14, oc_M_g15, oc_M_g16, oc_M_g17, oc_M_g18, oc_M_p19, oc_M_g19, oc_M_g20, oc_M_g21, oc_M_g22, oc_M_g23, oc_M_p24, oc_M_g24, oc_M_g25, sg_A_add3_0, k2, f1]
      rw [f_A_add1, ev_A_add1_0]
      simp (disch := omega) only [e_gi, e_gr, e_ob, e_ai, e_ar, e_ln, e_pf, e_pa, wr_eq, wr_ne, wr_wr, Option.map_some, Option.bind_some, hy_bi_s, hy_br_s, hy_bv_s, hy_xi_s, hy_xi_t, hy_xv_s, hy_xv_t, hy_k_l, hy_k_r, ia_ai, ia_pa, ia_ln, oc_a_ar, oc_o_pa, oc_r_ln, n_le_t, n_le_f, n_lt_t, n_lt_f, n_eq_t, n_eq_f, nI_add, pk_mul, n_sub, n_prd, ne_1, hy_b_t, hy_b_f, ↓reduceIte, true_or, or_true, Bool.false_eq_true, or_false, false_or, and_true, true_and, and_false, false_and, li_c, li_0, li_1, li_2, li_3, li_4, li_5, li_6, li_10, li_11, li_16, li_17, li_20, li_40, li_41, li_300, li_400, oc_H_ob, oc_H_g0, oc_H_g1, oc_H_g2, oc_H_g3, oc_H_g4, oc_H_p5, oc_H_g5, oc_N_ob, oc_N_g0, oc_N_p1, oc_N_g1, oc_N_g2, oc_N_p3, oc_N_g3, oc_D_ob, oc_D_g0, oc_D_g1, oc_D_p2, oc_D_g2, oc_G_ob, oc_G_g0, oc_G_g1, oc_G_p2, oc_G_g2, oc_G_p3, oc_G_g3, oc_G_p4, oc_G_g4, oc_L_ob, oc_L_g0, oc_L_g1, oc_L_g2, oc_L_g3, oc_L_g4, oc_L_p5, oc_L_g5, oc_L_p6, oc_L_g6, oc_L_p7, oc_L_g7, oc_A_ob, oc_A_g0, oc_A_p1, oc_A_g1, oc_A_p2, oc_A_g2, oc_A_p0, oc_U_ob, oc_U_g0, oc_U_g1, oc_M_ob, oc_M_p0, oc_M_g0, oc_M_p1, oc_M_g1, oc_M_g2, oc_M_g3, oc_M_g4, oc_M_g5, oc_M_g6, oc_M_g7, oc_M_p8, oc_M_g8, oc_M_g9, oc_M_g10, oc_M_p11, oc_M_g11, oc_M_g12, oc_M_g13, oc_M_p14, oc_M_g14, oc_M_g15, oc_M_g16, oc_M_g17, oc_M_g18, oc_M_p19, oc_M_g19, oc_M_g20, oc_M_g21, oc_M_g22, oc_M_g23, oc_M_p24, oc_M_g24, oc_M_g25, sg_A_add1_0, a1, e]
    · rw [f5 j h1 h2, wr_ne (fun e => h1 e.symm)]; exact hd
theorem p_A_set {w : hy_W} {k ar r i : Nat} {L : List hy_U} {p : hy_U} (R : hy_RL w k ar L) (hk : 15 < k ∧ k < 40) (U : hy_RU w r p) (hi : i < L.length) : ∃ w' x, f_A_set [.ref k, .int (nI i), .ref r] w = some (.inl (some (.ref x)), w') ∧ hy_RL w' k ar (L.set i p) ∧ 60 < ar ∧ w'.1.length = w.1.length ∧ (∀ j, j ≠ ar → w'.1[j]? = w.1[j]?) ∧ w'.2 = w.2 := by
  have hl := RL_len R
  obtain ⟨c, es, a1, a2, a3, a4, a5, a6, a7⟩ := R
  obtain ⟨x, e2, -⟩ := a7 i L[i] (List.getElem?_eq_getElem hi)
  have har : 60 < ar := by
    rcases a5 with ⟨-, h⟩ | h
    · rw [h] at e2; cases e2
    · exact h
  have U' := U
  obtain ⟨a, b, u1, u2, u3, u4, -⟩ := U'
  have hkw : hy_kp w (hy_wr w ar (oc_r (es.set i (.ref r)))) := by
    intro j d hj hd hno
    rw [wr_ne (fun e => by rw [← e, a2] at hd; exact hno _ (Option.some.inj hd).symm)]
    exact hd
  have e1 := p_J_check2 (w := w) hi hl
  have e3 := p_A_elementData a1 (by omega) a2 (by omega) e2 a4
  refine ⟨hy_wr w ar (oc_r (es.set i (.ref r))), x, ?_, ⟨c, es.set i (.ref r), ?_, ?_, ?_, ?_, Or.inr har, ?_, ?_⟩, har, by rw [wr_len], fun j hj => wr_ne (fun e => hj e.symm), rfl⟩
  · rw [f_A_set, ev_A_set_0]
    simp (disch := omega) only [e_gi, e_gr, e_ob, e_ai, e_ar, e_ln, e_pf, e_pa, wr_eq, wr_ne, wr_wr, Option.map_some, Option.bind_some, hy_bi_s, hy_br_s, hy_bv_s, hy_xi_s, hy_xi_t, hy_xv_s, hy_xv_t, hy_k_l, hy_k_r, ia_ai, ia_pa, ia_ln, oc_a_ar, oc_o_pa, oc_r_ln, n_le_t, n_le_f, n_lt_t, n_lt_f, n_eq_t, n_eq_f, nI_add, pk_mul, n_sub, n_prd, ne_1, hy_b_t, hy_b_f, ↓reduceIte, true_or, or_true, Bool.false_eq_true, or_false, false_or, and_true, true_and, and_false, false_and, li_c, li_0, li_1, li_2, li_3, li_4, li_5, li_6, li_10, li_11, li_16, li_17, li_20, li_40, li_41, li_300, li_400, oc_H_ob, oc_H_g0, oc_H_g1, oc_H_g2, oc_H_g3, oc_H_g4, oc_H_p5, oc_H_g5, oc_N_ob, oc_N_g0, oc_N_p1, oc_N_g1, oc_N_g2, oc_N_p3, oc_N_g3, oc_D_ob, oc_D_g0, oc_D_g1, oc_D_p2, oc_D_g2, oc_G_ob, oc_G_g0, oc_G_g1, oc_G_p2, oc_G_g2, oc_G_p3, oc_G_g3, oc_G_p4, oc_G_g4, oc_L_ob, oc_L_g0, oc_L_g1, oc_L_g2, oc_L_g3, oc_L_g4, oc_L_p5, oc_L_g5, oc_L_p6, oc_L_g6, oc_L_p7, oc_L_g7, oc_A_ob, oc_A_g0, oc_A_p1, oc_A_g1, oc_A_p2, oc_A_g2, oc_A_p0, oc_U_ob, oc_U_g0, oc_U_g1, oc_M_ob, oc_M_p0, oc_M_g0, oc_M_p1, oc_M_g1, oc_M_g2, oc_M_g3, oc_M_g4, oc_M_g5, oc_M_g6, oc_M_g7, oc_M_p8, oc_M_g8, oc_M_g9, oc_M_g10, oc_M_p11, oc_M_g11, oc_M_g12, oc_M_g13, oc_M_p14, oc_M_g14, oc_M_g15, oc_M_g16, oc_M_g17, oc_M_g18, oc_M_p19, oc_M_g19, oc_M_g20, oc_M_g21, oc_M_g22, oc_M_g23, oc_M_p24, oc_M_g24, oc_M_g25, sg_A_set_0, a1, e1, e3, u4, a2, oc_r_pa]
  · rw [wr_ne (by omega), List.length_set]; exact a1
  · rw [wr_eq, a2]; rfl
  · rw [List.length_set, List.length_set]; exact a3
  · rw [List.length_set]; exact a4
  · intro v hv
    rcases List.mem_or_eq_of_mem_set hv with hv | rfl
    · rcases a6 v hv with h | ⟨r', a', b', e1, e2, e3⟩
      · exact Or.inl h
      · exact Or.inr ⟨r', a', b', e1, e2, hkw _ _ e2 e3 oc_U_nr⟩
    · exact Or.inr ⟨r, a, b, rfl, u1, hkw _ _ u1 u4 oc_U_nr⟩
  · intro j q hq
    by_cases hj : j = i
    · subst hj
      rw [List.getElem?_set_self hi] at hq
      cases hq
      exact ⟨r, by rw [List.getElem?_set_self (by omega)], RU_kp U hkw⟩
    · rw [List.getElem?_set_ne (fun e => hj e.symm)] at hq
      obtain ⟨r', e1, e2⟩ := a7 j q hq
      exact ⟨r', by rw [List.getElem?_set_ne (fun e => hj e.symm)]; exact e1, RU_kp e2 hkw⟩
theorem p_A_clear27 {w : hy_W} {ar n : Nat} (hn : n ≤ 1000) : ∀ (d i : Nat) (es : List Value), n - i = d → i ≤ n → n ≤ es.length → es.length ≤ 1000 → (0 < d → 60 < ar) → ar < w.1.length → ∃ es', hy_fx nx_A_clear (27, [.ref ar, .int (nI n), .int (nI i)], hy_wr w ar (oc_r es)) = some (.inl none, hy_wr w ar (oc_r es')) ∧ es'.length = es.length ∧ (∀ v ∈ es', v = Value.null ∨ v ∈ es)
  | 0, i, es, hd, hi, hl, hl2, ha, hw => by
    refine ⟨es, ?_, rfl, fun v hv => Or.inr hv⟩
    rw [ev_A_clear_27]
    simp (disch := omega) only [e_gi, e_gr, e_ob, e_ai, e_ar, e_ln, e_pf, e_pa, wr_eq, wr_ne, wr_wr, Option.map_some, Option.bind_some, hy_bi_s, hy_br_s, hy_bv_s, hy_xi_s, hy_xi_t, hy_xv_s, hy_xv_t, hy_k_l, hy_k_r, ia_ai, ia_pa, ia_ln, oc_a_ar, oc_o_pa, oc_r_ln, n_le_t, n_le_f, n_lt_t, n_lt_f, n_eq_t, n_eq_f, nI_add, pk_mul, n_sub, n_prd, ne_1, hy_b_t, hy_b_f, ↓reduceIte, true_or, or_true, Bool.false_eq_true, or_false, false_or, and_true, true_and, and_false, false_and, li_c, li_0, li_1, li_2, li_3, li_4, li_5, li_6, li_10, li_11, li_16, li_17, li_20, li_40, li_41, li_300, li_400, oc_H_ob, oc_H_g0, oc_H_g1, oc_H_g2, oc_H_g3, oc_H_g4, oc_H_p5, oc_H_g5, oc_N_ob, oc_N_g0, oc_N_p1, oc_N_g1, oc_N_g2, oc_N_p3, oc_N_g3, oc_D_ob, oc_D_g0, oc_D_g1, oc_D_p2, oc_D_g2, oc_G_ob, oc_G_g0, oc_G_g1, oc_G_p2, oc_G_g2, oc_G_p3, oc_G_g3, oc_G_p4, oc_G_g4, oc_L_ob, oc_L_g0, oc_L_g1, oc_L_g2, oc_L_g3, oc_L_g4, oc_L_p5, oc_L_g5, oc_L_p6, oc_L_g6, oc_L_p7, oc_L_g7, oc_A_ob, oc_A_g0, oc_A_p1, oc_A_g1, oc_A_p2, oc_A_g2, oc_A_p0, oc_U_ob, oc_U_g0, oc_U_g1, oc_M_ob, oc_M_p0, oc_M_g0, oc_M_p1, oc_M_g1, oc_M_g2, oc_M_g3, oc_M_g4, oc_M_g5, oc_M_g6, oc_M_g7, oc_M_p8, oc_M_g8, oc_M_g9, oc_M_g10, oc_M_p11, oc_M_g11, oc_M_g12, oc_M_g13, oc_M_p14, oc_M_g14, oc_M_g15, oc_M_g16, oc_M_g17, oc_M_g18, oc_M_p19, oc_M_g19, oc_M_g20, oc_M_g21, oc_M_g22, oc_M_g23, oc_M_p24, oc_M_g24, oc_M_g25, sg_A_clear_27]
  | d + 1, i, es, hd, hi, hl, hl2, ha, hw => by
    have har := ha (by omega)
    obtain ⟨c0, h0⟩ := get_lt hw
    obtain ⟨es', e1, e2, e3⟩ := p_A_clear27 (w := w) (ar := ar) hn d (i + 1) (es.set i .null) (by omega) (by omega) (by rw [List.length_set]; exact hl) (by rw [List.length_set]; exact hl2) (fun _ => har) hw
    refine ⟨es', ?_, by rw [e2, List.length_set], fun v hv => ?_⟩
    · rw [ev_A_clear_27]
      simp (disch := omega) only [e_gi, e_gr, e_ob, e_ai, e_ar, e_ln, e_pf, e_pa, wr_eq, wr_ne, wr_wr, Option.map_some, Option.bind_some, hy_bi_s, hy_br_s, hy_bv_s, hy_xi_s, hy_xi_t, hy_xv_s, hy_xv_t, hy_k_l, hy_k_r, ia_ai, ia_pa, ia_ln, oc_a_ar, oc_o_pa, oc_r_ln, n_le_t, n_le_f, n_lt_t, n_lt_f, n_eq_t, n_eq_f, nI_add, pk_mul, n_sub, n_prd, ne_1, hy_b_t, hy_b_f, ↓reduceIte, true_or, or_true, Bool.false_eq_true, or_false, false_or, and_true, true_and, and_false, false_and, li_c, li_0, li_1, li_2, li_3, li_4, li_5, li_6, li_10, li_11, li_16, li_17, li_20, li_40, li_41, li_300, li_400, oc_H_ob, oc_H_g0, oc_H_g1, oc_H_g2, oc_H_g3, oc_H_g4, oc_H_p5, oc_H_g5, oc_N_ob, oc_N_g0, oc_N_p1, oc_N_g1, oc_N_g2, oc_N_p3, oc_N_g3, oc_D_ob, oc_D_g0, oc_D_g1, oc_D_p2, oc_D_g2, oc_G_ob, oc_G_g0, oc_G_g1, oc_G_p2, oc_G_g2, oc_G_p3, oc_G_g3, oc_G_p4, oc_G_g4, oc_L_ob, oc_L_g0, oc_L_g1, oc_L_g2, oc_L_g3, oc_L_g4, oc_L_p5, oc_L_g5, oc_L_p6, oc_L_g6, oc_L_p7, oc_L_g7, oc_A_ob, oc_A_g0, oc_A_p1, oc_A_g1, oc_A_p2, oc_A_g2, oc_A_p0, oc_U_ob, oc_U_g0, oc_U_g1, oc_M_ob, oc_M_p0, oc_M_g0, oc_M_p1, oc_M_g1, oc_M_g2, oc_M_g3, oc_M_g4, oc_M_g5, oc_M_g6, oc_M_g7, oc_M_p8, oc_M_g8, oc_M_g9, oc_M_g10, oc_M_p11, oc_M_g11, oc_M_g12, oc_M_g13, oc_M_p14, oc_M_g14, oc_M_g15, oc_M_g16, oc_M_g17, oc_M_g18, oc_M_p19, oc_M_g19, oc_M_g20, oc_M_g21, oc_M_g22, oc_M_g23, oc_M_p24, oc_M_g24, oc_M_g25, sg_A_clear_27, h0, oc_r_pa, e1]
    · rcases e3 v hv with h | h
      · exact Or.inl h
      · rcases List.mem_or_eq_of_mem_set h with h | h
        · exact Or.inr h
        · exact Or.inl h
theorem p_A_clear {w : hy_W} {k ar : Nat} {L : List hy_U} (R : hy_RL w k ar L) (hk : 15 < k ∧ k < 40) : ∃ w', f_A_clear [.ref k] w = some (.inl none, w') ∧ hy_RL w' k ar [] ∧ w'.1.length = w.1.length ∧ (∀ j, j ≠ k → j ≠ ar ∨ ar = 0 → w'.1[j]? = w.1[j]?) ∧ w'.2 = w.2 ∧ hy_kp w w' := by
  have hl := RL_len R
  obtain ⟨c, es, a1, a2, a3, a4, a5, a6, a7⟩ := R
  have harl := (List.getElem?_eq_some_iff.mp a2).1
  have hkl := (List.getElem?_eq_some_iff.mp a1).1
  have k2 : (hy_wr w k (oc_A ar 0 (c + nI 1))).1[ar]? = some (oc_r es) := by rw [wr_ne (by omega)]; exact a2
  obtain ⟨es', e1, e2, e3⟩ := p_A_clear27 (w := hy_wr w k (oc_A ar 0 (c + nI 1))) (ar := ar) (n := L.length) hl L.length 0 es (by omega) (by omega) a3 a4 (fun h => by
    rcases a5 with ⟨-, h'⟩ | h'
    · rw [h', List.length_nil] at a3; omega
    · exact h') (by rw [wr_len]; exact harl)
  rw [wr_same k2] at e1
  have hkp : hy_kp w (hy_wr (hy_wr w k (oc_A ar 0 (c + nI 1))) ar (oc_r es')) := by
    intro j d hj hd hno
    rw [wr_ne (fun e => by rw [← e, a2] at hd; exact hno _ (Option.some.inj hd).symm), wr_ne (by omega)]
    exact hd
  refine ⟨hy_wr (hy_wr w k (oc_A ar 0 (c + nI 1))) ar (oc_r es'), ?_, ⟨c + nI 1, es', ?_, ?_, Nat.zero_le _, by omega, ?_, ?_, ?_⟩, by rw [wr_len, wr_len], ?_, rfl, hkp⟩
  · rw [f_A_clear, ev_A_clear_0]
    simp (disch := omega) only [e_gi, e_gr, e_ob, e_ai, e_ar, e_ln, e_pf, e_pa, wr_eq, wr_ne, wr_wr, Option.map_some, Option.bind_some, hy_bi_s, hy_br_s, hy_bv_s, hy_xi_s, hy_xi_t, hy_xv_s, hy_xv_t, hy_k_l, hy_k_r, ia_ai, ia_pa, ia_ln, oc_a_ar, oc_o_pa, oc_r_ln, n_le_t, n_le_f, n_lt_t, n_lt_f, n_eq_t, n_eq_f, nI_add, pk_mul, n_sub, n_prd, ne_1, hy_b_t, hy_b_f, ↓reduceIte, true_or, or_true, Bool.false_eq_true, or_false, false_or, and_true, true_and, and_false, false_and, li_c, li_0, li_1, li_2, li_3, li_4, li_5, li_6, li_10, li_11, li_16, li_17, li_20, li_40, li_41, li_300, li_400, oc_H_ob, oc_H_g0, oc_H_g1, oc_H_g2, oc_H_g3, oc_H_g4, oc_H_p5, oc_H_g5, oc_N_ob, oc_N_g0, oc_N_p1, oc_N_g1, oc_N_g2, oc_N_p3, oc_N_g3, oc_D_ob, oc_D_g0, oc_D_g1, oc_D_p2, oc_D_g2, oc_G_ob, oc_G_g0, oc_G_g1, oc_G_p2, oc_G_g2, oc_G_p3, oc_G_g3, oc_G_p4, oc_G_g4, oc_L_ob, oc_L_g0, oc_L_g1, oc_L_g2, oc_L_g3, oc_L_g4, oc_L_p5, oc_L_g5, oc_L_p6, oc_L_g6, oc_L_p7, oc_L_g7, oc_A_ob, oc_A_g0, oc_A_p1, oc_A_g1, oc_A_p2, oc_A_g2, oc_A_p0, oc_U_ob, oc_U_g0, oc_U_g1, oc_M_ob, oc_M_p0, oc_M_g0, oc_M_p1, oc_M_g1, oc_M_g2, oc_M_g3, oc_M_g4, oc_M_g5, oc_M_g6, oc_M_g7, oc_M_p8, oc_M_g8, oc_M_g9, oc_M_g10, oc_M_p11, oc_M_g11, oc_M_g12, oc_M_g13, oc_M_p14, oc_M_g14, oc_M_g15, oc_M_g16, oc_M_g17, oc_M_g18, oc_M_p19, oc_M_g19, oc_M_g20, oc_M_g21, oc_M_g22, oc_M_g23, oc_M_p24, oc_M_g24, oc_M_g25, sg_A_clear_0, a1, e1]
  · rw [wr_ne (by omega), wr_eq, a1]; rfl
  · rw [wr_eq, k2]; rfl
  · rcases a5 with ⟨h1, h2⟩ | h
    · refine Or.inl ⟨h1, ?_⟩
      rw [h2, List.length_nil] at e2
      exact List.length_eq_zero_iff.mp e2
    · exact Or.inr h
  · intro v hv
    rcases e3 v hv with h | h
    · exact Or.inl h
    · rcases a6 v h with h | ⟨r', a', b', e1, e2, e3⟩
      · exact Or.inl h
      · exact Or.inr ⟨r', a', b', e1, e2, hkp _ _ e2 e3 oc_U_nr⟩
  · intro i q hq; cases hq
  · intro j h1 h2
    rcases h2 with h2 | h2
    · rw [wr_ne (fun e => h2 e.symm), wr_ne (fun e => h1 e.symm)]
    · subst h2
      rcases a5 with ⟨-, h3⟩ | h3
      · rw [h3] at e2 a2
        have : es' = [] := List.length_eq_zero_iff.mp e2
        subst this
        by_cases hj : j = 0
        · rw [hj, wr_eq, wr_ne (by omega), a2]; rfl
        · rw [wr_ne (fun e => hj e.symm), wr_ne (fun e => h1 e.symm)]
      · omega
/-- a row's first n places as a list -/
def hy_tk (n : Nat) (f : Nat → Int32) : List Int32 := (List.range n).map f
theorem tk_len {n : Nat} {f : Nat → Int32} : (hy_tk n f).length = n := by unfold hy_tk; rw [List.length_map, List.length_range]
theorem tk_g {n k : Nat} {f : Nat → Int32} (h : k < n) : hy_g (hy_tk n f) k = f k := by
  unfold hy_g hy_tk
  rw [List.getD_eq_getElem?_getD, List.getElem?_map, List.getElem?_range h]; rfl
theorem tk_out {n k : Nat} {f : Nat → Int32} (h : n ≤ k) : hy_g (hy_tk n f) k = nI 0 := by
  unfold hy_g hy_tk
  rw [List.getD_eq_getElem?_getD, List.getElem?_eq_none (by simp; omega)]; rfl
/-- the draft becomes a rule -/
theorem p_toRule {w : hy_W} {n : Nat} {sp vl : Nat → Int32} {p : hy_U} (h1 : w.1[10]? = some (oc_D n)) (h2 : w.1[11]? = some (hy_ia 40 sp)) (h3 : w.1[12]? = some (hy_ia 41 vl)) (hn : 1 ≤ n ∧ n ≤ 40) (hw : 60 < w.1.length) (b1 : 3 ≤ w.2.1) (b2 : 100 ≤ w.2.2) (q1 : p.1.length = n) (q2 : p.2.length = n + 1) (q3 : hy_to n sp (hy_g p.1)) (q4 : hy_to (n + 1) vl (hy_g p.2)) : ∃ w', f_D_toRule [.ref 10] w = some (.inl (some (.ref w.1.length)), w') ∧ w'.1.length = w.1.length + 3 ∧ hy_xt w w' ∧ hy_RU w' w.1.length p ∧ w.2.1 - 3 ≤ w'.2.1 ∧ w.2.2 - 100 ≤ w'.2.2 := by
  obtain ⟨w', e1, e2, e3, e4, e5, e6, e7, e8⟩ := p_D_toRule h1 h2 h3 hn.2 b1 b2
  refine ⟨w', e1, e2, e3, ⟨w.1.length + 1, w.1.length + 2, by omega, by omega, by omega, e4, ?_, ?_, by omega, by omega, by omega⟩, e7, e8⟩
  · rw [e5, q1, ia_ext q3]
  · rw [e6, q2, ia_ext q4]
theorem RL_xt {w w' : hy_W} {k ar : Nat} {L : List hy_U} (R : hy_RL w k ar L) (x : hy_xt w w') : hy_RL w' k ar L := by
  obtain ⟨c, es, a1, a2, -⟩ := id R
  exact RL_kp R ((x _ _ a1).trans a1.symm) ((x _ _ a2).trans a2.symm) fun j d _ hd _ => x _ _ hd
section KPD
variable {w : hy_W} {l n k ar td : Nat} {lo : Int32} {sp vl : Nat → Int32} {L : List hy_U} {p : hy_U}
theorem p_H_keepDraft_t (k2 : w.1[2]? = some (oc_H l)) (h1 : w.1[10]? = some (oc_D n)) (h2 : w.1[11]? = some (hy_ia 40 sp)) (R : hy_RL w k ar L) (hk : 15 < k ∧ k < 40) (hn : n ≤ 40) (b1 : 1 ≤ w.2.1) (b2 : 6 ≤ w.2.2) (hf : hy_fd (hy_sm sp 0 n) L 0 = none) : f_H_keepDraft [.ref 2, .ref k, .int (nI 1)] w = some (.inr "java/lang/IllegalStateException", hy_tw w) := by
  have e1 := p_H_indexOfRule (f := 0) (n := n) R (by omega) h2 (by omega) (by omega) (by omega)
  rw [hf, hy_on] at e1
  have e2 := e_th b1 b2
  rw [f_H_keepDraft, ev_H_keepDraft_0]
  simp (disch := omega) only [e_gi, e_gr, e_ob, e_ai, e_ar, e_ln, e_pf, e_pa, wr_eq, wr_ne, wr_wr, Option.map_some, Option.bind_some, hy_bi_s, hy_br_s, hy_bv_s, hy_xi_s, hy_xi_t, hy_xv_s, hy_xv_t, hy_k_l, hy_k_r, ia_ai, ia_pa, ia_ln, oc_a_ar, oc_o_pa, oc_r_ln, n_le_t, n_le_f, n_lt_t, n_lt_f, n_eq_t, n_eq_f, nI_add, pk_mul, n_sub, n_prd, ne_1, hy_b_t, hy_b_f, ↓reduceIte, true_or, or_true, Bool.false_eq_true, or_false, false_or, and_true, true_and, and_false, false_and, li_c, li_0, li_1, li_2, li_3, li_4, li_5, li_6, li_10, li_11, li_16, li_17, li_20, li_40, li_41, li_300, li_400, oc_H_ob, oc_H_g0, oc_H_g1, oc_H_g2, oc_H_g3, oc_H_g4, oc_H_p5, oc_H_g5, oc_N_ob, oc_N_g0, oc_N_p1, oc_N_g1, oc_N_g2, oc_N_p3, oc_N_g3, oc_D_ob, oc_D_g0, oc_D_g1, oc_D_p2, oc_D_g2, oc_G_ob, oc_G_g0, oc_G_g1, oc_G_p2, oc_G_g2, oc_G_p3, oc_G_g3, oc_G_p4, oc_G_g4, oc_L_ob, oc_L_g0, oc_L_g1, oc_L_g2, oc_L_g3, oc_L_g4, oc_L_p5, oc_L_g5, oc_L_p6, oc_L_g6, oc_L_p7, oc_L_g7, oc_A_ob, oc_A_g0, oc_A_p1, oc_A_g1, oc_A_p2, oc_A_g2, oc_A_p0, oc_U_ob, oc_U_g0, oc_U_g1, oc_M_ob, oc_M_p0, oc_M_g0, oc_M_p1, oc_M_g1, oc_M_g2, oc_M_g3, oc_M_g4, oc_M_g5, oc_M_g6, oc_M_g7, oc_M_p8, oc_M_g8, oc_M_g9, oc_M_g10, oc_M_p11, oc_M_g11, oc_M_g12, oc_M_g13, oc_M_p14, oc_M_g14, oc_M_g15, oc_M_g16, oc_M_g17, oc_M_g18, oc_M_p19, oc_M_g19, oc_M_g20, oc_M_g21, oc_M_g22, oc_M_g23, oc_M_p24, oc_M_g24, oc_M_g25, sg_H_keepDraft_0, k2, h1, e1, e2]
theorem p_H_keepDraft72 (k2 : w.1[2]? = some (oc_H l)) (h1 : w.1[10]? = some (oc_D n)) (h4 : w.1[4]? = some (oc_N 6 5 lo td)) : hy_fx nx_H_keepDraft (72, [.ref 2], w) = some (.inl (some (.int (nI n))), hy_wr w 4 (oc_N 6 5 lo 0)) := by
  have e := p_N_empty h4 (by omega)
  rw [ev_H_keepDraft_72]
  simp (disch := omega) only [e_gi, e_gr, e_ob, e_ai, e_ar, e_ln, e_pf, e_pa, wr_eq, wr_ne, wr_wr, Option.map_some, Option.bind_some, hy_bi_s, hy_br_s, hy_bv_s, hy_xi_s, hy_xi_t, hy_xv_s, hy_xv_t, hy_k_l, hy_k_r, ia_ai, ia_pa, ia_ln, oc_a_ar, oc_o_pa, oc_r_ln, n_le_t, n_le_f, n_lt_t, n_lt_f, n_eq_t, n_eq_f, nI_add, pk_mul, n_sub, n_prd, ne_1, hy_b_t, hy_b_f, ↓reduceIte, true_or, or_true, Bool.false_eq_true, or_false, false_or, and_true, true_and, and_false, false_and, li_c, li_0, li_1, li_2, li_3, li_4, li_5, li_6, li_10, li_11, li_16, li_17, li_20, li_40, li_41, li_300, li_400, oc_H_ob, oc_H_g0, oc_H_g1, oc_H_g2, oc_H_g3, oc_H_g4, oc_H_p5, oc_H_g5, oc_N_ob, oc_N_g0, oc_N_p1, oc_N_g1, oc_N_g2, oc_N_p3, oc_N_g3, oc_D_ob, oc_D_g0, oc_D_g1, oc_D_p2, oc_D_g2, oc_G_ob, oc_G_g0, oc_G_g1, oc_G_p2, oc_G_g2, oc_G_p3, oc_G_g3, oc_G_p4, oc_G_g4, oc_L_ob, oc_L_g0, oc_L_g1, oc_L_g2, oc_L_g3, oc_L_g4, oc_L_p5, oc_L_g5, oc_L_p6, oc_L_g6, oc_L_p7, oc_L_g7, oc_A_ob, oc_A_g0, oc_A_p1, oc_A_g1, oc_A_p2, oc_A_g2, oc_A_p0, oc_U_ob, oc_U_g0, oc_U_g1, oc_M_ob, oc_M_p0, oc_M_g0, oc_M_p1, oc_M_g1, oc_M_g2, oc_M_g3, oc_M_g4, oc_M_g5, oc_M_g6, oc_M_g7, oc_M_p8, oc_M_g8, oc_M_g9, oc_M_g10, oc_M_p11, oc_M_g11, oc_M_g12, oc_M_g13, oc_M_p14, oc_M_g14, oc_M_g15, oc_M_g16, oc_M_g17, oc_M_g18, oc_M_p19, oc_M_g19, oc_M_g20, oc_M_g21, oc_M_g22, oc_M_g23, oc_M_p24, oc_M_g24, oc_M_g25, sg_H_keepDraft_72, k2, h4, e, h1]
theorem p_H_keepDraft_n (k2 : w.1[2]? = some (oc_H l)) (h4 : w.1[4]? = some (oc_N 6 5 lo td)) (h1 : w.1[10]? = some (oc_D n)) (h2 : w.1[11]? = some (hy_ia 40 sp)) (h3 : w.1[12]? = some (hy_ia 41 vl)) (R : hy_RL w k ar L) (hk : 15 < k ∧ k < 40) (hn : 1 ≤ n ∧ n ≤ 40) (hL : L.length ≤ 400) (hw : 60 < w.1.length) (b1 : 4 ≤ w.2.1) (b2 : 1100 ≤ w.2.2) (q1 : p.1.length = n) (q2 : p.2.length = n + 1) (q3 : hy_to n sp (hy_g p.1)) (q4 : hy_to (n + 1) vl (hy_g p.2)) (hf : hy_fd (hy_sm sp 0 n) L 0 = none) : ∃ w' ar', f_H_keepDraft [.ref 2, .ref k, .int (nI 0)] w = some (.inl (some (.int (nI n))), w') ∧ hy_RL w' k ar' (L ++ [p]) ∧ (ar' = ar ∨ w.1.length ≤ ar') ∧ 60 < ar' ∧ w.1.length ≤ w'.1.length ∧ w'.1[4]? = some (oc_N 6 5 lo 0) ∧ (∀ (j : Nat) (d : hy_C), j ≠ k → j ≠ ar' → j ≠ 4 → w.1[j]? = some d → w'.1[j]? = some d) ∧ w.2.1 - 4 ≤ w'.2.1 ∧ w.2.2 - 1100 ≤ w'.2.2 := by
  have e1 := p_H_indexOfRule (f := 0) (n := n) R (by omega) h2 (by omega) (by omega) (by omega)
  rw [hf, hy_on] at e1
  obtain ⟨w1, f1, f2, f3, f4, f5, f6⟩ := p_toRule h1 h2 h3 hn hw (by omega) (by omega) q1 q2 q3 q4
  obtain ⟨w2, ar', g1, g2, g3, g4, g5, g6, g7, g8⟩ := p_A_add1 (RL_xt R f3) hk f4 hL (by omega) (by omega) (by omega)
  have har : ar < w.1.length := by
    obtain ⟨c, es, a1, a2, -⟩ := id R
    exact (List.getElem?_eq_some_iff.mp a2).1
  have m2 := g6 _ _ (by omega) (by omega) (f3 _ _ k2)
  have m4 := g6 _ _ (by omega) (by omega) (f3 _ _ h4)
  have m10 := g6 _ _ (by omega) (by omega) (f3 _ _ h1)
  have e5 := p_H_keepDraft72 m2 m10 m4
  obtain ⟨c1, es1, r1, -⟩ := id (RL_xt R f3)
  refine ⟨hy_wr w2 4 (oc_N 6 5 lo 0), ar', ?_, RL_kp g2 (wr_ne (by omega)) (wr_ne (by omega)) (fun j d hj hd _ => by rw [wr_ne (by omega)]; exact hd), by omega, g4, by rw [wr_len]; omega, by rw [wr_eq, m4]; rfl, fun j d a1 a2 a3 hd => by rw [wr_ne (fun e => a3 e.symm)]; exact g6 j d a1 a2 (f3 _ _ hd), ?_, ?_⟩
  · rw [f_H_keepDraft, ev_H_keepDraft_0]
    simp (disch := omega) only [e_gi, e_gr, e_ob, e_ai, e_ar, e_ln, e_pf, e_pa, wr_eq, wr_ne, wr_wr, Option.map_some, Option.bind_some, hy_bi_s, hy_br_s, hy_bv_s, hy_xi_s, hy_xi_t, hy_xv_s, hy_xv_t, hy_k_l, hy_k_r, ia_ai, ia_pa, ia_ln, oc_a_ar, oc_o_pa, oc_r_ln, n_le_t, n_le_f, n_lt_t, n_lt_f, n_eq_t, n_eq_f, nI_add, pk_mul, n_sub, n_prd, ne_1, hy_b_t, hy_b_f, ↓reduceIte, true_or, or_true, Bool.false_eq_true, or_false, false_or, and_true, true_and, and_false, false_and, li_c, li_0, li_1, li_2, li_3, li_4, li_5, li_6, li_10, li_11, li_16, li_17, li_20, li_40, li_41, li_300, li_400, oc_H_ob, oc_H_g0, oc_H_g1, oc_H_g2, oc_H_g3, oc_H_g4, oc_H_p5, oc_H_g5, oc_N_ob, oc_N_g0, oc_N_p1, oc_N_g1, oc_N_g2, oc_N_p3, oc_N_g3, oc_D_ob, oc_D_g0, oc_D_g1, oc_D_p2, oc_D_g2, oc_G_ob, oc_G_g0, oc_G_g1, oc_G_p2, oc_G_g2, oc_G_p3, oc_G_g3, oc_G_p4, oc_G_g4, oc_L_ob, oc_L_g0, oc_L_g1, oc_L_g2, oc_L_g3, oc_L_g4, oc_L_p5, oc_L_g5, oc_L_p6, oc_L_g6, oc_L_p7, oc_L_g7, oc_A_ob, oc_A_g0, oc_A_p1, oc_A_g1, oc_A_p2, oc_A_g2, oc_A_p0, oc_U_ob, oc_U_g0, oc_U_g1, oc_M_ob, oc_M_p0, oc_M_g0, oc_M_p1, oc_M_g1, oc_M_g2, oc_M_g3, oc_M_g4, oc_M_g5, oc_M_g6, oc_M_g7, oc_M_p8, oc_M_g8, oc_M_g9, oc_M_g10, oc_M_p11, oc_M_g11, oc_M_g12, oc_M_g13, oc_M_p14, oc_M_g14, oc_M_g15, oc_M_g16, oc_M_g17, oc_M_g18, oc_M_p19, oc_M_g19, oc_M_g20, oc_M_g21, oc_M_g22, oc_M_g23, oc_M_p24, oc_M_g24, oc_M_g25, sg_H_keepDraft_0, k2, h1, e1, ev_H_keepDraft_39, sg_H_keepDraft_39, f1, r1, g1, e5]
  · show w.2.1 - 4 ≤ w2.2.1
    omega
  · exact b_1100 f6 g8
theorem p_H_keepDraft_s (k2 : w.1[2]? = some (oc_H l)) (h4 : w.1[4]? = some (oc_N 6 5 lo td)) (h1 : w.1[10]? = some (oc_D n)) (h2 : w.1[11]? = some (hy_ia 40 sp)) (h3 : w.1[12]? = some (hy_ia 41 vl)) (R : hy_RL w k ar L) (hk : 15 < k ∧ k < 40) (hn : 1 ≤ n ∧ n ≤ 40) (hw : 60 < w.1.length) (b1 : 4 ≤ w.2.1) (b2 : 1100 ≤ w.2.2) (q1 : p.1.length = n) (q2 : p.2.length = n + 1) (q3 : hy_to n sp (hy_g p.1)) (q4 : hy_to (n + 1) vl (hy_g p.2)) {i : Nat} (hf : hy_fd (hy_sm sp 0 n) L 0 = some i) (v : Int32) : ∃ w', f_H_keepDraft [.ref 2, .ref k, .int v] w = some (.inl (some (.int (nI n))), w') ∧ hy_RL w' k ar (L.set i p) ∧ 60 < ar ∧ w.1.length ≤ w'.1.length ∧ w'.1[4]? = some (oc_N 6 5 lo 0) ∧ (∀ (j : Nat) (d : hy_C), j ≠ k → j ≠ ar → j ≠ 4 → w.1[j]? = some d → w'.1[j]? = some d) ∧ w.2.1 - 4 ≤ w'.2.1 ∧ w.2.2 - 1100 ≤ w'.2.2 := by
  have e1 := p_H_indexOfRule (f := 0) (n := n) R (by omega) h2 (by omega) (by omega) (by omega)
  rw [hf, hy_on] at e1
  obtain ⟨-, x, x1, x2⟩ := fd_s hf
  rw [Nat.sub_zero] at x1
  have hi := (List.getElem?_eq_some_iff.mp x1).1
  have hlen := RL_len R
  obtain ⟨w1, f1, f2, f3, f4, f5, f6⟩ := p_toRule h1 h2 h3 hn hw (by omega) (by omega) q1 q2 q3 q4
  obtain ⟨w2, y, g1, g2, g3, g4, g5, g6⟩ := p_A_set (RL_xt R f3) hk f4 hi
  have m2 := (g5 2 (by omega)).trans (f3 _ _ k2)
  have m4 := (g5 4 (by omega)).trans (f3 _ _ h4)
  have m10 := (g5 10 (by omega)).trans (f3 _ _ h1)
  have e5 := p_H_keepDraft72 m2 m10 m4
  obtain ⟨c1, es1, r1, -⟩ := id (RL_xt R f3)
  have hne : ¬ nI i = -nI 1 := on_ne (by omega)
  refine ⟨hy_wr w2 4 (oc_N 6 5 lo 0), ?_, RL_kp g2 (wr_ne (by omega)) (wr_ne (by omega)) (fun j d hj hd _ => by rw [wr_ne (by omega)]; exact hd), g3, by rw [wr_len]; omega, by rw [wr_eq, m4]; rfl, fun j d a1 a2 a3 hd => by rw [wr_ne (fun e => a3 e.symm), g5 j a2]; exact f3 _ _ hd, by rw [wr_2, g6]; omega, by rw [wr_2, g6]; omega⟩
  rw [f_H_keepDraft, ev_H_keepDraft_0]
  simp (disch := omega) only [e_gi, e_gr, e_ob, e_ai, e_ar, e_ln, e_pf, e_pa, wr_eq, wr_ne, wr_wr, Option.map_some, Option.bind_some, hy_bi_s, hy_br_s, hy_bv_s, hy_xi_s, hy_xi_t, hy_xv_s, hy_xv_t, hy_k_l, hy_k_r, ia_ai, ia_pa, ia_ln, oc_a_ar, oc_o_pa, oc_r_ln, n_le_t, n_le_f, n_lt_t, n_lt_f, n_eq_t, n_eq_f, nI_add, pk_mul, n_sub, n_prd, ne_1, hy_b_t, hy_b_f, ↓reduceIte, true_or, or_true, Bool.false_eq_true, or_false, false_or, and_true, true_and, and_false, false_and, li_c, li_0, li_1, li_2, li_3, li_4, li_5, li_6, li_10, li_11, li_16, li_17, li_20, li_40, li_41, li_300, li_400, oc_H_ob, oc_H_g0, oc_H_g1, oc_H_g2, oc_H_g3, oc_H_g4, oc_H_p5, oc_H_g5, oc_N_ob, oc_N_g0, oc_N_p1, oc_N_g1, oc_N_g2, oc_N_p3, oc_N_g3, oc_D_ob, oc_D_g0, oc_D_g1, oc_D_p2, oc_D_g2, oc_G_ob, oc_G_g0, oc_G_g1, oc_G_p2, oc_G_g2, oc_G_p3, oc_G_g3, oc_G_p4, oc_G_g4, oc_L_ob, oc_L_g0, oc_L_g1, oc_L_g2, oc_L_g3, oc_L_g4, oc_L_p5, oc_L_g5, oc_L_p6, oc_L_g6, oc_L_p7, oc_L_g7, oc_A_ob, oc_A_g0, oc_A_p1, oc_A_g1, oc_A_p2, oc_A_g2, oc_A_p0, oc_U_ob, oc_U_g0, oc_U_g1, oc_M_ob, oc_M_p0, oc_M_g0, oc_M_p1, oc_M_g1, oc_M_g2, oc_M_g3, oc_M_g4, oc_M_g5, oc_M_g6, oc_M_g7, oc_M_p8, oc_M_g8, oc_M_g9, oc_M_g10, oc_M_p11, oc_M_g11, oc_M_g12, oc_M_g13, oc_M_p14, oc_M_g14, oc_M_g15, oc_M_g16, oc_M_g17, oc_M_g18, oc_M_p19, oc_M_g19, oc_M_g20, oc_M_g21, oc_M_g22, oc_M_g23, oc_M_p24, oc_M_g24, oc_M_g25, sg_H_keepDraft_0, k2, h1, e1, hne, ev_H_keepDraft_39, sg_H_keepDraft_39, f1, r1, g1, e5]
end KPD
