/-! WHAT IS ASKED, on both sides -/
theorem Rd_ne {w w1 : hy_W} (R : hy_Rd w w1) {k : Nat} (h : k < 13 ∨ 15 < k) : w1.1[k]? = w.1[k]? := by
  obtain ⟨s, m, c, sp, G, rfl⟩ := R
  exact rd_ne h
theorem Rd_2 {w w1 : hy_W} (R : hy_Rd w w1) : w1.2 = w.2 := by
  obtain ⟨s, m, c, sp, G, rfl⟩ := R
  rfl
theorem DI_40 {w : hy_W} {ft : Int32} {l td n : Nat} {tl x F L T lf rg : Nat → Int32} {r : Nat → Nat} {PM EM : List (Nat × hy_U)} (h : hy_DI w ft l td n tl x F L T lf rg r PM EM) {ft' : Int32} {lc' : Nat} : hy_DI (hy_wr w 40 (oc_M ft' l td lc' PM.length EM.length n)) ft' l td n tl x F L T lf rg r PM EM := by
  obtain ⟨lc, R, f48, rl, rv, po, pz, pa, pv, eo, ez, ea, ev, ⟨m40, m41, m42, m43, m44, m45, m46, m47, m48, m49, m50, m51, m52, m53, m54, m55, m56, m57, m58, m59⟩, mR, tp, te⟩ := h
  refine ⟨lc', R, f48, rl, rv, po, pz, pa, pv, eo, ez, ea, ev, ?_, mR, tp, te⟩
  unfold hy_Dc
  simp (disch := omega) only [e_gi, e_gr, e_ob, e_ai, e_ar, e_ln, e_pf, e_pa, wr_eq, wr_ne, wr_wr, Option.map_some, Option.bind_some, hy_bi_s, hy_br_s, hy_bv_s, hy_xi_s, hy_xi_t, hy_xv_s, hy_xv_t, hy_k_l, hy_k_r, ia_ai, ia_pa, ia_ln, oc_a_ar, oc_o_pa, oc_r_ln, n_le_t, n_le_f, n_lt_t, n_lt_f, n_eq_t, n_eq_f, nI_add, pk_mul, n_sub, n_prd, ne_1, hy_b_t, hy_b_f, ↓reduceIte, true_or, or_true, Bool.false_eq_true, or_false, false_or, and_true, true_and, and_false, false_and, li_c, li_0, li_1, li_2, li_3, li_4, li_5, li_6, li_10, li_11, li_16, li_17, li_20, li_40, li_41, li_300, li_400, oc_H_ob, oc_H_g0, oc_H_g1, oc_H_g2, oc_H_g3, oc_H_g4, oc_H_p5, oc_H_g5, oc_N_ob, oc_N_g0, oc_N_p1, oc_N_g1, oc_N_g2, oc_N_p3, oc_N_g3, oc_D_ob, oc_D_g0, oc_D_g1, oc_D_p2, oc_D_g2, oc_G_ob, oc_G_g0, oc_G_g1, oc_G_p2, oc_G_g2, oc_G_p3, oc_G_g3, oc_G_p4, oc_G_g4, oc_L_ob, oc_L_g0, oc_L_g1, oc_L_g2, oc_L_g3, oc_L_g4, oc_L_p5, oc_L_g5, oc_L_p6, oc_L_g6, oc_L_p7, oc_L_g7, oc_A_ob, oc_A_g0, oc_A_p1, oc_A_g1, oc_A_p2, oc_A_g2, oc_A_p0, oc_U_ob, oc_U_g0, oc_U_g1, oc_M_ob, oc_M_p0, oc_M_g0, oc_M_p1, oc_M_g1, oc_M_g2, oc_M_g3, oc_M_g4, oc_M_g5, oc_M_g6, oc_M_g7, oc_M_p8, oc_M_g8, oc_M_g9, oc_M_g10, oc_M_p11, oc_M_g11, oc_M_g12, oc_M_g13, oc_M_p14, oc_M_g14, oc_M_g15, oc_M_g16, oc_M_g17, oc_M_g18, oc_M_p19, oc_M_g19, oc_M_g20, oc_M_g21, oc_M_g22, oc_M_g23, oc_M_p24, oc_M_g24, oc_M_g25, m40, m41, m42, m43, m44, m45, m46, m47, m48, m49, m50, m51, m52, m53, m54, m55, m56, m57, m58, m59]
theorem v_in {v : Int32} {n : Nat} (hn : n ≤ 400) (h : ¬ (v < nI 0 ∨ nI n < v)) : ∃ p : Nat, p ≤ n ∧ v = nI p := by
  have h1 : ¬ v < 0 := fun z => h (Or.inl z)
  obtain ⟨p, hp, rfl⟩ := nI_of h1
  refine ⟨p, ?_, rfl⟩
  apply Nat.le_of_not_lt
  intro z
  apply h
  right
  rw [nI_ltI (by omega) (by omega)]
  exact z
section ASS
variable {N : Nat} {xs : Nat → Int32} {w : hy_W} {i K : Nat}
theorem s_value (I : hy_I (K + 1) w) (hi : i + 6 ≤ N) (hN : N ≤ 3072) : ∃ w2, hy_fx (nx_X_law N xs) (611, [.ref 2, .ref 40, .ref 60, .int (nI i)], w) = hy_fx (nx_X_law N xs) (23, [.ref 2, .ref 40, .ref 60, .int (nI (i + 6))], w2) ∧ hy_I K w2 := by
  obtain ⟨ft, l, td, n, tl, x, F, L, T, lf, rg, r, PM, EM, o, C, D, Q, h60, b1, b2⟩ := I
  have C' := C
  have Q' := Q
  obtain ⟨ar, br, X⟩ := CI_CX C Q
  have c2 := X.1.1
  obtain ⟨ql, qt, qn, qr, qv, qp, qe, qop, qoe, qup, que⟩ := Q
  by_cases hv : xs (i + 1) < nI 0 ∨ nI n < xs (i + 1)
  · have e1 := p_H_value_t C' hv (by omega) (by omega)
    have D2 : hy_DI (hy_tw w) ft l td n tl x F L T lf rg r PM EM := DI_fr D fun _ _ _ _ h => h
    obtain ⟨lc, R, po, pz, pa, pv, eo, ez, ea, ev, M⟩ := DI_MX D2 Q'
    have e3 := p_M_value_t M hv
    exact ⟨_, lw_value hi hN (x_value_1 c2 e1) M.1 e3 (wr_at M.1) (fun h => absurd h ne_10), I_end (w1 := hy_tw w) (ft := nI 1) (CI_tw C') (DI_40 D2) Q' ⟨o, h60⟩ (fun j c hj h => by rw [wr_ne (by omega)]; exact h) rfl (by show 8 * K ≤ w.2.1 - 1; omega) (by show 2000 * K ≤ w.2.2 - 6; omega)⟩
  · obtain ⟨p, hp, hvp⟩ := v_in qn hv
    obtain ⟨w1, R1, e1⟩ := p_H_value X hp
    have z60 := (Rd_ne R1 (k := 60) (by omega)).trans h60
    have hnb : hy_nb (hy_Y n (r l) (hy_sh l F) (hy_sh l L) (hy_sh l T) x) n := nb_Y
    have same : (if hy_iw (hy_Y n (r l) (hy_sh l F) (hy_sh l L) (hy_sh l T) x) p = true then hy_val (hy_Y n (r l) (hy_sh l F) (hy_sh l L) (hy_sh l T) x) n (hy_of l PM) (hy_of l EM) p else nI 0) = (if hy_iw (hy_Y n (r l) (hy_sh l F) (hy_sh l L) (hy_sh l T) x) p = true then hy_mval l (hy_wX (hy_Y n (r l) (hy_sh l F) (hy_sh l L) (hy_sh l T) x) n (hy_bg (hy_Y n (r l) (hy_sh l F) (hy_sh l L) (hy_sh l T) x) p)) (hy_wm (hy_Y n (r l) (hy_sh l F) (hy_sh l L) (hy_sh l T) x) n (hy_bg (hy_Y n (r l) (hy_sh l F) (hy_sh l L) (hy_sh l T) x) p)) PM EM (p - hy_bg (hy_Y n (r l) (hy_sh l F) (hy_sh l L) (hy_sh l T) x) p) else nI 0) := by
      by_cases q : hy_iw (hy_Y n (r l) (hy_sh l F) (hy_sh l L) (hy_sh l T) x) p = true
      · rw [if_pos q, if_pos q]
        obtain ⟨g1, g2, g3, g4, g5⟩ := iw_bg hnb q
        exact val_same qop qoe que (by omega)
      · rw [if_neg q, if_neg q]
    rw [same, ← hvp] at e1
    have e2 := x_value_s c2 e1 z60
    have D2 : hy_DI (hy_wr w1 60 (oc_o (if hy_iw (hy_Y n (r l) (hy_sh l F) (hy_sh l L) (hy_sh l T) x) p = true then hy_mval l (hy_wX (hy_Y n (r l) (hy_sh l F) (hy_sh l L) (hy_sh l T) x) n (hy_bg (hy_Y n (r l) (hy_sh l F) (hy_sh l L) (hy_sh l T) x) p)) (hy_wm (hy_Y n (r l) (hy_sh l F) (hy_sh l L) (hy_sh l T) x) n (hy_bg (hy_Y n (r l) (hy_sh l F) (hy_sh l L) (hy_sh l T) x) p)) PM EM (p - hy_bg (hy_Y n (r l) (hy_sh l F) (hy_sh l L) (hy_sh l T) x) p) else nI 0).toInt64)) ft l td n tl x F L T lf rg r PM EM := DI_fr D fun j c h1 h2 h => by rw [wr_ne (by omega), Rd_ne R1 (by omega)]; exact h
    obtain ⟨lc, R, po, pz, pa, pv, eo, ez, ea, ev, M⟩ := DI_MX D2 Q'
    have e3 := p_M_value M hp
    rw [← hvp] at e3
    have hl2 := Rd_2 R1
    exact ⟨_, lw_value hi hN e2 M.1 e3 (wr_at M.1) (fun _ => by rw [wr_ne (by omega)]; exact wr_at z60), I_end (ft := nI 0) (CI_60 (CI_rd C' R1)) (DI_40 D2) Q' ⟨_, wr_at z60⟩ (fun j c hj h => by rw [wr_ne (by omega)]; exact h) rfl (by show 8 * K ≤ w1.2.1; rw [hl2]; omega) (by show 2000 * K ≤ w1.2.2; rw [hl2]; omega)⟩
theorem s_breaks (I : hy_I (K + 1) w) (hi : i + 6 ≤ N) (hN : N ≤ 3072) : ∃ w2, hy_fx (nx_X_law N xs) (667, [.ref 2, .ref 40, .ref 60, .int (nI i)], w) = hy_fx (nx_X_law N xs) (23, [.ref 2, .ref 40, .ref 60, .int (nI (i + 6))], w2) ∧ hy_I K w2 := by
  obtain ⟨ft, l, td, n, tl, x, F, L, T, lf, rg, r, PM, EM, o, C, D, Q, h60, b1, b2⟩ := I
  have C' := C
  have Q' := Q
  obtain ⟨ar, br, X⟩ := CI_CX C Q
  have c2 := X.1.1
  obtain ⟨ql, qt, qn, qr, qv, qp, qe, qop, qoe, qup, que⟩ := Q
  by_cases hv : xs (i + 1) < nI 0 ∨ nI n < xs (i + 1)
  · have e1 := p_H_breaks_t C' hv (by omega) (by omega)
    have D2 : hy_DI (hy_tw w) ft l td n tl x F L T lf rg r PM EM := DI_fr D fun _ _ _ _ h => h
    obtain ⟨lc, R, po, pz, pa, pv, eo, ez, ea, ev, M⟩ := DI_MX D2 Q'
    have e3 := p_M_breaks_t M hv
    exact ⟨_, lw_breaks hi hN (x_breaks_1 c2 e1) M.1 e3 (wr_at M.1) (fun h => absurd h ne_10), I_end (w1 := hy_tw w) (ft := nI 1) (CI_tw C') (DI_40 D2) Q' ⟨o, h60⟩ (fun j c hj h => by rw [wr_ne (by omega)]; exact h) rfl (by show 8 * K ≤ w.2.1 - 1; omega) (by show 2000 * K ≤ w.2.2 - 6; omega)⟩
  · obtain ⟨p, hp, hvp⟩ := v_in qn hv
    obtain ⟨w1, R1, e1⟩ := p_H_breaks X hp
    have z60 := (Rd_ne R1 (k := 60) (by omega)).trans h60
    have hnb : hy_nb (hy_Y n (r l) (hy_sh l F) (hy_sh l L) (hy_sh l T) x) n := nb_Y
    generalize hY : hy_Y n (r l) (hy_sh l F) (hy_sh l L) (hy_sh l T) x = Y at e1 hnb
    have same : (hy_iw Y p && hy_cb (hy_val Y n (hy_of l PM) (hy_of l EM) p) (lf l) (rg l) (p - hy_bg Y p) (hy_wm Y n (hy_bg Y p))) = hy_brk Y n l PM EM (lf l) (rg l) p := by
      cases q : hy_iw Y p
      · unfold hy_brk
        rw [q, Bool.false_and, Bool.false_and]
      · rw [Bool.true_and]
        exact cb_same hnb qop qoe que q
    rw [same, ← hvp] at e1
    have e2 := x_breaks_s c2 e1 z60
    have D2 : hy_DI (hy_wr w1 60 (oc_o (if hy_b (hy_brk Y n l PM EM (lf l) (rg l) p) = nI 0 then 0 else 1))) ft l td n tl x F L T lf rg r PM EM := DI_fr D fun j c h1 h2 h => by rw [wr_ne (by omega), Rd_ne R1 (by omega)]; exact h
    obtain ⟨lc, R, po, pz, pa, pv, eo, ez, ea, ev, M⟩ := DI_MX D2 Q'
    have e3 := p_M_breaks M hp
    rw [← hvp, hY] at e3
    have hl2 := Rd_2 R1
    exact ⟨_, lw_breaks hi hN e2 M.1 e3 (wr_at M.1) (fun _ => by rw [wr_ne (by omega)]; exact wr_at z60), I_end (ft := nI 0) (CI_60 (CI_rd C' R1)) (DI_40 D2) Q' ⟨_, wr_at z60⟩ (fun j c hj h => by rw [wr_ne (by omega)]; exact h) rfl (by show 8 * K ≤ w1.2.1; rw [hl2]; omega) (by show 2000 * K ≤ w1.2.2; rw [hl2]; omega)⟩
theorem s_word (I : hy_I (K + 1) w) (hi : i + 6 ≤ N) (hN : N ≤ 3072) : ∃ w2, hy_fx (nx_X_law N xs) (730, [.ref 2, .ref 40, .ref 60, .int (nI i)], w) = hy_fx (nx_X_law N xs) (23, [.ref 2, .ref 40, .ref 60, .int (nI (i + 6))], w2) ∧ hy_I K w2 := by
  obtain ⟨ft, l, td, n, tl, x, F, L, T, lf, rg, r, PM, EM, o, C, D, Q, h60, b1, b2⟩ := I
  obtain ⟨ar, br, X⟩ := CI_CX C Q
  obtain ⟨lc, R, po, pz, pa, pv, eo, ez, ea, ev, M⟩ := DI_MX D Q
  have c2 := X.1.1
  by_cases q : xs (i + 2) = nI 0
  · exact ⟨_, lw_word_f hi hN q c2 (p_H_word X.1 _ _) M.1 (p_M_word M _ _), I_end (w1 := w) (ft := nI 0) C (DI_40 D) Q ⟨o, h60⟩ (fun j c hj h => by rw [wr_ne (by omega)]; exact h) rfl (by omega) (by omega)⟩
  · exact ⟨_, lw_word_t hi hN q c2 (p_H_word X.1 _ _) M.1 (p_M_word M _ _), I_end (w1 := w) (ft := nI 0) C (DI_40 D) Q ⟨o, h60⟩ (fun j c hj h => by rw [wr_ne (by omega)]; exact h) rfl (by omega) (by omega)⟩
theorem s_count (I : hy_I (K + 1) w) (hi : i + 6 ≤ N) (hN : N ≤ 3072) : ∃ w2, hy_fx (nx_X_law N xs) (783, [.ref 2, .ref 40, .ref 60, .int (nI i)], w) = hy_fx (nx_X_law N xs) (23, [.ref 2, .ref 40, .ref 60, .int (nI (i + 6))], w2) ∧ hy_I K w2 := by
  obtain ⟨ft, l, td, n, tl, x, F, L, T, lf, rg, r, PM, EM, o, C, D, Q, h60, b1, b2⟩ := I
  obtain ⟨ar, br, X⟩ := CI_CX C Q
  have c2 := X.1.1
  obtain ⟨w1, R1, e1⟩ := p_H_count C Q (xs (i + 1))
  have D2 : hy_DI w1 ft l td n tl x F L T lf rg r PM EM := DI_fr D fun j c h1 h2 h => by rw [Rd_ne R1 (by omega)]; exact h
  obtain ⟨lc, R, po, pz, pa, pv, eo, ez, ea, ev, M⟩ := DI_MX D2 Q
  have hl2 := Rd_2 R1
  exact ⟨_, lw_count hi hN c2 e1 M.1 (p_M_count M _), I_end (w1 := w1) (ft := nI 0) (CI_rd C R1) (DI_40 D2) Q ⟨o, (Rd_ne R1 (by omega)).trans h60⟩ (fun j c hj h => by rw [wr_ne (by omega)]; exact h) rfl (by rw [hl2]; omega) (by rw [hl2]; omega)⟩
end ASS
