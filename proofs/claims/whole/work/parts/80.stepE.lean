/-! AN EXCEPTION told on both sides -/
section SES
variable {N : Nat} {xs : Nat → Int32} {w : hy_W} {i K : Nat}
theorem s_exception (I : hy_I (K + 1) w) (hi : i + 6 ≤ N) (hN : N ≤ 3072) : ∃ w2, hy_fx (nx_X_law N xs) (437, [.ref 2, .ref 40, .ref 60, .int (nI i)], w) = hy_fx (nx_X_law N xs) (23, [.ref 2, .ref 40, .ref 60, .int (nI (i + 6))], w2) ∧ hy_I K w2 := by
  obtain ⟨ft, l, td, n, tl, x, F, L, T, lf, rg, r, PM, EM, o, C, h, Q, h60, b1, b2⟩ := I
  have C' := C
  have Q' := Q
  obtain ⟨⟨f5, f8, nd, sd, vd, s, m, c, sr, gr, c2, c3, c4, c5, c6, c7, c8, c9, c10, c11, c12, c13, c14, c15⟩, C2, A, A1, A2⟩ := C
  obtain ⟨lc, R, f48, rl, rv, po, pz, pa, pv, eo, ez, ea, ev, ⟨m40, m41, m42, m43, m44, m45, m46, m47, m48, m49, m50, m51, m52, m53, m54, m55, m56, m57, m58, m59⟩, mR, tp, te⟩ := h
  obtain ⟨ql, qt, qn, qr, qv, qp, qe, qop, qoe, qup, que⟩ := Q
  have hlen : 60 < w.1.length := (List.getElem?_eq_some_iff.mp h60).1
  have hle := rr_le (tl := tl) td
  cases hs : hy_isE (hy_rr tl td)
  · obtain ⟨w1, e1, CN, kk', hl2⟩ := p_H_exception_f C' qt hs (by omega) (by omega)
    have kk : ∀ j, 40 ≤ j → j < 60 → w1.1[j]? = w.1[j]? := fun j h1 h2 => kk' j h1 (by omega)
    have z60 := (kk' 60 (by omega) (by omega)).trans h60
    have m40 := (kk 40 (by omega) (by omega)).trans m40
    have m41 := (kk 41 (by omega) (by omega)).trans m41
    have m42 := (kk 42 (by omega) (by omega)).trans m42
    have m43 := (kk 43 (by omega) (by omega)).trans m43
    have m44 := (kk 44 (by omega) (by omega)).trans m44
    have m45 := (kk 45 (by omega) (by omega)).trans m45
    have m46 := (kk 46 (by omega) (by omega)).trans m46
    have m47 := (kk 47 (by omega) (by omega)).trans m47
    have m48 := (kk 48 (by omega) (by omega)).trans m48
    have m49 := (kk 49 (by omega) (by omega)).trans m49
    have m50 := (kk 50 (by omega) (by omega)).trans m50
    have m51 := (kk 51 (by omega) (by omega)).trans m51
    have m52 := (kk 52 (by omega) (by omega)).trans m52
    have m53 := (kk 53 (by omega) (by omega)).trans m53
    have m54 := (kk 54 (by omega) (by omega)).trans m54
    have m55 := (kk 55 (by omega) (by omega)).trans m55
    have m56 := (kk 56 (by omega) (by omega)).trans m56
    have m57 := (kk 57 (by omega) (by omega)).trans m57
    have m58 := (kk 58 (by omega) (by omega)).trans m58
    have m59 := (kk 59 (by omega) (by omega)).trans m59
    have hw1 : 59 < w1.1.length := by have := (List.getElem?_eq_some_iff.mp z60).1; omega
    obtain ⟨rl', rv', e3⟩ := p_M_exception_f (w := hy_tw w1) (ft := ft) (l := l) (lc := lc) (oth := PM.length) (sz := n) (rl := rl) (rv := rv) (cc := EM.length) hw1 m47 qt hs
    rw [mr_self (w := hy_tw w1) m40 m49 m50] at e3
    refine ⟨_, lw_exception hi hN (x_exception_1 c2 e1) m40 e3 (mr_40 (w := hy_tw w1) (by show 50 < w1.1.length; omega)) (fun h => absurd h ne_10), I_end (w1 := hy_tw w1) (ft := nI 1) (CI_tw CN) ⟨(hy_rr tl td).1, R, f48, rl', rv', po, pz, pa, pv, eo, ez, ea, ev, ?_, mR, tp, te⟩ Q' ⟨o, z60⟩ (fun j c hj h => (mr_ne (by omega)).trans h) rfl (by show 8 * K ≤ w1.2.1 - 1; rw [hl2]; omega) (by show 2000 * K ≤ w1.2.2 - 6; rw [hl2]; omega)⟩
    unfold hy_Dc hy_mr
    simp (disch := omega) only [e_gi, e_gr, e_ob, e_ai, e_ar, e_ln, e_pf, e_pa, wr_eq, wr_ne, wr_wr, Option.map_some, Option.bind_some, hy_bi_s, hy_br_s, hy_bv_s, hy_xi_s, hy_xi_t, hy_xv_s, hy_xv_t, hy_k_l, hy_k_r, ia_ai, ia_pa, ia_ln, oc_a_ar, oc_o_pa, oc_r_ln, n_le_t, n_le_f, n_lt_t, n_lt_f, n_eq_t, n_eq_f, nI_add, pk_mul, n_sub, n_prd, ne_1, hy_b_t, hy_b_f, ↓reduceIte, true_or, or_true, Bool.false_eq_true, or_false, false_or, and_true, true_and, and_false, false_and, li_c, li_0, li_1, li_2, li_3, li_4, li_5, li_6, li_10, li_11, li_16, li_17, li_20, li_40, li_41, li_300, li_400, oc_H_ob, oc_H_g0, oc_H_g1, oc_H_g2, oc_H_g3, oc_H_g4, oc_H_p5, oc_H_g5, oc_N_ob, oc_N_g0, oc_N_p1, oc_N_g1, oc_N_g2, oc_N_p3, oc_N_g3, oc_D_ob, oc_D_g0, oc_D_g1, oc_D_p2, oc_D_g2, oc_G_ob, oc_G_g0, oc_G_g1, oc_G_p2, oc_G_g2, oc_G_p3, oc_G_g3, oc_G_p4, oc_G_g4, oc_L_ob, oc_L_g0, oc_L_g1, oc_L_g2, oc_L_g3, oc_L_g4, oc_L_p5, oc_L_g5, oc_L_p6, oc_L_g6, oc_L_p7, oc_L_g7, oc_A_ob, oc_A_g0, oc_A_p1, oc_A_g1, oc_A_p2, oc_A_g2, oc_A_p0, oc_U_ob, oc_U_g0, oc_U_g1, oc_M_ob, oc_M_p0, oc_M_g0, oc_M_p1, oc_M_g1, oc_M_g2, oc_M_g3, oc_M_g4, oc_M_g5, oc_M_g6, oc_M_g7, oc_M_p8, oc_M_g8, oc_M_g9, oc_M_g10, oc_M_p11, oc_M_g11, oc_M_g12, oc_M_g13, oc_M_p14, oc_M_g14, oc_M_g15, oc_M_g16, oc_M_g17, oc_M_g18, oc_M_p19, oc_M_g19, oc_M_g20, oc_M_g21, oc_M_g22, oc_M_g23, oc_M_p24, oc_M_g24, oc_M_g25, tw_get, m40, m41, m42, m43, m44, m45, m46, m47, m48, m49, m50, m51, m52, m53, m54, m55, m56, m57, m58, m59]
  · have hb1 : 4 ≤ w.2.1 := by omega
    have hb2 : 1100 ≤ w.2.2 := by omega
    obtain ⟨h1s, h2s, h3s⟩ := p_H_exception_k C' Q' hs hlen hb1 hb2
    have h1le := isE_le hs
    have q1 : (hy_eE tl td).1.length = (hy_rr tl td).1 := tk_len
    have q2 : (hy_eE tl td).2.length = (hy_rr tl td).1 + 1 := tk_len
    -- the reference, on any world like this one
    have ref : ∀ w1 : hy_W, 59 < w1.1.length → (∀ j, 40 ≤ j → j < 60 → w1.1[j]? = w.1[j]?) → ∃ rl' rv', hy_ag (hy_rr tl td) rl' rv' ∧
        (∀ p, hy_fl (hy_ml l (hy_rr tl td).2.1 0 (hy_rr tl td).1) EM 0 none = some p → f_M_exception [.ref 40] w1 = some (.inl (some (.int (nI (hy_rr tl td).1))), hy_tE (hy_mr w1 (nI 0) l 0 (hy_rr tl td).1 PM.length EM.length n rl' rv') (hy_up eo p (nI l)) (hy_up ez p (nI (hy_rr tl td).1)) (hy_apd (40 * p) (hy_rr tl td).1 rl' ea) (hy_apd (41 * p) ((hy_rr tl td).1 + 1) (hy_hy rv') ev))) ∧
        (hy_fl (hy_ml l (hy_rr tl td).2.1 0 (hy_rr tl td).1) EM 0 none = none → EM.length = 40 → f_M_exception [.ref 40] w1 = some (.inl (some (.int (nI 0))), hy_mr w1 (nI 2) l td (hy_rr tl td).1 PM.length EM.length n rl' rv')) ∧
        (hy_fl (hy_ml l (hy_rr tl td).2.1 0 (hy_rr tl td).1) EM 0 none = none → EM.length < 40 → f_M_exception [.ref 40] w1 = some (.inl (some (.int (nI (hy_rr tl td).1))), hy_tE (hy_mr w1 (nI 0) l 0 (hy_rr tl td).1 PM.length (EM.length + 1) n rl' rv') (hy_up eo EM.length (nI l)) (hy_up ez EM.length (nI (hy_rr tl td).1)) (hy_apd (40 * EM.length) (hy_rr tl td).1 rl' ea) (hy_apd (41 * EM.length) ((hy_rr tl td).1 + 1) (hy_hy rv') ev))) := by
      intro w1 hw1 kk
      have m40 := (kk 40 (by omega) (by omega)).trans m40
      have m41 := (kk 41 (by omega) (by omega)).trans m41
      have m42 := (kk 42 (by omega) (by omega)).trans m42
      have m43 := (kk 43 (by omega) (by omega)).trans m43
      have m44 := (kk 44 (by omega) (by omega)).trans m44
      have m45 := (kk 45 (by omega) (by omega)).trans m45
      have m46 := (kk 46 (by omega) (by omega)).trans m46
      have m47 := (kk 47 (by omega) (by omega)).trans m47
      have m48 := (kk 48 (by omega) (by omega)).trans m48
      have m49 := (kk 49 (by omega) (by omega)).trans m49
      have m50 := (kk 50 (by omega) (by omega)).trans m50
      have m51 := (kk 51 (by omega) (by omega)).trans m51
      have m52 := (kk 52 (by omega) (by omega)).trans m52
      have m53 := (kk 53 (by omega) (by omega)).trans m53
      have m54 := (kk 54 (by omega) (by omega)).trans m54
      have m55 := (kk 55 (by omega) (by omega)).trans m55
      have m56 := (kk 56 (by omega) (by omega)).trans m56
      have m57 := (kk 57 (by omega) (by omega)).trans m57
      have m58 := (kk 58 (by omega) (by omega)).trans m58
      have m59 := (kk 59 (by omega) (by omega)).trans m59
      obtain ⟨rl', rv', hag, g1, g2, g3⟩ := p_M_exception_k (w := w1) (ft := ft) (lc := lc) (oth := PM.length) (sz := n) (rl := rl) (rv := rv) hw1 m47 qt ql qe te hs (by omega)
      rw [tE_self m55 m56 m57 m58, mr_self m40 m49 m50] at g1 g2 g3
      exact ⟨rl', rv', hag, g1, g2, g3⟩
    cases hfl : hy_fl (hy_ml l (hy_rr tl td).2.1 0 (hy_rr tl td).1) EM 0 none with
    | some p =>
      obtain ⟨w1, e1, CN, kk', hl1, hl2⟩ := h1s p hfl
      have hl1 : w.2.1 ≤ w1.2.1 + 4 := Nat.sub_le_iff_le_add.mp hl1
      have hl2 : w.2.2 ≤ w1.2.2 + 1100 := Nat.sub_le_iff_le_add.mp hl2
      obtain ⟨y, iy, y1, y2, y3, y4, y5, y6⟩ := rp_some que hfl
      have z60 := kk' 60 _ (by omega) (by omega) h60
      have hw1 : 59 < w1.1.length := by have := (List.getElem?_eq_some_iff.mp z60).1; omega
      have kk : ∀ j, 40 ≤ j → j < 60 → (hy_wr w1 60 (oc_o (nI (hy_rr tl td).1).toInt64)).1[j]? = w.1[j]? := fun j h1 h2 => by
        rw [wr_ne (by omega)]
        obtain ⟨c, hc⟩ := get_lt (w := w) (k := j) (by omega)
        rw [hc]; exact kk' j c h1 (by omega) hc
      obtain ⟨rl', rv', hag, g1, -, -⟩ := ref (hy_wr w1 60 (oc_o (nI (hy_rr tl td).1).toInt64)) (by rw [wr_len]; exact hw1) kk
      have e3 := g1 p hfl
      have e2 := x_exception_s c2 e1 z60
      have y60 : (hy_wr w1 60 (oc_o (nI (hy_rr tl td).1).toInt64)).1[60]? = some (oc_o (nI (hy_rr tl td).1).toInt64) := wr_at z60
      have CN2 : hy_CI (hy_wr w1 60 (oc_o (nI (hy_rr tl td).1).toInt64)) l 0 n tl x F L T lf rg r PM (EM.set p (l, hy_eE tl td)) := CI_60 CN
      have hw2 : 59 < (hy_wr w1 60 (oc_o (nI (hy_rr tl td).1).toInt64)).1.length := by rw [wr_len]; exact hw1
      have hl3 : (hy_wr w1 60 (oc_o (nI (hy_rr tl td).1).toInt64)).2 = w1.2 := rfl
      generalize hy_wr w1 60 (oc_o (nI (hy_rr tl td).1).toInt64) = w3 at e2 e3 kk y60 CN2 hw2 hl3
      have m40 := (kk 40 (by omega) (by omega)).trans m40
      have m41 := (kk 41 (by omega) (by omega)).trans m41
      have m42 := (kk 42 (by omega) (by omega)).trans m42
      have m43 := (kk 43 (by omega) (by omega)).trans m43
      have m44 := (kk 44 (by omega) (by omega)).trans m44
      have m45 := (kk 45 (by omega) (by omega)).trans m45
      have m46 := (kk 46 (by omega) (by omega)).trans m46
      have m47 := (kk 47 (by omega) (by omega)).trans m47
      have m48 := (kk 48 (by omega) (by omega)).trans m48
      have m49 := (kk 49 (by omega) (by omega)).trans m49
      have m50 := (kk 50 (by omega) (by omega)).trans m50
      have m51 := (kk 51 (by omega) (by omega)).trans m51
      have m52 := (kk 52 (by omega) (by omega)).trans m52
      have m53 := (kk 53 (by omega) (by omega)).trans m53
      have m54 := (kk 54 (by omega) (by omega)).trans m54
      have m55 := (kk 55 (by omega) (by omega)).trans m55
      have m56 := (kk 56 (by omega) (by omega)).trans m56
      have m57 := (kk 57 (by omega) (by omega)).trans m57
      have m58 := (kk 58 (by omega) (by omega)).trans m58
      have m59 := (kk 59 (by omega) (by omega)).trans m59
      refine ⟨_, lw_exception hi hN e2 m40 e3 ((tE_ne (by omega)).trans (mr_40 (by omega))) (fun _ => (tE_ne (by omega)).trans ((mr_ne (by omega)).trans y60)), I_end (w1 := w3) (ft := nI 0) CN2 ⟨(hy_rr tl td).1, R, f48, rl', rv', po, pz, pa, pv, hy_up eo p (nI l), hy_up ez p (nI (hy_rr tl td).1), hy_apd (40 * p) (hy_rr tl td).1 rl' ea, hy_apd (41 * p) ((hy_rr tl td).1 + 1) (hy_hy rv') ev, ?_, mR, tp, ?_⟩ ⟨ql, by omega, qn, qr, fun j hj => by omega, qp, by rw [List.length_set]; exact qe, qop, ok_set qoe (ok_eE ql hs qt), qup, ?_⟩ ⟨_, y60⟩ (fun j c hj h => (tE_ne (by omega)).trans ((mr_ne (by omega)).trans h)) rfl (by rw [hl3]; omega) (by rw [hl3]; omega)⟩
      · unfold hy_Dc hy_tE hy_mr
        simp (disch := omega) only [e_gi, e_gr, e_ob, e_ai, e_ar, e_ln, e_pf, e_pa, wr_eq, wr_ne, wr_wr, Option.map_some, Option.bind_some, hy_bi_s, hy_br_s, hy_bv_s, hy_xi_s, hy_xi_t, hy_xv_s, hy_xv_t, hy_k_l, hy_k_r, ia_ai, ia_pa, ia_ln, oc_a_ar, oc_o_pa, oc_r_ln, n_le_t, n_le_f, n_lt_t, n_lt_f, n_eq_t, n_eq_f, nI_add, pk_mul, n_sub, n_prd, ne_1, hy_b_t, hy_b_f, ↓reduceIte, true_or, or_true, Bool.false_eq_true, or_false, false_or, and_true, true_and, and_false, false_and, li_c, li_0, li_1, li_2, li_3, li_4, li_5, li_6, li_10, li_11, li_16, li_17, li_20, li_40, li_41, li_300, li_400, oc_H_ob, oc_H_g0, oc_H_g1, oc_H_g2, oc_H_g3, oc_H_g4, oc_H_p5, oc_H_g5, oc_N_ob, oc_N_g0, oc_N_p1, oc_N_g1, oc_N_g2, oc_N_p3, oc_N_g3, oc_D_ob, oc_D_g0, oc_D_g1, oc_D_p2, oc_D_g2, oc_G_ob, oc_G_g0, oc_G_g1, oc_G_p2, oc_G_g2, oc_G_p3, oc_G_g3, oc_G_p4, oc_G_g4, oc_L_ob, oc_L_g0, oc_L_g1, oc_L_g2, oc_L_g3, oc_L_g4, oc_L_p5, oc_L_g5, oc_L_p6, oc_L_g6, oc_L_p7, oc_L_g7, oc_A_ob, oc_A_g0, oc_A_p1, oc_A_g1, oc_A_p2, oc_A_g2, oc_A_p0, oc_U_ob, oc_U_g0, oc_U_g1, oc_M_ob, oc_M_p0, oc_M_g0, oc_M_p1, oc_M_g1, oc_M_g2, oc_M_g3, oc_M_g4, oc_M_g5, oc_M_g6, oc_M_g7, oc_M_p8, oc_M_g8, oc_M_g9, oc_M_g10, oc_M_p11, oc_M_g11, oc_M_g12, oc_M_g13, oc_M_p14, oc_M_g14, oc_M_g15, oc_M_g16, oc_M_g17, oc_M_g18, oc_M_p19, oc_M_g19, oc_M_g20, oc_M_g21, oc_M_g22, oc_M_g23, oc_M_p24, oc_M_g24, oc_M_g25, List.length_set, m40, m41, m42, m43, m44, m45, m46, m47, m48, m49, m50, m51, m52, m53, m54, m55, m56, m57, m58, m59]
      · exact TB_Eset te (fun i x hx => set_at i x hx) rfl ql q1 (by omega) (by omega) q2 (fun k hk => (hag.1 k hk).trans (tk_g hk).symm) (fun k hk => by rw [show hy_g (hy_eE tl td).2 k = hy_hy (hy_rr tl td).2.2.1 k from tk_g hk]; unfold hy_hy; rw [hag.2 k hk])
      · exact un_set que y1 y2.symm (sm_eq (sm_self (X := (hy_rr tl td).2.1) (n := (hy_rr tl td).1)) y3)
    | none =>
      by_cases hf : EM.length = 40
      · obtain ⟨w1, e1, CN, kk', hl2⟩ := h2s hfl hf
        have kk : ∀ j, 40 ≤ j → j < 60 → w1.1[j]? = w.1[j]? := fun j h1 h2 => kk' j h1 (by omega)
        have z60 := (kk' 60 (by omega) (by omega)).trans h60
        have hw1 : 59 < w1.1.length := by have := (List.getElem?_eq_some_iff.mp z60).1; omega
        obtain ⟨rl', rv', hag, -, g2, -⟩ := ref (hy_tw w1) hw1 kk
        have e3 := g2 hfl hf
        have m40 := (kk 40 (by omega) (by omega)).trans m40
        have m41 := (kk 41 (by omega) (by omega)).trans m41
        have m42 := (kk 42 (by omega) (by omega)).trans m42
        have m43 := (kk 43 (by omega) (by omega)).trans m43
        have m44 := (kk 44 (by omega) (by omega)).trans m44
        have m45 := (kk 45 (by omega) (by omega)).trans m45
        have m46 := (kk 46 (by omega) (by omega)).trans m46
        have m47 := (kk 47 (by omega) (by omega)).trans m47
        have m48 := (kk 48 (by omega) (by omega)).trans m48
        have m49 := (kk 49 (by omega) (by omega)).trans m49
        have m50 := (kk 50 (by omega) (by omega)).trans m50
        have m51 := (kk 51 (by omega) (by omega)).trans m51
        have m52 := (kk 52 (by omega) (by omega)).trans m52
        have m53 := (kk 53 (by omega) (by omega)).trans m53
        have m54 := (kk 54 (by omega) (by omega)).trans m54
        have m55 := (kk 55 (by omega) (by omega)).trans m55
        have m56 := (kk 56 (by omega) (by omega)).trans m56
        have m57 := (kk 57 (by omega) (by omega)).trans m57
        have m58 := (kk 58 (by omega) (by omega)).trans m58
        have m59 := (kk 59 (by omega) (by omega)).trans m59
        refine ⟨_, lw_exception hi hN (x_exception_2 c2 e1) m40 e3 (mr_40 (w := hy_tw w1) (by show 50 < w1.1.length; omega)) (fun h => absurd h ne_20), I_end (w1 := hy_tw w1) (ft := nI 2) (CI_tw CN) ⟨(hy_rr tl td).1, R, f48, rl', rv', po, pz, pa, pv, eo, ez, ea, ev, ?_, mR, tp, te⟩ Q' ⟨o, z60⟩ (fun j c hj h => (mr_ne (by omega)).trans h) rfl (by show 8 * K ≤ w1.2.1 - 1; rw [hl2]; omega) (by show 2000 * K ≤ w1.2.2 - 6; rw [hl2]; omega)⟩
        unfold hy_Dc hy_mr
        simp (disch := omega) only [e_gi, e_gr, e_ob, e_ai, e_ar, e_ln, e_pf, e_pa, wr_eq, wr_ne, wr_wr, Option.map_some, Option.bind_some, hy_bi_s, hy_br_s, hy_bv_s, hy_xi_s, hy_xi_t, hy_xv_s, hy_xv_t, hy_k_l, hy_k_r, ia_ai, ia_pa, ia_ln, oc_a_ar, oc_o_pa, oc_r_ln, n_le_t, n_le_f, n_lt_t, n_lt_f, n_eq_t, n_eq_f, nI_add, pk_mul, n_sub, n_prd, ne_1, hy_b_t, hy_b_f, ↓reduceIte, true_or, or_true, Bool.false_eq_true, or_false, false_or, and_true, true_and, and_false, false_and, li_c, li_0, li_1, li_2, li_3, li_4, li_5, li_6, li_10, li_11, li_16, li_17, li_20, li_40, li_41, li_300, li_400, oc_H_ob, oc_H_g0, oc_H_g1, oc_H_g2, oc_H_g3, oc_H_g4, oc_H_p5, oc_H_g5, oc_N_ob, oc_N_g0, oc_N_p1, oc_N_g1, oc_N_g2, oc_N_p3, oc_N_g3, oc_D_ob, oc_D_g0, oc_D_g1, oc_D_p2, oc_D_g2, oc_G_ob, oc_G_g0, oc_G_g1, oc_G_p2, oc_G_g2, oc_G_p3, oc_G_g3, oc_G_p4, oc_G_g4, oc_L_ob, oc_L_g0, oc_L_g1, oc_L_g2, oc_L_g3, oc_L_g4, oc_L_p5, oc_L_g5, oc_L_p6, oc_L_g6, oc_L_p7, oc_L_g7, oc_A_ob, oc_A_g0, oc_A_p1, oc_A_g1, oc_A_p2, oc_A_g2, oc_A_p0, oc_U_ob, oc_U_g0, oc_U_g1, oc_M_ob, oc_M_p0, oc_M_g0, oc_M_p1, oc_M_g1, oc_M_g2, oc_M_g3, oc_M_g4, oc_M_g5, oc_M_g6, oc_M_g7, oc_M_p8, oc_M_g8, oc_M_g9, oc_M_g10, oc_M_p11, oc_M_g11, oc_M_g12, oc_M_g13, oc_M_p14, oc_M_g14, oc_M_g15, oc_M_g16, oc_M_g17, oc_M_g18, oc_M_p19, oc_M_g19, oc_M_g20, oc_M_g21, oc_M_g22, oc_M_g23, oc_M_p24, oc_M_g24, oc_M_g25, tw_get, m40, m41, m42, m43, m44, m45, m46, m47, m48, m49, m50, m51, m52, m53, m54, m55, m56, m57, m58, m59]
      · have hf' : EM.length < 40 := by omega
        obtain ⟨w1, e1, CN, kk', hl1, hl2⟩ := h3s hfl hf'
        have hl1 : w.2.1 ≤ w1.2.1 + 4 := Nat.sub_le_iff_le_add.mp hl1
        have hl2 : w.2.2 ≤ w1.2.2 + 1100 := Nat.sub_le_iff_le_add.mp hl2
        have z60 := kk' 60 _ (by omega) (by omega) h60
        have hw1 : 59 < w1.1.length := by have := (List.getElem?_eq_some_iff.mp z60).1; omega
        have kk : ∀ j, 40 ≤ j → j < 60 → (hy_wr w1 60 (oc_o (nI (hy_rr tl td).1).toInt64)).1[j]? = w.1[j]? := fun j h1 h2 => by
          rw [wr_ne (by omega)]
          obtain ⟨c, hc⟩ := get_lt (w := w) (k := j) (by omega)
          rw [hc]; exact kk' j c h1 (by omega) hc
        obtain ⟨rl', rv', hag, -, -, g3⟩ := ref (hy_wr w1 60 (oc_o (nI (hy_rr tl td).1).toInt64)) (by rw [wr_len]; exact hw1) kk
        have e3 := g3 hfl hf'
        have e2 := x_exception_s c2 e1 z60
        have y60 : (hy_wr w1 60 (oc_o (nI (hy_rr tl td).1).toInt64)).1[60]? = some (oc_o (nI (hy_rr tl td).1).toInt64) := wr_at z60
        have CN2 : hy_CI (hy_wr w1 60 (oc_o (nI (hy_rr tl td).1).toInt64)) l 0 n tl x F L T lf rg r PM (EM ++ [(l, hy_eE tl td)]) := CI_60 CN
        have hw2 : 59 < (hy_wr w1 60 (oc_o (nI (hy_rr tl td).1).toInt64)).1.length := by rw [wr_len]; exact hw1
        have hl3 : (hy_wr w1 60 (oc_o (nI (hy_rr tl td).1).toInt64)).2 = w1.2 := rfl
        generalize hy_wr w1 60 (oc_o (nI (hy_rr tl td).1).toInt64) = w3 at e2 e3 kk y60 CN2 hw2 hl3
        have m40 := (kk 40 (by omega) (by omega)).trans m40
        have m41 := (kk 41 (by omega) (by omega)).trans m41
        have m42 := (kk 42 (by omega) (by omega)).trans m42
        have m43 := (kk 43 (by omega) (by omega)).trans m43
        have m44 := (kk 44 (by omega) (by omega)).trans m44
        have m45 := (kk 45 (by omega) (by omega)).trans m45
        have m46 := (kk 46 (by omega) (by omega)).trans m46
        have m47 := (kk 47 (by omega) (by omega)).trans m47
        have m48 := (kk 48 (by omega) (by omega)).trans m48
        have m49 := (kk 49 (by omega) (by omega)).trans m49
        have m50 := (kk 50 (by omega) (by omega)).trans m50
        have m51 := (kk 51 (by omega) (by omega)).trans m51
        have m52 := (kk 52 (by omega) (by omega)).trans m52
        have m53 := (kk 53 (by omega) (by omega)).trans m53
        have m54 := (kk 54 (by omega) (by omega)).trans m54
        have m55 := (kk 55 (by omega) (by omega)).trans m55
        have m56 := (kk 56 (by omega) (by omega)).trans m56
        have m57 := (kk 57 (by omega) (by omega)).trans m57
        have m58 := (kk 58 (by omega) (by omega)).trans m58
        have m59 := (kk 59 (by omega) (by omega)).trans m59
        have hlA : (EM ++ [(l, hy_eE tl td)]).length = EM.length + 1 := by rw [List.length_append]; rfl
        refine ⟨_, lw_exception hi hN e2 m40 e3 ((tE_ne (by omega)).trans (mr_40 (by omega))) (fun _ => (tE_ne (by omega)).trans ((mr_ne (by omega)).trans y60)), I_end (w1 := w3) (ft := nI 0) CN2 ⟨(hy_rr tl td).1, R, f48, rl', rv', po, pz, pa, pv, hy_up eo EM.length (nI l), hy_up ez EM.length (nI (hy_rr tl td).1), hy_apd (40 * EM.length) (hy_rr tl td).1 rl' ea, hy_apd (41 * EM.length) ((hy_rr tl td).1 + 1) (hy_hy rv') ev, ?_, mR, tp, ?_⟩ ⟨ql, by omega, qn, qr, fun j hj => by omega, qp, by omega, qop, ok_app qoe (ok_eE ql hs qt), qup, ?_⟩ ⟨_, y60⟩ (fun j c hj h => (tE_ne (by omega)).trans ((mr_ne (by omega)).trans h)) rfl (by rw [hl3]; omega) (by rw [hl3]; omega)⟩
        · unfold hy_Dc hy_tE hy_mr
          simp (disch := omega) only [e_gi, e_gr, e_ob, e_ai, e_ar, e_ln, e_pf, e_pa, wr_eq, wr_ne, wr_wr, Option.map_some, Option.bind_some, hy_bi_s, hy_br_s, hy_bv_s, hy_xi_s, hy_xi_t, hy_xv_s, hy_xv_t, hy_k_l, hy_k_r, ia_ai, ia_pa, ia_ln, oc_a_ar, oc_o_pa, oc_r_ln, n_le_t, n_le_f, n_lt_t, n_lt_f, n_eq_t, n_eq_f, nI_add, pk_mul, n_sub, n_prd, ne_1, hy_b_t, hy_b_f, ↓reduceIte, true_or, or_true, Bool.false_eq_true, or_false, false_or, and_true, true_and, and_false, false_and, li_c, li_0, li_1, li_2, li_3, li_4, li_5, li_6, li_10, li_11, li_16, li_17, li_20, li_40, li_41, li_300, li_400, oc_H_ob, oc_H_g0, oc_H_g1, oc_H_g2, oc_H_g3, oc_H_g4, oc_H_p5, oc_H_g5, oc_N_ob, oc_N_g0, oc_N_p1, oc_N_g1, oc_N_g2, oc_N_p3, oc_N_g3, oc_D_ob, oc_D_g0, oc_D_g1, oc_D_p2, oc_D_g2, oc_G_ob, oc_G_g0, oc_G_g1, oc_G_p2, oc_G_g2, oc_G_p3, oc_G_g3, oc_G_p4, oc_G_g4, oc_L_ob, oc_L_g0, oc_L_g1, oc_L_g2, oc_L_g3, oc_L_g4, oc_L_p5, oc_L_g5, oc_L_p6, oc_L_g6, oc_L_p7, oc_L_g7, oc_A_ob, oc_A_g0, oc_A_p1, oc_A_g1, oc_A_p2, oc_A_g2, oc_A_p0, oc_U_ob, oc_U_g0, oc_U_g1, oc_M_ob, oc_M_p0, oc_M_g0, oc_M_p1, oc_M_g1, oc_M_g2, oc_M_g3, oc_M_g4, oc_M_g5, oc_M_g6, oc_M_g7, oc_M_p8, oc_M_g8, oc_M_g9, oc_M_g10, oc_M_p11, oc_M_g11, oc_M_g12, oc_M_g13, oc_M_p14, oc_M_g14, oc_M_g15, oc_M_g16, oc_M_g17, oc_M_g18, oc_M_p19, oc_M_g19, oc_M_g20, oc_M_g21, oc_M_g22, oc_M_g23, oc_M_p24, oc_M_g24, oc_M_g25, hlA, m40, m41, m42, m43, m44, m45, m46, m47, m48, m49, m50, m51, m52, m53, m54, m55, m56, m57, m58, m59]
        · exact TB_Eset te (fun i x hx => app_at i x hx) rfl ql q1 (by omega) (by omega) q2 (fun k hk => (hag.1 k hk).trans (tk_g hk).symm) (fun k hk => by rw [show hy_g (hy_eE tl td).2 k = hy_hy (hy_rr tl td).2.2.1 k from tk_g hk]; unfold hy_hy; rw [hag.2 k hk])
        · exact un_app que (nw_un hfl (sm_self (X := (hy_rr tl td).2.1) (n := (hy_rr tl td).1)))
end SES
