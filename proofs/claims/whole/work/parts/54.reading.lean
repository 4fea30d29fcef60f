/-! READING: a word is spelled and weighed -/
def hy_rd (w : hy_W) (s m : Nat) (c : Int32) (sp G : Nat → Int32) : hy_W := hy_wr (hy_wr (hy_wr w 13 (oc_G s m c)) 14 (hy_ia 402 sp)) 15 (hy_ia 403 G)
section RDS
variable {w : hy_W} {s m s' m' : Nat} {c c' : Int32} {sp G sp' G' : Nat → Int32}
theorem get_lt {w : hy_W} {k : Nat} (h : k < w.1.length) : ∃ c, w.1[k]? = some c := ⟨_, List.getElem?_eq_getElem h⟩
theorem rd_13 (hw : 15 < w.1.length) : (hy_rd w s m c sp G).1[13]? = some (oc_G s m c) := by
  obtain ⟨d, hd⟩ := get_lt (w := w) (k := 13) (by omega)
  unfold hy_rd
  simp (disch := omega) only [e_gi, e_gr, e_ob, e_ai, e_ar, e_ln, e_pf, e_pa, wr_eq, wr_ne, wr_wr, Option.map_some, Option.bind_some, hy_bi_s, hy_br_s, hy_bv_s, hy_xi_s, hy_xi_t, hy_xv_s, hy_xv_t, hy_k_l, hy_k_r, ia_ai, ia_pa, ia_ln, oc_a_ar, oc_o_pa, oc_r_ln, n_le_t, n_le_f, n_lt_t, n_lt_f, n_eq_t, n_eq_f, nI_add, pk_mul, n_sub, n_prd, ne_1, hy_b_t, hy_b_f, ↓reduceIte, true_or, or_true, Bool.false_eq_true, or_false, false_or, and_true, true_and, and_false, false_and, li_c, li_0, li_1, li_2, li_3, li_4, li_5, li_6, li_10, li_11, li_16, li_17, li_20, li_40, li_41, li_300, li_400, oc_H_ob, oc_H_g0, oc_H_g1, oc_H_g2, oc_H_g3, oc_H_g4, oc_H_p5, oc_H_g5, oc_N_ob, oc_N_g0, oc_N_p1, oc_N_g1, oc_N_g2, oc_N_p3, oc_N_g3, oc_D_ob, oc_D_g0, oc_D_g1, oc_D_p2, oc_D_g2, oc_G_ob, oc_G_g0, oc_G_g1, oc_G_p2, oc_G_g2, oc_G_p3, oc_G_g3, oc_G_p4, oc_G_g4, oc_L_ob, oc_L_g0, oc_L_g1, oc_L_g2, oc_L_g3, oc_L_g4, oc_L_p5, oc_L_g5, oc_L_p6, oc_L_g6, oc_L_p7, oc_L_g7, oc_A_ob, oc_A_g0, oc_A_p1, oc_A_g1, oc_A_p2, oc_A_g2, oc_A_p0, oc_U_ob, oc_U_g0, oc_U_g1, oc_M_ob, oc_M_p0, oc_M_g0, oc_M_p1, oc_M_g1, oc_M_g2, oc_M_g3, oc_M_g4, oc_M_g5, oc_M_g6, oc_M_g7, oc_M_p8, oc_M_g8, oc_M_g9, oc_M_g10, oc_M_p11, oc_M_g11, oc_M_g12, oc_M_g13, oc_M_p14, oc_M_g14, oc_M_g15, oc_M_g16, oc_M_g17, oc_M_g18, oc_M_p19, oc_M_g19, oc_M_g20, oc_M_g21, oc_M_g22, oc_M_g23, oc_M_p24, oc_M_g24, oc_M_g25, hd]
theorem rd_14 (hw : 15 < w.1.length) : (hy_rd w s m c sp G).1[14]? = some (hy_ia 402 sp) := by
  obtain ⟨d, hd⟩ := get_lt (w := w) (k := 14) (by omega)
  unfold hy_rd
  simp (disch := omega) only [e_gi, e_gr, e_ob, e_ai, e_ar, e_ln, e_pf, e_pa, wr_eq, wr_ne, wr_wr, Option.map_some, Option.bind_some, hy_bi_s, hy_br_s, hy_bv_s, hy_xi_s, hy_xi_t, hy_xv_s, hy_xv_t, hy_k_l, hy_k_r, ia_ai, ia_pa, ia_ln, oc_a_ar, oc_o_pa, oc_r_ln, n_le_t, n_le_f, n_lt_t, n_lt_f, n_eq_t, n_eq_f, nI_add, pk_mul, n_sub, n_prd, ne_1, hy_b_t, hy_b_f, ↓reduceIte, true_or, or_true, Bool.false_eq_true, or_false, false_or, and_true, true_and, and_false, false_and, li_c, li_0, li_1, li_2, li_3, li_4, li_5, li_6, li_10, li_11, li_16, li_17, li_20, li_40, li_41, li_300, li_400, oc_H_ob, oc_H_g0, oc_H_g1, oc_H_g2, oc_H_g3, oc_H_g4, oc_H_p5, oc_H_g5, oc_N_ob, oc_N_g0, oc_N_p1, oc_N_g1, oc_N_g2, oc_N_p3, oc_N_g3, oc_D_ob, oc_D_g0, oc_D_g1, oc_D_p2, oc_D_g2, oc_G_ob, oc_G_g0, oc_G_g1, oc_G_p2, oc_G_g2, oc_G_p3, oc_G_g3, oc_G_p4, oc_G_g4, oc_L_ob, oc_L_g0, oc_L_g1, oc_L_g2, oc_L_g3, oc_L_g4, oc_L_p5, oc_L_g5, oc_L_p6, oc_L_g6, oc_L_p7, oc_L_g7, oc_A_ob, oc_A_g0, oc_A_p1, oc_A_g1, oc_A_p2, oc_A_g2, oc_A_p0, oc_U_ob, oc_U_g0, oc_U_g1, oc_M_ob, oc_M_p0, oc_M_g0, oc_M_p1, oc_M_g1, oc_M_g2, oc_M_g3, oc_M_g4, oc_M_g5, oc_M_g6, oc_M_g7, oc_M_p8, oc_M_g8, oc_M_g9, oc_M_g10, oc_M_p11, oc_M_g11, oc_M_g12, oc_M_g13, oc_M_p14, oc_M_g14, oc_M_g15, oc_M_g16, oc_M_g17, oc_M_g18, oc_M_p19, oc_M_g19, oc_M_g20, oc_M_g21, oc_M_g22, oc_M_g23, oc_M_p24, oc_M_g24, oc_M_g25, hd]
theorem rd_15 (hw : 15 < w.1.length) : (hy_rd w s m c sp G).1[15]? = some (hy_ia 403 G) := by
  obtain ⟨d, hd⟩ := get_lt (w := w) (k := 15) (by omega)
  unfold hy_rd
  simp (disch := omega) only [e_gi, e_gr, e_ob, e_ai, e_ar, e_ln, e_pf, e_pa, wr_eq, wr_ne, wr_wr, Option.map_some, Option.bind_some, hy_bi_s, hy_br_s, hy_bv_s, hy_xi_s, hy_xi_t, hy_xv_s, hy_xv_t, hy_k_l, hy_k_r, ia_ai, ia_pa, ia_ln, oc_a_ar, oc_o_pa, oc_r_ln, n_le_t, n_le_f, n_lt_t, n_lt_f, n_eq_t, n_eq_f, nI_add, pk_mul, n_sub, n_prd, ne_1, hy_b_t, hy_b_f, ↓reduceIte, true_or, or_true, Bool.false_eq_true, or_false, false_or, and_true, true_and, and_false, false_and, li_c, li_0, li_1, li_2, li_3, li_4, li_5, li_6, li_10, li_11, li_16, li_17, li_20, li_40, li_41, li_300, li_400, oc_H_ob, oc_H_g0, oc_H_g1, oc_H_g2, oc_H_g3, oc_H_g4, oc_H_p5, oc_H_g5, oc_N_ob, oc_N_g0, oc_N_p1, oc_N_g1, oc_N_g2, oc_N_p3, oc_N_g3, oc_D_ob, oc_D_g0, oc_D_g1, oc_D_p2, oc_D_g2, oc_G_ob, oc_G_g0, oc_G_g1, oc_G_p2, oc_G_g2, oc_G_p3, oc_G_g3, oc_G_p4, oc_G_g4, oc_L_ob, oc_L_g0, oc_L_g1, oc_L_g2, oc_L_g3, oc_L_g4, oc_L_p5, oc_L_g5, oc_L_p6, oc_L_g6, oc_L_p7, oc_L_g7, oc_A_ob, oc_A_g0, oc_A_p1, oc_A_g1, oc_A_p2, oc_A_g2, oc_A_p0, oc_U_ob, oc_U_g0, oc_U_g1, oc_M_ob, oc_M_p0, oc_M_g0, oc_M_p1, oc_M_g1, oc_M_g2, oc_M_g3, oc_M_g4, oc_M_g5, oc_M_g6, oc_M_g7, oc_M_p8, oc_M_g8, oc_M_g9, oc_M_g10, oc_M_p11, oc_M_g11, oc_M_g12, oc_M_g13, oc_M_p14, oc_M_g14, oc_M_g15, oc_M_g16, oc_M_g17, oc_M_g18, oc_M_p19, oc_M_g19, oc_M_g20, oc_M_g21, oc_M_g22, oc_M_g23, oc_M_p24, oc_M_g24, oc_M_g25, hd]
theorem rd_ne {k : Nat} (h : k < 13 ∨ 15 < k) : (hy_rd w s m c sp G).1[k]? = w.1[k]? := by
  unfold hy_rd
  simp (disch := omega) only [e_gi, e_gr, e_ob, e_ai, e_ar, e_ln, e_pf, e_pa, wr_eq, wr_ne, wr_wr, Option.map_some, Option.bind_some, hy_bi_s, hy_br_s, hy_bv_s, hy_xi_s, hy_xi_t, hy_xv_s, hy_xv_t, hy_k_l, hy_k_r, ia_ai, ia_pa, ia_ln, oc_a_ar, oc_o_pa, oc_r_ln, n_le_t, n_le_f, n_lt_t, n_lt_f, n_eq_t, n_eq_f, nI_add, pk_mul, n_sub, n_prd, ne_1, hy_b_t, hy_b_f, ↓reduceIte, true_or, or_true, Bool.false_eq_true, or_false, false_or, and_true, true_and, and_false, false_and, li_c, li_0, li_1, li_2, li_3, li_4, li_5, li_6, li_10, li_11, li_16, li_17, li_20, li_40, li_41, li_300, li_400, oc_H_ob, oc_H_g0, oc_H_g1, oc_H_g2, oc_H_g3, oc_H_g4, oc_H_p5, oc_H_g5, oc_N_ob, oc_N_g0, oc_N_p1, oc_N_g1, oc_N_g2, oc_N_p3, oc_N_g3, oc_D_ob, oc_D_g0, oc_D_g1, oc_D_p2, oc_D_g2, oc_G_ob, oc_G_g0, oc_G_g1, oc_G_p2, oc_G_g2, oc_G_p3, oc_G_g3, oc_G_p4, oc_G_g4, oc_L_ob, oc_L_g0, oc_L_g1, oc_L_g2, oc_L_g3, oc_L_g4, oc_L_p5, oc_L_g5, oc_L_p6, oc_L_g6, oc_L_p7, oc_L_g7, oc_A_ob, oc_A_g0, oc_A_p1, oc_A_g1, oc_A_p2, oc_A_g2, oc_A_p0, oc_U_ob, oc_U_g0, oc_U_g1, oc_M_ob, oc_M_p0, oc_M_g0, oc_M_p1, oc_M_g1, oc_M_g2, oc_M_g3, oc_M_g4, oc_M_g5, oc_M_g6, oc_M_g7, oc_M_p8, oc_M_g8, oc_M_g9, oc_M_g10, oc_M_p11, oc_M_g11, oc_M_g12, oc_M_g13, oc_M_p14, oc_M_g14, oc_M_g15, oc_M_g16, oc_M_g17, oc_M_g18, oc_M_p19, oc_M_g19, oc_M_g20, oc_M_g21, oc_M_g22, oc_M_g23, oc_M_p24, oc_M_g24, oc_M_g25]
theorem rd_w13 : hy_wr (hy_rd w s m c sp G) 13 (oc_G s' m' c') = hy_rd w s' m' c' sp G := by
  unfold hy_rd
  rw [wr_comm (by decide), wr_comm (k := 14) (j := 13) (by decide), wr_wr]
theorem rd_w14 : hy_wr (hy_rd w s m c sp G) 14 (hy_ia 402 sp') = hy_rd w s m c sp' G := by
  unfold hy_rd
  rw [wr_comm (by decide), wr_wr]
theorem rd_w15 : hy_wr (hy_rd w s m c sp G) 15 (hy_ia 403 G') = hy_rd w s m c sp G' := by
  unfold hy_rd
  rw [wr_wr]
theorem rd_rd : hy_rd (hy_rd w s m c sp G) s' m' c' sp' G' = hy_rd w s' m' c' sp' G' := by
  rw [hy_rd, rd_w13, rd_w14, rd_w15]
theorem rd_2 : (hy_rd w s m c sp G).2 = w.2 := rfl
theorem rd_len : (hy_rd w s m c sp G).1.length = w.1.length := by
  unfold hy_rd; rw [wr_len, wr_len, wr_len]
theorem rd_self (h1 : w.1[13]? = some (oc_G s m c)) (h2 : w.1[14]? = some (hy_ia 402 sp)) (h3 : w.1[15]? = some (hy_ia 403 G)) : hy_rd w s m c sp G = w := by
  unfold hy_rd
  rw [wr_same h1, wr_same h2, wr_same h3]
theorem CR_rd {l n r : Nat} {x F L T : Nat → Int32} {a b : Int32} (C : hy_CR w l n r x F L T a b) : hy_CR (hy_rd w s m c sp G) l n r x F L T a b := by
  obtain ⟨h1, h2, h3, h4, h5, h6, h7, h8, h9, h10, h11⟩ := C
  exact ⟨(rd_ne (by omega)).trans h1, (rd_ne (by omega)).trans h2, (rd_ne (by omega)).trans h3, (rd_ne (by omega)).trans h4, (rd_ne (by omega)).trans h5, (rd_ne (by omega)).trans h6, (rd_ne (by omega)).trans h7, (rd_ne (by omega)).trans h8, h9, h10, h11⟩
theorem kp_rd : hy_kp w (hy_rd w s m c sp G) := fun j c hj hc _ => (rd_ne (by omega)).trans hc
theorem RL_rd {k ar : Nat} {L : List hy_U} (R : hy_RL w k ar L) (hk : 15 < k) : hy_RL (hy_rd w s m c sp G) k ar L := by
  refine RL_kp R (rd_ne (by omega)) (rd_ne ?_) kp_rd
  obtain ⟨c, es, a1, a2, a3, a4, a5, a6, a7⟩ := R
  omega
end RDS
/-- the word of m letters from s on, an edge on both sides -/
def pu_X (Y : Nat → Int32) (s m j : Nat) : Int32 := if 1 ≤ j ∧ j ≤ m then Y (s + j - 1) else nI 0
section RDT
variable {w : hy_W} {l n r : Nat} {x F L T : Nat → Int32} {a b : Int32}
theorem p_G_spell22 (C : hy_CR w l n r x F L T a b) (hw : 15 < w.1.length) {s m : Nat} (hs : s + m ≤ n) (c : Int32) (G : Nat → Int32) : ∀ (d i : Nat) (sp : Nat → Int32), m - i = d → i ≤ m → (∀ j, j ≤ i → sp j = pu_X (hy_Y n r F L T x) s m j) → ∃ sp', hy_fx nx_G_spell (22, [.ref 13, .ref 9, .int (nI s), .ref (16 + 6 * l), .int (nI i)], hy_rd w s m c sp G) = some (.inl none, hy_rd w s m c sp' G) ∧ ∀ j, j ≤ m + 1 → sp' j = pu_X (hy_Y n r F L T x) s m j
  | 0, i, sp, hd, hi, hX => by
    have hn := C.2.2.2.2.2.2.2.2.2.1
    refine ⟨hy_up sp (m + 1) (nI 0), ?_, fun j hj => ?_⟩
    · rw [ev_G_spell_22]
      simp (disch := omega) only [e_gi, e_gr, e_ob, e_ai, e_ar, e_ln, e_pf, e_pa, wr_eq, wr_ne, wr_wr, Option.map_some, Option.bind_some, hy_bi_s, hy_br_s, hy_bv_s, hy_xi_s, hy_xi_t, hy_xv_s, hy_xv_t, hy_k_l, hy_k_r, ia_ai, ia_pa, ia_ln, oc_a_ar, oc_o_pa, oc_r_ln, n_le_t, n_le_f, n_lt_t, n_lt_f, n_eq_t, n_eq_f, nI_add, pk_mul, n_sub, n_prd, ne_1, hy_b_t, hy_b_f, ↓reduceIte, true_or, or_true, Bool.false_eq_true, or_false, false_or, and_true, true_and, and_false, false_and, li_c, li_0, li_1, li_2, li_3, li_4, li_5, li_6, li_10, li_11, li_16, li_17, li_20, li_40, li_41, li_300, li_400, oc_H_ob, oc_H_g0, oc_H_g1, oc_H_g2, oc_H_g3, oc_H_g4, oc_H_p5, oc_H_g5, oc_N_ob, oc_N_g0, oc_N_p1, oc_N_g1, oc_N_g2, oc_N_p3, oc_N_g3, oc_D_ob, oc_D_g0, oc_D_g1, oc_D_p2, oc_D_g2, oc_G_ob, oc_G_g0, oc_G_g1, oc_G_p2, oc_G_g2, oc_G_p3, oc_G_g3, oc_G_p4, oc_G_g4, oc_L_ob, oc_L_g0, oc_L_g1, oc_L_g2, oc_L_g3, oc_L_g4, oc_L_p5, oc_L_g5, oc_L_p6, oc_L_g6, oc_L_p7, oc_L_g7, oc_A_ob, oc_A_g0, oc_A_p1, oc_A_g1, oc_A_p2, oc_A_g2, oc_A_p0, oc_U_ob, oc_U_g0, oc_U_g1, oc_M_ob, oc_M_p0, oc_M_g0, oc_M_p1, oc_M_g1, oc_M_g2, oc_M_g3, oc_M_g4, oc_M_g5, oc_M_g6, oc_M_g7, oc_M_p8, oc_M_g8, oc_M_g9, oc_M_g10, oc_M_p11, oc_M_g11, oc_M_g12, oc_M_g13, oc_M_p14, oc_M_g14, oc_M_g15, oc_M_g16, oc_M_g17, oc_M_g18, oc_M_p19, oc_M_g19, oc_M_g20, oc_M_g21, oc_M_g22, oc_M_g23, oc_M_p24, oc_M_g24, oc_M_g25, sg_G_spell_22, rd_13, rd_14, rd_w14]
    · by_cases e : j = m + 1
      · rw [e, up_eq, pu_X, if_neg (by omega)]
      · rw [up_ne e]; exact hX j (by omega)
  | d + 1, i, sp, hd, hi, hX => by
    have hn := C.2.2.2.2.2.2.2.2.2.1
    have h9 := C.2.2.2.1
    have C' := CR_rd (s := s) (m := m) (c := c) (sp := sp) (G := G) C
    obtain ⟨k2, k3, k7, k9, kl, kF, kL, kT, b1, b2, b3⟩ := C'
    have e1 := p_L_letterOf kl kF kL kT b3 (x (s + i))
    obtain ⟨sp', e2, e3⟩ := p_G_spell22 C hw hs c G d (i + 1) (hy_up sp (i + 1) (hy_lt r F L T (x (s + i)))) (by omega) (by omega) (fun j hj => by
      by_cases e : j = i + 1
      · rw [e, up_eq, pu_X, if_pos (by omega), hy_Y_in (by omega), show s + (i + 1) - 1 = s + i by omega]
      · rw [up_ne e]; exact hX j (by omega))
    refine ⟨sp', ?_, e3⟩
    rw [ev_G_spell_22]
    simp (disch := omega) only [e_gi, e_gr, e_ob, e_ai, e_ar, e_ln, e_pf, e_pa, wr_eq, wr_ne, wr_wr, Option.map_some, Option.bind_some, hy_bi_s, hy_br_s, hy_bv_s, hy_xi_s, hy_xi_t, hy_xv_s, hy_xv_t, hy_k_l, hy_k_r, ia_ai, ia_pa, ia_ln, oc_a_ar, oc_o_pa, oc_r_ln, n_le_t, n_le_f, n_lt_t, n_lt_f, n_eq_t, n_eq_f, nI_add, pk_mul, n_sub, n_prd, ne_1, hy_b_t, hy_b_f, ↓reduceIte, true_or, or_true, Bool.false_eq_true, or_false, false_or, and_true, true_and, and_false, false_and, li_c, li_0, li_1, li_2, li_3, li_4, li_5, li_6, li_10, li_11, li_16, li_17, li_20, li_40, li_41, li_300, li_400, oc_H_ob, oc_H_g0, oc_H_g1, oc_H_g2, oc_H_g3, oc_H_g4, oc_H_p5, oc_H_g5, oc_N_ob, oc_N_g0, oc_N_p1, oc_N_g1, oc_N_g2, oc_N_p3, oc_N_g3, oc_D_ob, oc_D_g0, oc_D_g1, oc_D_p2, oc_D_g2, oc_G_ob, oc_G_g0, oc_G_g1, oc_G_p2, oc_G_g2, oc_G_p3, oc_G_g3, oc_G_p4, oc_G_g4, oc_L_ob, oc_L_g0, oc_L_g1, oc_L_g2, oc_L_g3, oc_L_g4, oc_L_p5, oc_L_g5, oc_L_p6, oc_L_g6, oc_L_p7, oc_L_g7, oc_A_ob, oc_A_g0, oc_A_p1, oc_A_g1, oc_A_p2, oc_A_g2, oc_A_p0, oc_U_ob, oc_U_g0, oc_U_g1, oc_M_ob, oc_M_p0, oc_M_g0, oc_M_p1, oc_M_g1, oc_M_g2, oc_M_g3, oc_M_g4, oc_M_g5, oc_M_g6, oc_M_g7, oc_M_p8, oc_M_g8, oc_M_g9, oc_M_g10, oc_M_p11, oc_M_g11, oc_M_g12, oc_M_g13, oc_M_p14, oc_M_g14, oc_M_g15, oc_M_g16, oc_M_g17, oc_M_g18, oc_M_p19, oc_M_g19, oc_M_g20, oc_M_g21, oc_M_g22, oc_M_g23, oc_M_p24, oc_M_g24, oc_M_g25, sg_G_spell_22, rd_13, rd_14, rd_w14, k9, kl, e1, e2]
theorem p_G_spell (C : hy_CR w l n r x F L T a b) (hw : 15 < w.1.length) {s m s0 m0 : Nat} (hs : s + m ≤ n) (c : Int32) (sp G : Nat → Int32) : ∃ sp', f_G_spell [.ref 13, .ref 9, .int (nI s), .int (nI (s + m)), .ref (16 + 6 * l)] (hy_rd w s0 m0 c sp G) = some (.inl none, hy_rd w s m c sp' G) ∧ ∀ j, j ≤ m + 1 → sp' j = pu_X (hy_Y n r F L T x) s m j := by
  have hn := C.2.2.2.2.2.2.2.2.2.1
  obtain ⟨sp', e1, e2⟩ := p_G_spell22 C hw hs c G m 0 (hy_up sp 0 (nI 0)) (by omega) (by omega) (fun j hj => by
    rw [show j = 0 by omega, up_eq, pu_X, if_neg (by omega)])
  refine ⟨sp', ?_, e2⟩
  rw [f_G_spell, ev_G_spell_0]
  simp (disch := omega) only [e_gi, e_gr, e_ob, e_ai, e_ar, e_ln, e_pf, e_pa, wr_eq, wr_ne, wr_wr, Option.map_some, Option.bind_some, hy_bi_s, hy_br_s, hy_bv_s, hy_xi_s, hy_xi_t, hy_xv_s, hy_xv_t, hy_k_l, hy_k_r, ia_ai, ia_pa, ia_ln, oc_a_ar, oc_o_pa, oc_r_ln, n_le_t, n_le_f, n_lt_t, n_lt_f, n_eq_t, n_eq_f, nI_add, pk_mul, n_sub, n_prd, ne_1, hy_b_t, hy_b_f, ↓reduceIte, true_or, or_true, Bool.false_eq_true, or_false, false_or, and_true, true_and, and_false, false_and, li_c, li_0, li_1, li_2, li_3, li_4, li_5, li_6, li_10, li_11, li_16, li_17, li_20, li_40, li_41, li_300, li_400, oc_H_ob, oc_H_g0, oc_H_g1, oc_H_g2, oc_H_g3, oc_H_g4, oc_H_p5, oc_H_g5, oc_N_ob, oc_N_g0, oc_N_p1, oc_N_g1, oc_N_g2, oc_N_p3, oc_N_g3, oc_D_ob, oc_D_g0, oc_D_g1, oc_D_p2, oc_D_g2, oc_G_ob, oc_G_g0, oc_G_g1, oc_G_p2, oc_G_g2, oc_G_p3, oc_G_g3, oc_G_p4, oc_G_g4, oc_L_ob, oc_L_g0, oc_L_g1, oc_L_g2, oc_L_g3, oc_L_g4, oc_L_p5, oc_L_g5, oc_L_p6, oc_L_g6, oc_L_p7, oc_L_g7, oc_A_ob, oc_A_g0, oc_A_p1, oc_A_g1, oc_A_p2, oc_A_g2, oc_A_p0, oc_U_ob, oc_U_g0, oc_U_g1, oc_M_ob, oc_M_p0, oc_M_g0, oc_M_p1, oc_M_g1, oc_M_g2, oc_M_g3, oc_M_g4, oc_M_g5, oc_M_g6, oc_M_g7, oc_M_p8, oc_M_g8, oc_M_g9, oc_M_g10, oc_M_p11, oc_M_g11, oc_M_g12, oc_M_g13, oc_M_p14, oc_M_g14, oc_M_g15, oc_M_g16, oc_M_g17, oc_M_g18, oc_M_p19, oc_M_g19, oc_M_g20, oc_M_g21, oc_M_g22, oc_M_g23, oc_M_p24, oc_M_g24, oc_M_g25, sg_G_spell_0, rd_13, rd_14, rd_w13, rd_w14, Nat.add_sub_cancel_left]
  exact e1
end RDT
theorem p_J_fill5 {w : hy_W} {k N : Nat} (hk : 1 < k) (hw : k < w.1.length) (hN : N ≤ 1000) (v : Int32) : ∀ (d i : Nat) (G : Nat → Int32), N - i = d → i ≤ N → (∀ j, j < i → G j = v) → hy_fx nx_J_fill (5, [.ref k, .int v, .int (nI i), .int (nI N)], hy_wr w k (hy_ia N G)) = some (.inl none, hy_wr w k (hy_ia N (fun _ => v)))
  | 0, i, G, hd, hi, hG => by
    rw [ev_J_fill_5]
    simp (disch := omega) only [e_gi, e_gr, e_ob, e_ai, e_ar, e_ln, e_pf, e_pa, wr_eq, wr_ne, wr_wr, Option.map_some, Option.bind_some, hy_bi_s, hy_br_s, hy_bv_s, hy_xi_s, hy_xi_t, hy_xv_s, hy_xv_t, hy_k_l, hy_k_r, ia_ai, ia_pa, ia_ln, oc_a_ar, oc_o_pa, oc_r_ln, n_le_t, n_le_f, n_lt_t, n_lt_f, n_eq_t, n_eq_f, nI_add, pk_mul, n_sub, n_prd, ne_1, hy_b_t, hy_b_f, ↓reduceIte, true_or, or_true, Bool.false_eq_true, or_false, false_or, and_true, true_and, and_false, false_and, li_c, li_0, li_1, li_2, li_3, li_4, li_5, li_6, li_10, li_11, li_16, li_17, li_20, li_40, li_41, li_300, li_400, oc_H_ob, oc_H_g0, oc_H_g1, oc_H_g2, oc_H_g3, oc_H_g4, oc_H_p5, oc_H_g5, oc_N_ob, oc_N_g0, oc_N_p1, oc_N_g1, oc_N_g2, oc_N_p3, oc_N_g3, oc_D_ob, oc_D_g0, oc_D_g1, oc_D_p2, oc_D_g2, oc_G_ob, oc_G_g0, oc_G_g1, oc_G_p2, oc_G_g2, oc_G_p3, oc_G_g3, oc_G_p4, oc_G_g4, oc_L_ob, oc_L_g0, oc_L_g1, oc_L_g2, oc_L_g3, oc_L_g4, oc_L_p5, oc_L_g5, oc_L_p6, oc_L_g6, oc_L_p7, oc_L_g7, oc_A_ob, oc_A_g0, oc_A_p1, oc_A_g1, oc_A_p2, oc_A_g2, oc_A_p0, oc_U_ob, oc_U_g0, oc_U_g1, oc_M_ob, oc_M_p0, oc_M_g0, oc_M_p1, oc_M_g1, oc_M_g2, oc_M_g3, oc_M_g4, oc_M_g5, oc_M_g6, oc_M_g7, oc_M_p8, oc_M_g8, oc_M_g9, oc_M_g10, oc_M_p11, oc_M_g11, oc_M_g12, oc_M_g13, oc_M_p14, oc_M_g14, oc_M_g15, oc_M_g16, oc_M_g17, oc_M_g18, oc_M_p19, oc_M_g19, oc_M_g20, oc_M_g21, oc_M_g22, oc_M_g23, oc_M_p24, oc_M_g24, oc_M_g25, sg_J_fill_5]
    rw [ia_ext (g := fun _ => v) fun j hj => hG j (by omega)]
  | d + 1, i, G, hd, hi, hG => by
    obtain ⟨c, hc⟩ := get_lt hw
    have ih := p_J_fill5 hk hw hN v d (i + 1) (hy_up G i v) (by omega) (by omega) (fun j hj => by
      by_cases e : j = i
      · rw [e, up_eq]
      · rw [up_ne e]; exact hG j (by omega))
    rw [ev_J_fill_5]
    simp (disch := omega) only [e_gi, e_gr, e_ob, e_ai, e_ar, e_ln, e_pf, e_pa, wr_eq, wr_ne, wr_wr, Option.map_some, Option.bind_some, hy_bi_s, hy_br_s, hy_bv_s, hy_xi_s, hy_xi_t, hy_xv_s, hy_xv_t, hy_k_l, hy_k_r, ia_ai, ia_pa, ia_ln, oc_a_ar, oc_o_pa, oc_r_ln, n_le_t, n_le_f, n_lt_t, n_lt_f, n_eq_t, n_eq_f, nI_add, pk_mul, n_sub, n_prd, ne_1, hy_b_t, hy_b_f, ↓reduceIte, true_or, or_true, Bool.false_eq_true, or_false, false_or, and_true, true_and, and_false, false_and, li_c, li_0, li_1, li_2, li_3, li_4, li_5, li_6, li_10, li_11, li_16, li_17, li_20, li_40, li_41, li_300, li_400, oc_H_ob, oc_H_g0, oc_H_g1, oc_H_g2, oc_H_g3, oc_H_g4, oc_H_p5, oc_H_g5, oc_N_ob, oc_N_g0, oc_N_p1, oc_N_g1, oc_N_g2, oc_N_p3, oc_N_g3, oc_D_ob, oc_D_g0, oc_D_g1, oc_D_p2, oc_D_g2, oc_G_ob, oc_G_g0, oc_G_g1, oc_G_p2, oc_G_g2, oc_G_p3, oc_G_g3, oc_G_p4, oc_G_g4, oc_L_ob, oc_L_g0, oc_L_g1, oc_L_g2, oc_L_g3, oc_L_g4, oc_L_p5, oc_L_g5, oc_L_p6, oc_L_g6, oc_L_p7, oc_L_g7, oc_A_ob, oc_A_g0, oc_A_p1, oc_A_g1, oc_A_p2, oc_A_g2, oc_A_p0, oc_U_ob, oc_U_g0, oc_U_g1, oc_M_ob, oc_M_p0, oc_M_g0, oc_M_p1, oc_M_g1, oc_M_g2, oc_M_g3, oc_M_g4, oc_M_g5, oc_M_g6, oc_M_g7, oc_M_p8, oc_M_g8, oc_M_g9, oc_M_g10, oc_M_p11, oc_M_g11, oc_M_g12, oc_M_g13, oc_M_p14, oc_M_g14, oc_M_g15, oc_M_g16, oc_M_g17, oc_M_g18, oc_M_p19, oc_M_g19, oc_M_g20, oc_M_g21, oc_M_g22, oc_M_g23, oc_M_p24, oc_M_g24, oc_M_g25, sg_J_fill_5, hc, ih]
theorem p_J_fill {w : hy_W} {k N : Nat} {G : Nat → Int32} (hk : 1 < k) (h : w.1[k]? = some (hy_ia N G)) (hN : N ≤ 1000) (v : Int32) : f_J_fill [.ref k, .int v] w = some (.inl none, hy_wr w k (hy_ia N (fun _ => v))) := by
  have e := p_J_fill5 hk (List.getElem?_eq_some_iff.mp h).1 hN v N 0 G (by omega) (by omega) (fun j hj => by omega)
  rw [wr_same h] at e
  rw [f_J_fill, ev_J_fill_0]
  simp (disch := omega) only [e_gi, e_gr, e_ob, e_ai, e_ar, e_ln, e_pf, e_pa, wr_eq, wr_ne, wr_wr, Option.map_some, Option.bind_some, hy_bi_s, hy_br_s, hy_bv_s, hy_xi_s, hy_xi_t, hy_xv_s, hy_xv_t, hy_k_l, hy_k_r, ia_ai, ia_pa, ia_ln, oc_a_ar, oc_o_pa, oc_r_ln, n_le_t, n_le_f, n_lt_t, n_lt_f, n_eq_t, n_eq_f, nI_add, pk_mul, n_sub, n_prd, ne_1, hy_b_t, hy_b_f, ↓reduceIte, true_or, or_true, Bool.false_eq_true, or_false, false_or, and_true, true_and, and_false, false_and, li_c, li_0, li_1, li_2, li_3, li_4, li_5, li_6, li_10, li_11, li_16, li_17, li_20, li_40, li_41, li_300, li_400, oc_H_ob, oc_H_g0, oc_H_g1, oc_H_g2, oc_H_g3, oc_H_g4, oc_H_p5, oc_H_g5, oc_N_ob, oc_N_g0, oc_N_p1, oc_N_g1, oc_N_g2, oc_N_p3, oc_N_g3, oc_D_ob, oc_D_g0, oc_D_g1, oc_D_p2, oc_D_g2, oc_G_ob, oc_G_g0, oc_G_g1, oc_G_p2, oc_G_g2, oc_G_p3, oc_G_g3, oc_G_p4, oc_G_g4, oc_L_ob, oc_L_g0, oc_L_g1, oc_L_g2, oc_L_g3, oc_L_g4, oc_L_p5, oc_L_g5, oc_L_p6, oc_L_g6, oc_L_p7, oc_L_g7, oc_A_ob, oc_A_g0, oc_A_p1, oc_A_g1, oc_A_p2, oc_A_g2, oc_A_p0, oc_U_ob, oc_U_g0, oc_U_g1, oc_M_ob, oc_M_p0, oc_M_g0, oc_M_p1, oc_M_g1, oc_M_g2, oc_M_g3, oc_M_g4, oc_M_g5, oc_M_g6, oc_M_g7, oc_M_p8, oc_M_g8, oc_M_g9, oc_M_g10, oc_M_p11, oc_M_g11, oc_M_g12, oc_M_g13, oc_M_p14, oc_M_g14, oc_M_g15, oc_M_g16, oc_M_g17, oc_M_g18, oc_M_p19, oc_M_g19, oc_M_g20, oc_M_g21, oc_M_g22, oc_M_g23, oc_M_p24, oc_M_g24, oc_M_g25, sg_J_fill_0, h, e]
def hy_mx (a b : Int32) : Int32 := if a < b then b else a
/-- a row of values laid from place f on -/
def hy_ly (f vl : Nat) (vf G : Nat → Int32) : Nat → Int32 := fun q => if f ≤ q ∧ q < f + vl then hy_mx (G q) (vf (q - f)) else G q
section LAY
variable {w : hy_W}
theorem p_G_lay2 {r a b s m f vl : Nat} {c : Int32} {sp vf : Nat → Int32} (hw : 15 < w.1.length) (hr : 60 < r) (hb : 60 < b) (h1 : w.1[r]? = some (oc_U a b)) (h2 : w.1[b]? = some (hy_ia vl vf)) (hf : f + vl ≤ 403) : ∀ (d i : Nat) (G G0 : Nat → Int32), vl - i = d → i ≤ vl → (∀ q, G q = if f ≤ q ∧ q < f + i then hy_mx (G0 q) (vf (q - f)) else G0 q) → hy_fx nx_G_lay (2, [.ref 13, .ref r, .int (nI f), .int (nI i)], hy_rd w s m c sp G) = some (.inl none, hy_rd w s m c sp (hy_ly f vl vf G0))
  | 0, i, G, G0, hd, hi, hG => by
    have k1 := (rd_ne (w := w) (s := s) (m := m) (c := c) (sp := sp) (G := G) (k := r) (by omega)).trans h1
    have k2 := (rd_ne (w := w) (s := s) (m := m) (c := c) (sp := sp) (G := G) (k := b) (by omega)).trans h2
    have e : G = hy_ly f vl vf G0 := by
      funext q
      rw [hG q, hy_ly, show i = vl by omega]
    rw [← e, ev_G_lay_2]
    simp (disch := omega) only [e_gi, e_gr, e_ob, e_ai, e_ar, e_ln, e_pf, e_pa, wr_eq, wr_ne, wr_wr, Option.map_some, Option.bind_some, hy_bi_s, hy_br_s, hy_bv_s, hy_xi_s, hy_xi_t, hy_xv_s, hy_xv_t, hy_k_l, hy_k_r, ia_ai, ia_pa, ia_ln, oc_a_ar, oc_o_pa, oc_r_ln, n_le_t, n_le_f, n_lt_t, n_lt_f, n_eq_t, n_eq_f, nI_add, pk_mul, n_sub, n_prd, ne_1, hy_b_t, hy_b_f, ↓reduceIte, true_or, or_true, Bool.false_eq_true, or_false, false_or, and_true, true_and, and_false, false_and, li_c, li_0, li_1, li_2, li_3, li_4, li_5, li_6, li_10, li_11, li_16, li_17, li_20, li_40, li_41, li_300, li_400, oc_H_ob, oc_H_g0, oc_H_g1, oc_H_g2, oc_H_g3, oc_H_g4, oc_H_p5, oc_H_g5, oc_N_ob, oc_N_g0, oc_N_p1, oc_N_g1, oc_N_g2, oc_N_p3, oc_N_g3, oc_D_ob, oc_D_g0, oc_D_g1, oc_D_p2, oc_D_g2, oc_G_ob, oc_G_g0, oc_G_g1, oc_G_p2, oc_G_g2, oc_G_p3, oc_G_g3, oc_G_p4, oc_G_g4, oc_L_ob, oc_L_g0, oc_L_g1, oc_L_g2, oc_L_g3, oc_L_g4, oc_L_p5, oc_L_g5, oc_L_p6, oc_L_g6, oc_L_p7, oc_L_g7, oc_A_ob, oc_A_g0, oc_A_p1, oc_A_g1, oc_A_p2, oc_A_g2, oc_A_p0, oc_U_ob, oc_U_g0, oc_U_g1, oc_M_ob, oc_M_p0, oc_M_g0, oc_M_p1, oc_M_g1, oc_M_g2, oc_M_g3, oc_M_g4, oc_M_g5, oc_M_g6, oc_M_g7, oc_M_p8, oc_M_g8, oc_M_g9, oc_M_g10, oc_M_p11, oc_M_g11, oc_M_g12, oc_M_g13, oc_M_p14, oc_M_g14, oc_M_g15, oc_M_g16, oc_M_g17, oc_M_g18, oc_M_p19, oc_M_g19, oc_M_g20, oc_M_g21, oc_M_g22, oc_M_g23, oc_M_p24, oc_M_g24, oc_M_g25, sg_G_lay_2, k1, k2]
  | d + 1, i, G, G0, hd, hi, hG => by
    have k1 := (rd_ne (w := w) (s := s) (m := m) (c := c) (sp := sp) (G := G) (k := r) (by omega)).trans h1
    have k2 := (rd_ne (w := w) (s := s) (m := m) (c := c) (sp := sp) (G := G) (k := b) (by omega)).trans h2
    have ih := p_G_lay2 (s := s) (m := m) (c := c) (sp := sp) hw hr hb h1 h2 hf d (i + 1) (hy_up G (f + i) (if G (f + i) < vf i then vf i else G (f + i))) G0 (by omega) (by omega) (fun q => by
      by_cases e : q = f + i
      · have e0 : G (f + i) = G0 (f + i) := by rw [hG (f + i)]; exact if_neg (by omega)
        rw [e, up_eq, if_pos (show f ≤ f + i ∧ f + i < f + (i + 1) by omega), e0, show f + i - f = i by omega, hy_mx]
      · rw [up_ne e, hG q]
        by_cases e2 : f ≤ q ∧ q < f + i
        · rw [if_pos e2, if_pos (by omega)]
        · rw [if_neg e2, if_neg (by omega)])
    rw [ev_G_lay_2]
    simp (disch := omega) only [e_gi, e_gr, e_ob, e_ai, e_ar, e_ln, e_pf, e_pa, wr_eq, wr_ne, wr_wr, Option.map_some, Option.bind_some, hy_bi_s, hy_br_s, hy_bv_s, hy_xi_s, hy_xi_t, hy_xv_s, hy_xv_t, hy_k_l, hy_k_r, ia_ai, ia_pa, ia_ln, oc_a_ar, oc_o_pa, oc_r_ln, n_le_t, n_le_f, n_lt_t, n_lt_f, n_eq_t, n_eq_f, nI_add, pk_mul, n_sub, n_prd, ne_1, hy_b_t, hy_b_f, ↓reduceIte, true_or, or_true, Bool.false_eq_true, or_false, false_or, and_true, true_and, and_false, false_and, li_c, li_0, li_1, li_2, li_3, li_4, li_5, li_6, li_10, li_11, li_16, li_17, li_20, li_40, li_41, li_300, li_400, oc_H_ob, oc_H_g0, oc_H_g1, oc_H_g2, oc_H_g3, oc_H_g4, oc_H_p5, oc_H_g5, oc_N_ob, oc_N_g0, oc_N_p1, oc_N_g1, oc_N_g2, oc_N_p3, oc_N_g3, oc_D_ob, oc_D_g0, oc_D_g1, oc_D_p2, oc_D_g2, oc_G_ob, oc_G_g0, oc_G_g1, oc_G_p2, oc_G_g2, oc_G_p3, oc_G_g3, oc_G_p4, oc_G_g4, oc_L_ob, oc_L_g0, oc_L_g1, oc_L_g2, oc_L_g3, oc_L_g4, oc_L_p5, oc_L_g5, oc_L_p6, oc_L_g6, oc_L_p7, oc_L_g7, oc_A_ob, oc_A_g0, oc_A_p1, oc_A_g1, oc_A_p2, oc_A_g2, oc_A_p0, oc_U_ob, oc_U_g0, oc_U_g1, oc_M_ob, oc_M_p0, oc_M_g0, oc_M_p1, oc_M_g1, oc_M_g2, oc_M_g3, oc_M_g4, oc_M_g5, oc_M_g6, oc_M_g7, oc_M_p8, oc_M_g8, oc_M_g9, oc_M_g10, oc_M_p11, oc_M_g11, oc_M_g12, oc_M_g13, oc_M_p14, oc_M_g14, oc_M_g15, oc_M_g16, oc_M_g17, oc_M_g18, oc_M_p19, oc_M_g19, oc_M_g20, oc_M_g21, oc_M_g22, oc_M_g23, oc_M_p24, oc_M_g24, oc_M_g25, sg_G_lay_2, k1, k2, rd_13, rd_15, rd_w15, ih]
theorem p_G_lay {r a b s m f vl : Nat} {c : Int32} {sp vf G : Nat → Int32} (hw : 15 < w.1.length) (hr : 60 < r) (hb : 60 < b) (h1 : w.1[r]? = some (oc_U a b)) (h2 : w.1[b]? = some (hy_ia vl vf)) (hf : f + vl ≤ 403) : f_G_lay [.ref 13, .ref r, .int (nI f)] (hy_rd w s m c sp G) = some (.inl none, hy_rd w s m c sp (hy_ly f vl vf G)) := by
  rw [f_G_lay, ev_G_lay_0, sg_G_lay_0, hy_k_l]
  exact p_G_lay2 hw hr hb h1 h2 hf vl 0 G G (by omega) (by omega) (fun q => by rw [if_neg (by omega)])
end LAY
/-- where a rule stands in the word -/
def hy_sd (X : Nat → Int32) (m : Nat) (p : List Int32) (f : Nat) : Bool := decide (f + p.length ≤ m + 2) && pu_al (fun j => decide (X (f + j) = hy_g p j)) p.length 0
def hy_lF (st : Nat → Bool) (vl : Nat) (vf : Nat → Int32) : Nat → Nat → (Nat → Int32) → Nat → Int32
  | 0, _, G => G
  | d + 1, f, G => hy_lF st vl vf d (f + 1) (if st f = true then hy_ly f vl vf G else G)
def hy_lC (st : Nat → Bool) : Nat → Nat → Int32 → Int32
  | 0, _, c => c
  | d + 1, f, c => hy_lC st d (f + 1) (if st f = true then c + nI 1 else c)
section LEV
variable {w : hy_W}
theorem p_G_layEverywhere15 {r s m : Nat} {p : hy_U} {sp X : Nat → Int32} (hw : 15 < w.1.length) (U : hy_RU w r p) (hm : m ≤ 400) (hX : ∀ j, j ≤ m + 1 → sp j = X j) (hp : p.1.length ≤ m + 2) : ∀ (d f : Nat) (c : Int32) (G : Nat → Int32), m + 3 - p.1.length - f = d → f ≤ m + 3 - p.1.length → hy_fx nx_G_layEverywhere (15, [.ref 13, .ref r, .int (nI (m + 2 - p.1.length)), .int (nI f)], hy_rd w s m c sp G) = some (.inl none, hy_rd w s m (hy_lC (hy_sd X m p.1) d f c) sp (hy_lF (hy_sd X m p.1) p.2.length (hy_g p.2) d f G))
  | 0, f, c, G, hd, hf => by
    rw [ev_G_layEverywhere_15]
    simp (disch := omega) only [e_gi, e_gr, e_ob, e_ai, e_ar, e_ln, e_pf, e_pa, wr_eq, wr_ne, wr_wr, Option.map_some, Option.bind_some, hy_bi_s, hy_br_s, hy_bv_s, hy_xi_s, hy_xi_t, hy_xv_s, hy_xv_t, hy_k_l, hy_k_r, ia_ai, ia_pa, ia_ln, oc_a_ar, oc_o_pa, oc_r_ln, n_le_t, n_le_f, n_lt_t, n_lt_f, n_eq_t, n_eq_f, nI_add, pk_mul, n_sub, n_prd, ne_1, hy_b_t, hy_b_f, ↓reduceIte, true_or, or_true, Bool.false_eq_true, or_false, false_or, and_true, true_and, and_false, false_and, li_c, li_0, li_1, li_2, li_3, li_4, li_5, li_6, li_10, li_11, li_16, li_17, li_20, li_40, li_41, li_300, li_400, oc_H_ob, oc_H_g0, oc_H_g1, oc_H_g2, oc_H_g3, oc_H_g4, oc_H_p5, oc_H_g5, oc_N_ob, oc_N_g0, oc_N_p1, oc_N_g1, oc_N_g2, oc_N_p3, oc_N_g3, oc_D_ob, oc_D_g0, oc_D_g1, oc_D_p2, oc_D_g2, oc_G_ob, oc_G_g0, oc_G_g1, oc_G_p2, oc_G_g2, oc_G_p3, oc_G_g3, oc_G_p4, oc_G_g4, oc_L_ob, oc_L_g0, oc_L_g1, oc_L_g2, oc_L_g3, oc_L_g4, oc_L_p5, oc_L_g5, oc_L_p6, oc_L_g6, oc_L_p7, oc_L_g7, oc_A_ob, oc_A_g0, oc_A_p1, oc_A_g1, oc_A_p2, oc_A_g2, oc_A_p0, oc_U_ob, oc_U_g0, oc_U_g1, oc_M_ob, oc_M_p0, oc_M_g0, oc_M_p1, oc_M_g1, oc_M_g2, oc_M_g3, oc_M_g4, oc_M_g5, oc_M_g6, oc_M_g7, oc_M_p8, oc_M_g8, oc_M_g9, oc_M_g10, oc_M_p11, oc_M_g11, oc_M_g12, oc_M_g13, oc_M_p14, oc_M_g14, oc_M_g15, oc_M_g16, oc_M_g17, oc_M_g18, oc_M_p19, oc_M_g19, oc_M_g20, oc_M_g21, oc_M_g22, oc_M_g23, oc_M_p24, oc_M_g24, oc_M_g25, sg_G_layEverywhere_15, hy_lC, hy_lF]
  | d + 1, f, c, G, hd, hf => by
    have ih := fun c G => p_G_layEverywhere15 (s := s) hw U hm hX hp d (f + 1) c G (by omega) (by omega)
    obtain ⟨a, b, b1, b2, b3, b4, b5, b6, b7, b8, b9⟩ := U
    have k1 := (rd_ne (w := w) (s := s) (m := m) (c := c) (sp := sp) (G := G) (k := r) (by omega)).trans b4
    have k2 := (rd_ne (w := w) (s := s) (m := m) (c := c) (sp := sp) (G := G) (k := a) (by omega)).trans b5
    have e1 := p_U_standsAt k1 (by omega) k2 (by omega) (rd_14 (s := s) (m := m) (c := c) (sp := sp) (G := G) hw) (by omega) (by omega) (by omega) (at' := f) (by omega)
    have e2 : (decide (f + p.1.length ≤ 402) && pu_al (fun j => decide (sp (f + j) = hy_g p.1 j)) p.1.length 0) = hy_sd X m p.1 f := by
      rw [hy_sd, decide_eq_true (show f + p.1.length ≤ 402 by omega), decide_eq_true (show f + p.1.length ≤ m + 2 by omega)]
      congr 1
      exact al_ext fun j _ hj => by rw [hX (f + j) (by omega)]
    rw [e2] at e1
    have e3 := p_G_lay (s := s) (m := m) (c := c + nI 1) (sp := sp) (G := G) hw b1 b3 b4 b6 (f := f) (by omega)
    rw [ev_G_layEverywhere_15, hy_lC, hy_lF]
    cases q : hy_sd X m p.1 f
    · rw [q] at e1
      simp (disch := omega) only [e_gi, e_gr, e_ob, e_ai, e_ar, e_ln, e_pf, e_pa, wr_eq, wr_ne, wr_wr, Option.map_some, Option.bind_some, hy_bi_s, hy_br_s, hy_bv_s, hy_xi_s, hy_xi_t, hy_xv_s, hy_xv_t, hy_k_l, hy_k_r, ia_ai, ia_pa, ia_ln, oc_a_ar, oc_o_pa, oc_r_ln, n_le_t, n_le_f, n_lt_t, n_lt_f, n_eq_t, n_eq_f, nI_add, pk_mul, n_sub, n_prd, ne_1, hy_b_t, hy_b_f, ↓reduceIte, true_or, or_true, Bool.false_eq_true, or_false, false_or, and_true, true_and, and_false, false_and, li_c, li_0, li_1, li_2, li_3, li_4, li_5, li_6, li_10, li_11, li_16, li_17, li_20, li_40, li_41, li_300, li_400, oc_H_ob, oc_H_g0, oc_H_g1, oc_H_g2, oc_H_g3, oc_H_g4, oc_H_p5, oc_H_g5, oc_N_ob, oc_N_g0, oc_N_p1, oc_N_g1, oc_N_g2, oc_N_p3, oc_N_g3, oc_D_ob, oc_D_g0, oc_D_g1, oc_D_p2, oc_D_g2, oc_G_ob, oc_G_g0, oc_G_g1, oc_G_p2, oc_G_g2, oc_G_p3, oc_G_g3, oc_G_p4, oc_G_g4, oc_L_ob, oc_L_g0, oc_L_g1, oc_L_g2, oc_L_g3, oc_L_g4, oc_L_p5, oc_L_g5, oc_L_p6, oc_L_g6, oc_L_p7, oc_L_g7, oc_A_ob, oc_A_g0, oc_A_p1, oc_A_g1, oc_A_p2, oc_A_g2, oc_A_p0, oc_U_ob, oc_U_g0, oc_U_g1, oc_M_ob, oc_M_p0, oc_M_g0, oc_M_p1, oc_M_g1, oc_M_g2, oc_M_g3, oc_M_g4, oc_M_g5, oc_M_g6, oc_M_g7, oc_M_p8, oc_M_g8, oc_M_g9, oc_M_g10, oc_M_p11, oc_M_g11, oc_M_g12, oc_M_g13, oc_M_p14, oc_M_g14, oc_M_g15, oc_M_g16, oc_M_g17, oc_M_g18, oc_M_p19, oc_M_g19, oc_M_g20, oc_M_g21, oc_M_g22, oc_M_g23, oc_M_p24, oc_M_g24, oc_M_g25, sg_G_layEverywhere_15, rd_13, k1, e1, ev_G_layEverywhere_48, sg_G_layEverywhere_48, ih]
    · rw [q] at e1
      simp (disch := omega) only [e_gi, e_gr, e_ob, e_ai, e_ar, e_ln, e_pf, e_pa, wr_eq, wr_ne, wr_wr, Option.map_some, Option.bind_some, hy_bi_s, hy_br_s, hy_bv_s, hy_xi_s, hy_xi_t, hy_xv_s, hy_xv_t, hy_k_l, hy_k_r, ia_ai, ia_pa, ia_ln, oc_a_ar, oc_o_pa, oc_r_ln, n_le_t, n_le_f, n_lt_t, n_lt_f, n_eq_t, n_eq_f, nI_add, pk_mul, n_sub, n_prd, ne_1, hy_b_t, hy_b_f, ↓reduceIte, true_or, or_true, Bool.false_eq_true, or_false, false_or, and_true, true_and, and_false, false_and, li_c, li_0, li_1, li_2, li_3, li_4, li_5, li_6, li_10, li_11, li_16, li_17, li_20, li_40, li_41, li_300, li_400, oc_H_ob, oc_H_g0, oc_H_g1, oc_H_g2, oc_H_g3, oc_H_g4, oc_H_p5, oc_H_g5, oc_N_ob, oc_N_g0, oc_N_p1, oc_N_g1, oc_N_g2, oc_N_p3, oc_N_g3, oc_D_ob, oc_D_g0, oc_D_g1, oc_D_p2, oc_D_g2, oc_G_ob, oc_G_g0, oc_G_g1, oc_G_p2, oc_G_g2, oc_G_p3, oc_G_g3, oc_G_p4, oc_G_g4, oc_L_ob, oc_L_g0, oc_L_g1, oc_L_g2, oc_L_g3, oc_L_g4, oc_L_p5, oc_L_g5, oc_L_p6, oc_L_g6, oc_L_p7, oc_L_g7, oc_A_ob, oc_A_g0, oc_A_p1, oc_A_g1, oc_A_p2, oc_A_g2, oc_A_p0, oc_U_ob, oc_U_g0, oc_U_g1, oc_M_ob, oc_M_p0, oc_M_g0, oc_M_p1, oc_M_g1, oc_M_g2, oc_M_g3, oc_M_g4, oc_M_g5, oc_M_g6, oc_M_g7, oc_M_p8, oc_M_g8, oc_M_g9, oc_M_g10, oc_M_p11, oc_M_g11, oc_M_g12, oc_M_g13, oc_M_p14, oc_M_g14, oc_M_g15, oc_M_g16, oc_M_g17, oc_M_g18, oc_M_p19, oc_M_g19, oc_M_g20, oc_M_g21, oc_M_g22, oc_M_g23, oc_M_p24, oc_M_g24, oc_M_g25, sg_G_layEverywhere_15, rd_13, k1, e1, rd_w13, e3, ev_G_layEverywhere_48, sg_G_layEverywhere_48, ih]
theorem p_G_layEverywhere {r s m : Nat} {p : hy_U} {sp X G : Nat → Int32} {c : Int32} (hw : 15 < w.1.length) (U : hy_RU w r p) (hm : m ≤ 400) (hX : ∀ j, j ≤ m + 1 → sp j = X j) : f_G_layEverywhere [.ref 13, .ref r] (hy_rd w s m c sp G) = some (.inl none, hy_rd w s m (hy_lC (hy_sd X m p.1) (m + 3 - p.1.length) 0 c) sp (hy_lF (hy_sd X m p.1) p.2.length (hy_g p.2) (m + 3 - p.1.length) 0 G)) := by
  have U' := U
  obtain ⟨a, b, b1, b2, b3, b4, b5, b6, b7, b8, b9⟩ := U'
  have k1 := (rd_ne (w := w) (s := s) (m := m) (c := c) (sp := sp) (G := G) (k := r) (by omega)).trans b4
  have k2 := (rd_ne (w := w) (s := s) (m := m) (c := c) (sp := sp) (G := G) (k := a) (by omega)).trans b5
  rw [f_G_layEverywhere, ev_G_layEverywhere_0]
  by_cases q : p.1.length ≤ m + 2
  · have e1 := p_G_layEverywhere15 (s := s) (c := c) (G := G) hw U hm hX q (m + 3 - p.1.length) 0 (by omega) (by omega)
    simp (disch := omega) only [e_gi, e_gr, e_ob, e_ai, e_ar, e_ln, e_pf, e_pa, wr_eq, wr_ne, wr_wr, Option.map_some, Option.bind_some, hy_bi_s, hy_br_s, hy_bv_s, hy_xi_s, hy_xi_t, hy_xv_s, hy_xv_t, hy_k_l, hy_k_r, ia_ai, ia_pa, ia_ln, oc_a_ar, oc_o_pa, oc_r_ln, n_le_t, n_le_f, n_lt_t, n_lt_f, n_eq_t, n_eq_f, nI_add, pk_mul, n_sub, n_prd, ne_1, hy_b_t, hy_b_f, ↓reduceIte, true_or, or_true, Bool.false_eq_true, or_false, false_or, and_true, true_and, and_false, false_and, li_c, li_0, li_1, li_2, li_3, li_4, li_5, li_6, li_10, li_11, li_16, li_17, li_20, li_40, li_41, li_300, li_400, oc_H_ob, oc_H_g0, oc_H_g1, oc_H_g2, oc_H_g3, oc_H_g4, oc_H_p5, oc_H_g5, oc_N_ob, oc_N_g0, oc_N_p1, oc_N_g1, oc_N_g2, oc_N_p3, oc_N_g3, oc_D_ob, oc_D_g0, oc_D_g1, oc_D_p2, oc_D_g2, oc_G_ob, oc_G_g0, oc_G_g1, oc_G_p2, oc_G_g2, oc_G_p3, oc_G_g3, oc_G_p4, oc_G_g4, oc_L_ob, oc_L_g0, oc_L_g1, oc_L_g2, oc_L_g3, oc_L_g4, oc_L_p5, oc_L_g5, oc_L_p6, oc_L_g6, oc_L_p7, oc_L_g7, oc_A_ob, oc_A_g0, oc_A_p1, oc_A_g1, oc_A_p2, oc_A_g2, oc_A_p0, oc_U_ob, oc_U_g0, oc_U_g1, oc_M_ob, oc_M_p0, oc_M_g0, oc_M_p1, oc_M_g1, oc_M_g2, oc_M_g3, oc_M_g4, oc_M_g5, oc_M_g6, oc_M_g7, oc_M_p8, oc_M_g8, oc_M_g9, oc_M_g10, oc_M_p11, oc_M_g11, oc_M_g12, oc_M_g13, oc_M_p14, oc_M_g14, oc_M_g15, oc_M_g16, oc_M_g17, oc_M_g18, oc_M_p19, oc_M_g19, oc_M_g20, oc_M_g21, oc_M_g22, oc_M_g23, oc_M_p24, oc_M_g24, oc_M_g25, sg_G_layEverywhere_0, rd_13, k1, k2, e1]
  · have e2 := pk_sneg (a := m + 2) (b := p.1.length) (by omega) (by omega)
    simp (disch := omega) only [e_gi, e_gr, e_ob, e_ai, e_ar, e_ln, e_pf, e_pa, wr_eq, wr_ne, wr_wr, Option.map_some, Option.bind_some, hy_bi_s, hy_br_s, hy_bv_s, hy_xi_s, hy_xi_t, hy_xv_s, hy_xv_t, hy_k_l, hy_k_r, ia_ai, ia_pa, ia_ln, oc_a_ar, oc_o_pa, oc_r_ln, n_le_t, n_le_f, n_lt_t, n_lt_f, n_eq_t, n_eq_f, nI_add, pk_mul, n_sub, n_prd, ne_1, hy_b_t, hy_b_f, ↓reduceIte, true_or, or_true, Bool.false_eq_true, or_false, false_or, and_true, true_and, and_false, false_and, li_c, li_0, li_1, li_2, li_3, li_4, li_5, li_6, li_10, li_11, li_16, li_17, li_20, li_40, li_41, li_300, li_400, oc_H_ob, oc_H_g0, oc_H_g1, oc_H_g2, oc_H_g3, oc_H_g4, oc_H_p5, oc_H_g5, oc_N_ob, oc_N_g0, oc_N_p1, oc_N_g1, oc_N_g2, oc_N_p3, oc_N_g3, oc_D_ob, oc_D_g0, oc_D_g1, oc_D_p2, oc_D_g2, oc_G_ob, oc_G_g0, oc_G_g1, oc_G_p2, oc_G_g2, oc_G_p3, oc_G_g3, oc_G_p4, oc_G_g4, oc_L_ob, oc_L_g0, oc_L_g1, oc_L_g2, oc_L_g3, oc_L_g4, oc_L_p5, oc_L_g5, oc_L_p6, oc_L_g6, oc_L_p7, oc_L_g7, oc_A_ob, oc_A_g0, oc_A_p1, oc_A_g1, oc_A_p2, oc_A_g2, oc_A_p0, oc_U_ob, oc_U_g0, oc_U_g1, oc_M_ob, oc_M_p0, oc_M_g0, oc_M_p1, oc_M_g1, oc_M_g2, oc_M_g3, oc_M_g4, oc_M_g5, oc_M_g6, oc_M_g7, oc_M_p8, oc_M_g8, oc_M_g9, oc_M_g10, oc_M_p11, oc_M_g11, oc_M_g12, oc_M_g13, oc_M_p14, oc_M_g14, oc_M_g15, oc_M_g16, oc_M_g17, oc_M_g18, oc_M_p19, oc_M_g19, oc_M_g20, oc_M_g21, oc_M_g22, oc_M_g23, oc_M_p24, oc_M_g24, oc_M_g25, sg_G_layEverywhere_0, rd_13, k1, k2]
    rw [ev_G_layEverywhere_15, sg_G_layEverywhere_15, if_pos (show nI (m + 2) - nI p.1.length < nI 0 from e2), show m + 3 - p.1.length = 0 by omega]
    rfl
end LEV
/-- all patterns laid -/
def hy_wF (X : Nat → Int32) (m : Nat) : List hy_U → (Nat → Int32) → Nat → Int32
  | [], G => G
  | p :: t, G => hy_wF X m t (hy_lF (hy_sd X m p.1) p.2.length (hy_g p.2) (m + 3 - p.1.length) 0 G)
def hy_wC (X : Nat → Int32) (m : Nat) : List hy_U → Int32 → Int32
  | [], c => c
  | p :: t, c => hy_wC X m t (hy_lC (hy_sd X m p.1) (m + 3 - p.1.length) 0 c)
section WEI
variable {w : hy_W}
theorem p_G_weigh54 {l rn s m ar : Nat} {a b : Int32} {L : List hy_U} {sp X : Nat → Int32} (hw : 15 < w.1.length) (hl : w.1[16 + 6 * l]? = some (oc_L l rn a b)) (R : hy_RL w (20 + 6 * l) ar L) (hm : m ≤ 400) (hX : ∀ j, j ≤ m + 1 → sp j = X j) : ∀ (d i : Nat) (c : Int32) (G : Nat → Int32), L.length - i = d → i ≤ L.length → hy_fx nx_G_weigh (54, [.ref 13, .ref (16 + 6 * l), .int (nI i)], hy_rd w s m c sp G) = some (.inl none, hy_rd w s m (hy_wC X m (L.drop i) c) sp (hy_wF X m (L.drop i) G))
  | 0, i, c, G, hd, hi => by
    have k1 := (rd_ne (w := w) (s := s) (m := m) (c := c) (sp := sp) (G := G) (k := 16 + 6 * l) (by omega)).trans hl
    obtain ⟨mc, es, a1, a2, a3, a4, a5, a6, a7⟩ := RL_rd (s := s) (m := m) (c := c) (sp := sp) (G := G) R (by omega)
    have e1 := p_A_size a1 (by omega)
    rw [ev_G_weigh_54, List.drop_eq_nil_of_le (by omega)]
    simp (disch := omega) only [e_gi, e_gr, e_ob, e_ai, e_ar, e_ln, e_pf, e_pa, wr_eq, wr_ne, wr_wr, Option.map_some, Option.bind_some, hy_bi_s, hy_br_s, hy_bv_s, hy_xi_s, hy_xi_t, hy_xv_s, hy_xv_t, hy_k_l, hy_k_r, ia_ai, ia_pa, ia_ln, oc_a_ar, oc_o_pa, oc_r_ln, n_le_t, n_le_f, n_lt_t, n_lt_f, n_eq_t, n_eq_f, nI_add, pk_mul, n_sub, n_prd, ne_1, hy_b_t, hy_b_f, ↓reduceIte, true_or, or_true, Bool.false_eq_true, or_false, false_or, and_true, true_and, and_false, false_and, li_c, li_0, li_1, li_2, li_3, li_4, li_5, li_6, li_10, li_11, li_16, li_17, li_20, li_40, li_41, li_300, li_400, oc_H_ob, oc_H_g0, oc_H_g1, oc_H_g2, oc_H_g3, oc_H_g4, oc_H_p5, oc_H_g5, oc_N_ob, oc_N_g0, oc_N_p1, oc_N_g1, oc_N_g2, oc_N_p3, oc_N_g3, oc_D_ob, oc_D_g0, oc_D_g1, oc_D_p2, oc_D_g2, oc_G_ob, oc_G_g0, oc_G_g1, oc_G_p2, oc_G_g2, oc_G_p3, oc_G_g3, oc_G_p4, oc_G_g4, oc_L_ob, oc_L_g0, oc_L_g1, oc_L_g2, oc_L_g3, oc_L_g4, oc_L_p5, oc_L_g5, oc_L_p6, oc_L_g6, oc_L_p7, oc_L_g7, oc_A_ob, oc_A_g0, oc_A_p1, oc_A_g1, oc_A_p2, oc_A_g2, oc_A_p0, oc_U_ob, oc_U_g0, oc_U_g1, oc_M_ob, oc_M_p0, oc_M_g0, oc_M_p1, oc_M_g1, oc_M_g2, oc_M_g3, oc_M_g4, oc_M_g5, oc_M_g6, oc_M_g7, oc_M_p8, oc_M_g8, oc_M_g9, oc_M_g10, oc_M_p11, oc_M_g11, oc_M_g12, oc_M_g13, oc_M_p14, oc_M_g14, oc_M_g15, oc_M_g16, oc_M_g17, oc_M_g18, oc_M_p19, oc_M_g19, oc_M_g20, oc_M_g21, oc_M_g22, oc_M_g23, oc_M_p24, oc_M_g24, oc_M_g25, sg_G_weigh_54, k1, a1, e1, hy_wC, hy_wF]
  | d + 1, i, c, G, hd, hi => by
    have ih := fun c G => p_G_weigh54 (s := s) hw hl R hm hX d (i + 1) c G (by omega) (by omega)
    have k1 := (rd_ne (w := w) (s := s) (m := m) (c := c) (sp := sp) (G := G) (k := 16 + 6 * l) (by omega)).trans hl
    have R' := R
    obtain ⟨_, _, _, _, _, _, _, _, r7⟩ := R'
    obtain ⟨mc, es, a1, a2, a3, a4, a5, a6, a7⟩ := RL_rd (s := s) (m := m) (c := c) (sp := sp) (G := G) R (by omega)
    have e1 := p_A_size a1 (by omega)
    have hil : i < L.length := by omega
    obtain ⟨r, e2, U'⟩ := a7 i L[i] (List.getElem?_eq_getElem hil)
    have U : hy_RU w r L[i] := by
      obtain ⟨a, b, b1, b2, b3, b4, b5, b6, b7⟩ := U'
      rw [rd_ne (by omega)] at b4 b5 b6
      exact ⟨a, b, b1, b2, b3, b4, b5, b6, b7⟩
    have har : 60 < ar := by
      rcases a5 with ⟨-, h⟩ | h
      · rw [h] at e2; cases e2
      · exact h
    have e3 := p_A_get a1 (by omega) a2 (by omega) e2 a4 hil (by omega)
    have e4 := p_G_layEverywhere (s := s) (c := c) (G := G) hw U hm hX
    obtain ⟨ua, ub, b1, b2, b3, b4, b5, b6, b7⟩ := U'
    rw [ev_G_weigh_54, List.drop_eq_getElem_cons hil, hy_wC, hy_wF]
    simp (disch := omega) only [e_gi, e_gr, e_ob, e_ai, e_ar, e_ln, e_pf, e_pa, wr_eq, wr_ne, wr_wr, Option.map_some, Option.bind_some, hy_bi_s, hy_br_s, hy_bv_s, hy_xi_s, hy_xi_t, hy_xv_s, hy_xv_t, hy_k_l, hy_k_r, ia_ai, ia_pa, ia_ln, oc_a_ar, oc_o_pa, oc_r_ln, n_le_t, n_le_f, n_lt_t, n_lt_f, n_eq_t, n_eq_f, nI_add, pk_mul, n_sub, n_prd, ne_1, hy_b_t, hy_b_f, ↓reduceIte, true_or, or_true, Bool.false_eq_true, or_false, false_or, and_true, true_and, and_false, false_and, li_c, li_0, li_1, li_2, li_3, li_4, li_5, li_6, li_10, li_11, li_16, li_17, li_20, li_40, li_41, li_300, li_400, oc_H_ob, oc_H_g0, oc_H_g1, oc_H_g2, oc_H_g3, oc_H_g4, oc_H_p5, oc_H_g5, oc_N_ob, oc_N_g0, oc_N_p1, oc_N_g1, oc_N_g2, oc_N_p3, oc_N_g3, oc_D_ob, oc_D_g0, oc_D_g1, oc_D_p2, oc_D_g2, oc_G_ob, oc_G_g0, oc_G_g1, oc_G_p2, oc_G_g2, oc_G_p3, oc_G_g3, oc_G_p4, oc_G_g4, oc_L_ob, oc_L_g0, oc_L_g1, oc_L_g2, oc_L_g3, oc_L_g4, oc_L_p5, oc_L_g5, oc_L_p6, oc_L_g6, oc_L_p7, oc_L_g7, oc_A_ob, oc_A_g0, oc_A_p1, oc_A_g1, oc_A_p2, oc_A_g2, oc_A_p0, oc_U_ob, oc_U_g0, oc_U_g1, oc_M_ob, oc_M_p0, oc_M_g0, oc_M_p1, oc_M_g1, oc_M_g2, oc_M_g3, oc_M_g4, oc_M_g5, oc_M_g6, oc_M_g7, oc_M_p8, oc_M_g8, oc_M_g9, oc_M_g10, oc_M_p11, oc_M_g11, oc_M_g12, oc_M_g13, oc_M_p14, oc_M_g14, oc_M_g15, oc_M_g16, oc_M_g17, oc_M_g18, oc_M_p19, oc_M_g19, oc_M_g20, oc_M_g21, oc_M_g22, oc_M_g23, oc_M_p24, oc_M_g24, oc_M_g25, sg_G_weigh_54, k1, a1, e1, e3, b4, rd_13, e4, ih]
/-- what the class gives for a word: the exception's places, or all patterns' -/
def hy_vF (X : Nat → Int32) (m : Nat) (P E : List hy_U) : Nat → Int32 := match hy_fd (hy_sm X 1 m) E 0 with
  | some e => match E[e]? with
    | some q => hy_ly 1 q.2.length (hy_g q.2) (fun _ => nI 0)
    | none => fun _ => nI 0
  | none => hy_wF X m P (fun _ => nI 0)
def hy_vC (X : Nat → Int32) (m : Nat) (P E : List hy_U) : Int32 := match hy_fd (hy_sm X 1 m) E 0 with
  | some _ => nI 0
  | none => hy_wC X m P (nI 0)
theorem fd_s {α : Type} {P : α → Bool} : ∀ {L : List α} {i e : Nat}, hy_fd P L i = some e → i ≤ e ∧ ∃ a, L[e - i]? = some a ∧ P a = true
  | [], i, e, h => by cases h
  | a :: t, i, e, h => by
    rw [hy_fd] at h
    split at h
    · rename_i hp
      cases h
      exact ⟨Nat.le_refl _, a, by simp, hp⟩
    · obtain ⟨h1, b, h2, h3⟩ := fd_s h
      exact ⟨by omega, b, by rw [show e - i = (e - (i + 1)) + 1 by omega, List.getElem?_cons_succ]; exact h2, h3⟩
theorem fd_ext {α : Type} {P Q : α → Bool} : ∀ {L : List α} {i : Nat}, (∀ a ∈ L, P a = Q a) → hy_fd P L i = hy_fd Q L i
  | [], i, h => rfl
  | a :: t, i, h => by rw [hy_fd, hy_fd, h a List.mem_cons_self, fd_ext fun b hb => h b (List.mem_cons_of_mem _ hb)]
theorem on_ne {i : Nat} (h : i < 2147483648) : ¬ nI i = -nI 1 := by
  intro e
  have h1 := congrArg Int32.toInt e
  rw [nI_toInt (by omega)] at h1
  have h2 : (-nI 1).toInt = -1 := by decide +kernel
  omega
theorem p_G_weigh {l rn s m ar br : Nat} {a b c : Int32} {P E : List hy_U} {sp X G : Nat → Int32} (hw : 15 < w.1.length) (hl : w.1[16 + 6 * l]? = some (oc_L l rn a b)) (R : hy_RL w (20 + 6 * l) ar P) (R2 : hy_RL w (21 + 6 * l) br E) (hm : m ≤ 400) (hX : ∀ j, j ≤ m + 1 → sp j = X j) : f_G_weigh [.ref 13, .ref (16 + 6 * l)] (hy_rd w s m c sp G) = some (.inl none, hy_rd w s m (hy_vC X m P E) sp (hy_vF X m P E)) := by
  have e1 := p_J_fill (w := hy_rd w s m c sp G) (k := 15) (by omega) (rd_15 hw) (by omega) (nI 0)
  rw [rd_w15] at e1
  have k1 := (rd_ne (w := w) (s := s) (m := m) (c := nI 0) (sp := sp) (G := fun _ => nI 0) (k := 16 + 6 * l) (by omega)).trans hl
  have e2 := p_H_indexOfRule (f := 1) (n := m) (RL_rd (s := s) (m := m) (c := nI 0) (sp := sp) (G := fun _ => nI 0) R2 (by omega)) (by omega) (rd_14 hw) (by omega) (by omega) (by omega)
  have e3 : hy_fd (hy_sm sp 1 m) E 0 = hy_fd (hy_sm X 1 m) E 0 := fd_ext fun p _ => by
    unfold hy_sm
    by_cases q : p.1.length = m
    · rw [al_ext fun j _ hj => by rw [hX (1 + j) (by omega)]]
    · rw [decide_eq_false q, Bool.false_and, Bool.false_and]
  rw [e3] at e2
  rw [f_G_weigh, ev_G_weigh_0]
  unfold hy_vC hy_vF
  cases q : hy_fd (hy_sm X 1 m) E 0 with
  | none =>
    rw [q] at e2
    have e4 := p_G_weigh54 (s := s) (c := nI 0) (G := fun _ => nI 0) hw hl R hm hX P.length 0 (by omega) (by omega)
    rw [List.drop_zero] at e4
    simp (disch := omega) only [e_gi, e_gr, e_ob, e_ai, e_ar, e_ln, e_pf, e_pa, wr_eq, wr_ne, wr_wr, Option.map_some, Option.bind_some, hy_bi_s, hy_br_s, hy_bv_s, hy_xi_s, hy_xi_t, hy_xv_s, hy_xv_t, hy_k_l, hy_k_r, ia_ai, ia_pa, ia_ln, oc_a_ar, oc_o_pa, oc_r_ln, n_le_t, n_le_f, n_lt_t, n_lt_f, n_eq_t, n_eq_f, nI_add, pk_mul, n_sub, n_prd, ne_1, hy_b_t, hy_b_f, ↓reduceIte, true_or, or_true, Bool.false_eq_true, or_false, false_or, and_true, true_and, and_false, false_and, li_c, li_0, li_1, li_2, li_3, li_4, li_5, li_6, li_10, li_11, li_16, li_17, li_20, li_40, li_41, li_300, li_400, oc_H_ob, oc_H_g0, oc_H_g1, oc_H_g2, oc_H_g3, oc_H_g4, oc_H_p5, oc_H_g5, oc_N_ob, oc_N_g0, oc_N_p1, oc_N_g1, oc_N_g2, oc_N_p3, oc_N_g3, oc_D_ob, oc_D_g0, oc_D_g1, oc_D_p2, oc_D_g2, oc_G_ob, oc_G_g0, oc_G_g1, oc_G_p2, oc_G_g2, oc_G_p3, oc_G_g3, oc_G_p4, oc_G_g4, oc_L_ob, oc_L_g0, oc_L_g1, oc_L_g2, oc_L_g3, oc_L_g4, oc_L_p5, oc_L_g5, oc_L_p6, oc_L_g6, oc_L_p7, oc_L_g7, oc_A_ob, oc_A_g0, oc_A_p1, oc_A_g1, oc_A_p2, oc_A_g2, oc_A_p0, oc_U_ob, oc_U_g0, oc_U_g1, oc_M_ob, oc_M_p0, oc_M_g0, oc_M_p1, oc_M_g1, oc_M_g2, oc_M_g3, oc_M_g4, oc_M_g5, oc_M_g6, oc_M_g7, oc_M_p8, oc_M_g8, oc_M_g9, oc_M_g10, oc_M_p11, oc_M_g11, oc_M_g12, oc_M_g13, oc_M_p14, oc_M_g14, oc_M_g15, oc_M_g16, oc_M_g17, oc_M_g18, oc_M_p19, oc_M_g19, oc_M_g20, oc_M_g21, oc_M_g22, oc_M_g23, oc_M_p24, oc_M_g24, oc_M_g25, sg_G_weigh_0, rd_13, e1, rd_w13, k1, e2, hy_on, e4]
  | some e =>
    rw [q] at e2
    obtain ⟨-, p, h1, h2⟩ := fd_s q
    rw [Nat.sub_zero] at h1
    have hel : e < E.length := (List.getElem?_eq_some_iff.mp h1).1
    obtain ⟨mc, es, a1, a2, a3, a4, a5, a6, a7⟩ := RL_rd (s := s) (m := m) (c := nI 0) (sp := sp) (G := fun _ => nI 0) R2 (by omega)
    obtain ⟨r, f2, ua, ub, b1, b2, b3, b4, b5, b6, b7, b8, b9⟩ := a7 e p h1
    have har : 60 < br := by
      rcases a5 with ⟨-, h⟩ | h
      · rw [h] at f2; cases f2
      · exact h
    have f3 := p_A_get a1 (by omega) a2 (by omega) f2 a4 hel (by omega)
    have hpm : p.1.length = m := by
      unfold hy_sm at h2
      rw [Bool.and_eq_true] at h2
      exact of_decide_eq_true h2.1
    have c4 := (rd_ne (k := r) (by omega)).symm.trans b4
    have c6 := (rd_ne (k := ub) (by omega)).symm.trans b6
    have f4 := p_G_lay (s := s) (m := m) (c := nI 0) (sp := sp) (G := fun _ => nI 0) hw b1 b3 c4 c6 (f := 1) (by omega)
    have hne : ¬ nI e = -nI 1 := on_ne (by omega)
    simp (disch := omega) only [e_gi, e_gr, e_ob, e_ai, e_ar, e_ln, e_pf, e_pa, wr_eq, wr_ne, wr_wr, Option.map_some, Option.bind_some, hy_bi_s, hy_br_s, hy_bv_s, hy_xi_s, hy_xi_t, hy_xv_s, hy_xv_t, hy_k_l, hy_k_r, ia_ai, ia_pa, ia_ln, oc_a_ar, oc_o_pa, oc_r_ln, n_le_t, n_le_f, n_lt_t, n_lt_f, n_eq_t, n_eq_f, nI_add, pk_mul, n_sub, n_prd, ne_1, hy_b_t, hy_b_f, ↓reduceIte, true_or, or_true, Bool.false_eq_true, or_false, false_or, and_true, true_and, and_false, false_and, li_c, li_0, li_1, li_2, li_3, li_4, li_5, li_6, li_10, li_11, li_16, li_17, li_20, li_40, li_41, li_300, li_400, oc_H_ob, oc_H_g0, oc_H_g1, oc_H_g2, oc_H_g3, oc_H_g4, oc_H_p5, oc_H_g5, oc_N_ob, oc_N_g0, oc_N_p1, oc_N_g1, oc_N_g2, oc_N_p3, oc_N_g3, oc_D_ob, oc_D_g0, oc_D_g1, oc_D_p2, oc_D_g2, oc_G_ob, oc_G_g0, oc_G_g1, oc_G_p2, oc_G_g2, oc_G_p3, oc_G_g3, oc_G_p4, oc_G_g4, oc_L_ob, oc_L_g0, oc_L_g1, oc_L_g2, oc_L_g3, oc_L_g4, oc_L_p5, oc_L_g5, oc_L_p6, oc_L_g6, oc_L_p7, oc_L_g7, oc_A_ob, oc_A_g0, oc_A_p1, oc_A_g1, oc_A_p2, oc_A_g2, oc_A_p0, oc_U_ob, oc_U_g0, oc_U_g1, oc_M_ob, oc_M_p0, oc_M_g0, oc_M_p1, oc_M_g1, oc_M_g2, oc_M_g3, oc_M_g4, oc_M_g5, oc_M_g6, oc_M_g7, oc_M_p8, oc_M_g8, oc_M_g9, oc_M_g10, oc_M_p11, oc_M_g11, oc_M_g12, oc_M_g13, oc_M_p14, oc_M_g14, oc_M_g15, oc_M_g16, oc_M_g17, oc_M_g18, oc_M_p19, oc_M_g19, oc_M_g20, oc_M_g21, oc_M_g22, oc_M_g23, oc_M_p24, oc_M_g24, oc_M_g25, sg_G_weigh_0, rd_13, e1, rd_w13, k1, e2, hy_on, hne, a1, f3, b4, f4, h1]
end WEI
