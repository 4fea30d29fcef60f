/-! LISTS of rules grow -/
/-- all old cells are kept -/
def hy_xt (w w' : hy_W) : Prop := ∀ (k : Nat) (c : hy_C), w.1[k]? = some c → w'.1[k]? = some c
def hy_nx (w w' : hy_W) (c : hy_C) (n : Nat) : Prop := w'.1.length = w.1.length + 1 ∧ hy_xt w w' ∧ w'.1[w.1.length]? = some c ∧ w'.2.1 = w.2.1 - 1 ∧ w'.2.2 = w.2.2 - n
theorem nw_x {w : hy_W} {c : hy_C} {n : Nat} (h1 : 1 ≤ w.2.1) (h2 : n ≤ w.2.2) : ∃ w', hy_nw w c n = some w' ∧ hy_nx w w' c n := by
  refine ⟨(w.1 ++ [c], w.2.1 - 1, w.2.2 - n), if_pos ⟨h1, h2⟩, by simp, fun k c0 hk => ?_, by simp, rfl, rfl⟩
  have := (List.getElem?_eq_some_iff.mp hk).1
  show (w.1 ++ [c])[k]? = _
  rw [List.getElem?_append_left this]; exact hk
theorem na_0 (n : Nat) : (Sum.inr (0, List.replicate n (hy_d 0)) : hy_C) = hy_ia n (fun _ => nI 0) := by
  unfold hy_ia
  congr 2
  apply List.ext_getElem?
  intro j
  rw [List.getElem?_replicate, List.getElem?_map]
  by_cases h : j < n
  · rw [if_pos h, List.getElem?_range h]; rfl
  · rw [if_neg h, List.getElem?_eq_none (by simp; omega)]; rfl
theorem na_x0 {w : hy_W} {n : Nat} (h1 : 1 ≤ w.2.1) (h2 : n ≤ w.2.2) (hn : n ≤ 65536) : ∃ w', hy_na w 0 (nI n) = some w' ∧ hy_nx w w' (hy_ia n (fun _ => nI 0)) n := by
  obtain ⟨w', e1, e2⟩ := nw_x (w := w) (c := hy_ia n (fun _ => nI 0)) (n := n) h1 h2
  refine ⟨w', ?_, e2⟩
  unfold hy_na
  rw [nI_clamp (by omega), if_pos ⟨nI_pos' (by omega), hn⟩, na_0]
  exact e1
theorem na_x3 {w : hy_W} {n : Nat} (h1 : 1 ≤ w.2.1) (h2 : n ≤ w.2.2) (hn : n ≤ 65536) : ∃ w', hy_na w 3 (nI n) = some w' ∧ hy_nx w w' (oc_r (List.replicate n .null)) n := by
  obtain ⟨w', e1, e2⟩ := nw_x (w := w) (c := oc_r (List.replicate n .null)) (n := n) h1 h2
  refine ⟨w', ?_, e2⟩
  unfold hy_na
  rw [nI_clamp (by omega), if_pos ⟨nI_pos' (by omega), hn⟩]
  exact e1
theorem nx_wr {w w' : hy_W} {c c' : hy_C} {n : Nat} (h : hy_nx w w' c n) : hy_nx w (hy_wr w' w.1.length c') c' n := by
  obtain ⟨a1, a2, a3, a4, a5⟩ := h
  refine ⟨by rw [wr_len]; exact a1, fun k c0 hk => ?_, by rw [wr_eq, a3]; rfl, a4, a5⟩
  have := (List.getElem?_eq_some_iff.mp hk).1
  rw [wr_ne (by omega)]; exact a2 k c0 hk
theorem p_J_copyI {w : hy_W} {k N n : Nat} {f : Nat → Int32} (h : w.1[k]? = some (hy_ia N f)) (hk : 1 < k) (hn : n ≤ N) (hN : N ≤ 1000) (b1 : 1 ≤ w.2.1) (b2 : n ≤ w.2.2) : ∃ w', f_J_copyI [.ref k, .int (nI n)] w = some (.inl (some (.ref w.1.length)), w') ∧ hy_nx w w' (hy_ia n f) n := by
  have hkl := (List.getElem?_eq_some_iff.mp h).1
  by_cases q : n = N
  · subst q
    obtain ⟨w', e1, e2⟩ := nw_x (w := w) (c := hy_ia n f) (n := n) b1 b2
    refine ⟨w', ?_, e2⟩
    have e3 : hy_cn w k = some w' := by
      unfold hy_cn
      rw [h]
      unfold hy_ia at e1 ⊢
      show (if 1 < k then hy_nw w (Sum.inr (0, (List.range n).map fun i => Value.int (f i))) ((List.range n).map fun i => Value.int (f i)).length else none) = some w'
      rw [if_pos hk, List.length_map, List.length_range]
      exact e1
    have e4 : hy_ar0 w' w.1.length 0 = true := by
      unfold hy_ar0
      rw [e2.2.2.1]
      exact decide_eq_true ⟨rfl, by omega⟩
    rw [f_J_copyI, ev_J_copyI_0]
    simp (disch := omega) only [e_gi, e_gr, e_ob, e_ai, e_ar, e_ln, e_pf, e_pa, wr_eq, wr_ne, wr_wr, Option.map_some, Option.bind_some, hy_bi_s, hy_br_s, hy_bv_s, hy_xi_s, hy_xi_t, hy_xv_s, hy_xv_t, hy_k_l, hy_k_r, ia_ai, ia_pa, ia_ln, oc_a_ar, oc_o_pa, oc_r_ln, n_le_t, n_le_f, n_lt_t, n_lt_f, n_eq_t, n_eq_f, nI_add, pk_mul, n_sub, n_prd, ne_1, hy_b_t, hy_b_f, ↓reduceIte, true_or, or_true, Bool.false_eq_true, or_false, false_or, and_true, true_and, and_false, false_and, li_c, li_0, li_1, li_2, li_3, li_4, li_5, li_6, li_10, li_11, li_16, li_17, li_20, li_40, li_41, li_300, li_400, oc_H_ob, oc_H_g0, oc_H_g1, oc_H_g2, oc_H_g3, oc_H_g4, oc_H_p5, oc_H_g5, oc_N_ob, oc_N_g0, oc_N_p1, oc_N_g1, oc_N_g2, oc_N_p3, oc_N_g3, oc_D_ob, oc_D_g0, oc_D_g1, oc_D_p2, oc_D_g2, oc_G_ob, oc_G_g0, oc_G_g1, oc_G_p2, oc_G_g2, oc_G_p3, oc_G_g3, oc_G_p4, oc_G_g4, oc_L_ob, oc_L_g0, oc_L_g1, oc_L_g2, oc_L_g3, oc_L_g4, oc_L_p5, oc_L_g5, oc_L_p6, oc_L_g6, oc_L_p7, oc_L_g7, oc_A_ob, oc_A_g0, oc_A_p1, oc_A_g1, oc_A_p2, oc_A_g2, oc_A_p0, oc_U_ob, oc_U_g0, oc_U_g1, oc_M_ob, oc_M_p0, oc_M_g0, oc_M_p1, oc_M_g1, oc_M_g2, oc_M_g3, oc_M_g4, oc_M_g5, oc_M_g6, oc_M_g7, oc_M_p8, oc_M_g8, oc_M_g9, oc_M_g10, oc_M_p11, oc_M_g11, oc_M_g12, oc_M_g13, oc_M_p14, oc_M_g14, oc_M_g15, oc_M_g16, oc_M_g17, oc_M_g18, oc_M_p19, oc_M_g19, oc_M_g20, oc_M_g21, oc_M_g22, oc_M_g23, oc_M_p24, oc_M_g24, oc_M_g25, sg_J_copyI_0, h, e3, e4]
  · obtain ⟨w1, e1, e2⟩ := na_x0 (w := w) (n := n) b1 b2 (by omega)
    have e3 := e_ac (w := w1) (k1 := k) (k2 := w.1.length) (N1 := N) (N2 := n) (a := 0) (b := 0) (n := n) (e2.2.1 k _ h) e2.2.2.1 hk (by omega) (by omega) (by omega) (by omega) (by omega)
    rw [ia_ext (g := f) fun j hj => by rw [if_pos (by omega), show 0 + (j - 0) = j by omega]] at e3
    refine ⟨_, ?_, nx_wr e2⟩
    have h' := e2.2.1 k _ h
    rw [f_J_copyI, ev_J_copyI_0]
    simp (disch := omega) only [e_gi, e_gr, e_ob, e_ai, e_ar, e_ln, e_pf, e_pa, wr_eq, wr_ne, wr_wr, Option.map_some, Option.bind_some, hy_bi_s, hy_br_s, hy_bv_s, hy_xi_s, hy_xi_t, hy_xv_s, hy_xv_t, hy_k_l, hy_k_r, ia_ai, ia_pa, ia_ln, oc_a_ar, oc_o_pa, oc_r_ln, n_le_t, n_le_f, n_lt_t, n_lt_f, n_eq_t, n_eq_f, nI_add, pk_mul, n_sub, n_prd, ne_1, hy_b_t, hy_b_f, ↓reduceIte, true_or, or_true, Bool.false_eq_true, or_false, false_or, and_true, true_and, and_false, false_and, li_c, li_0, li_1, li_2, li_3, li_4, li_5, li_6, li_10, li_11, li_16, li_17, li_20, li_40, li_41, li_300, li_400, oc_H_ob, oc_H_g0, oc_H_g1, oc_H_g2, oc_H_g3, oc_H_g4, oc_H_p5, oc_H_g5, oc_N_ob, oc_N_g0, oc_N_p1, oc_N_g1, oc_N_g2, oc_N_p3, oc_N_g3, oc_D_ob, oc_D_g0, oc_D_g1, oc_D_p2, oc_D_g2, oc_G_ob, oc_G_g0, oc_G_g1, oc_G_p2, oc_G_g2, oc_G_p3, oc_G_g3, oc_G_p4, oc_G_g4, oc_L_ob, oc_L_g0, oc_L_g1, oc_L_g2, oc_L_g3, oc_L_g4, oc_L_p5, oc_L_g5, oc_L_p6, oc_L_g6, oc_L_p7, oc_L_g7, oc_A_ob, oc_A_g0, oc_A_p1, oc_A_g1, oc_A_p2, oc_A_g2, oc_A_p0, oc_U_ob, oc_U_g0, oc_U_g1, oc_M_ob, oc_M_p0, oc_M_g0, oc_M_p1, oc_M_g1, oc_M_g2, oc_M_g3, oc_M_g4, oc_M_g5, oc_M_g6, oc_M_g7, oc_M_p8, oc_M_g8, oc_M_g9, oc_M_g10, oc_M_p11, oc_M_g11, oc_M_g12, oc_M_g13, oc_M_p14, oc_M_g14, oc_M_g15, oc_M_g16, oc_M_g17, oc_M_g18, oc_M_p19, oc_M_g19, oc_M_g20, oc_M_g21, oc_M_g22, oc_M_g23, oc_M_p24, oc_M_g24, oc_M_g25, sg_J_copyI_0, h, e1, h', e3]
theorem pf_n0 {k : Nat} (hk : 1 < k) (a : Nat) : hc_pf (some (.inl (4, [.null, .null]))) k 4 0 (.ref a) = some (.inl (4, [.ref a, .null])) := (hc_pf_o hk).trans rfl
theorem pf_n1 {k : Nat} (hk : 1 < k) (a b : Nat) : hc_pf (some (.inl (4, [.ref a, .null]))) k 4 1 (.ref b) = some (oc_U a b) := (hc_pf_o hk).trans rfl
theorem p_D_toRule {w : hy_W} {n : Nat} {sp vl : Nat → Int32} (h1 : w.1[10]? = some (oc_D n)) (h2 : w.1[11]? = some (hy_ia 40 sp)) (h3 : w.1[12]? = some (hy_ia 41 vl)) (hn : n ≤ 40) (b1 : 3 ≤ w.2.1) (b2 : 100 ≤ w.2.2) : ∃ w', f_D_toRule [.ref 10] w = some (.inl (some (.ref w.1.length)), w') ∧ w'.1.length = w.1.length + 3 ∧ hy_xt w w' ∧ w'.1[w.1.length]? = some (oc_U (w.1.length + 1) (w.1.length + 2)) ∧ w'.1[w.1.length + 1]? = some (hy_ia n sp) ∧ w'.1[w.1.length + 2]? = some (hy_ia (n + 1) vl) ∧ w.2.1 - 3 ≤ w'.2.1 ∧ w.2.2 - 100 ≤ w'.2.2 := by
  have hl := (List.getElem?_eq_some_iff.mp h3).1
  obtain ⟨w1, e1, a1, a2, a3, a4, a5⟩ := nw_x (w := w) (c := .inl (4, [.null, .null])) (n := 2) (by omega) (by omega)
  have k1 := a2 _ _ h1
  have k2 := a2 _ _ h2
  obtain ⟨w2, e2, c1, c2, c3, c4, c5⟩ := p_J_copyI k2 (by omega) (n := n) (by omega) (by omega) (by omega) (by omega)
  have m1 := c2 _ _ k1
  have m3 := c2 _ _ (a2 _ _ h3)
  obtain ⟨w3, e3, d1, d2, d3, d4, d5⟩ := p_J_copyI m3 (by omega) (n := n + 1) (by omega) (by omega) (by omega) (by omega)
  have r0 := d2 _ _ (c2 _ _ a3)
  rw [a1] at e2 c3
  rw [c1, a1] at e3 d3
  have e4 : f_U_init [.ref w.1.length, .ref (w.1.length + 1), .ref (w.1.length + 1 + 1)] w3 = some (.inl none, hy_wr w3 w.1.length (oc_U (w.1.length + 1) (w.1.length + 1 + 1))) := by
    rw [f_U_init, ev_U_init_0]
    simp (disch := omega) only [e_gi, e_gr, e_ob, e_ai, e_ar, e_ln, e_pf, e_pa, wr_eq, wr_ne, wr_wr, Option.map_some, Option.bind_some, hy_bi_s, hy_br_s, hy_bv_s, hy_xi_s, hy_xi_t, hy_xv_s, hy_xv_t, hy_k_l, hy_k_r, ia_ai, ia_pa, ia_ln, oc_a_ar, oc_o_pa, oc_r_ln, n_le_t, n_le_f, n_lt_t, n_lt_f, n_eq_t, n_eq_f, nI_add, pk_mul, n_sub, n_prd, ne_1, hy_b_t, hy_b_f, ↓reduceIte, true_or, or_true, Bool.false_eq_true, or_false, false_or, and_true, true_and, and_false, false_and, li_c, li_0, li_1, li_2, li_3, li_4, li_5, li_6, li_10, li_11, li_16, li_17, li_20, li_40, li_41, li_300, li_400, oc_H_ob, oc_H_g0, oc_H_g1, oc_H_g2, oc_H_g3, oc_H_g4, oc_H_p5, oc_H_g5, oc_N_ob, oc_N_g0, oc_N_p1, oc_N_g1, oc_N_g2, oc_N_p3, oc_N_g3, oc_D_ob, oc_D_g0, oc_D_g1, oc_D_p2, oc_D_g2, oc_G_ob, oc_G_g0, oc_G_g1, oc_G_p2, oc_G_g2, oc_G_p3, oc_G_g3, oc_G_p4, oc_G_g4, oc_L_ob, oc_L_g0, oc_L_g1, oc_L_g2, oc_L_g3, oc_L_g4, oc_L_p5, oc_L_g5, oc_L_p6, oc_L_g6, oc_L_p7, oc_L_g7, oc_A_ob, oc_A_g0, oc_A_p1, oc_A_g1, oc_A_p2, oc_A_g2, oc_A_p0, oc_U_ob, oc_U_g0, oc_U_g1, oc_M_ob, oc_M_p0, oc_M_g0, oc_M_p1, oc_M_g1, oc_M_g2, oc_M_g3, oc_M_g4, oc_M_g5, oc_M_g6, oc_M_g7, oc_M_p8, oc_M_g8, oc_M_g9, oc_M_g10, oc_M_p11, oc_M_g11, oc_M_g12, oc_M_g13, oc_M_p14, oc_M_g14, oc_M_g15, oc_M_g16, oc_M_g17, oc_M_g18, oc_M_p19, oc_M_g19, oc_M_g20, oc_M_g21, oc_M_g22, oc_M_g23, oc_M_p24, oc_M_g24, oc_M_g25, sg_U_init_0, r0, pf_n0, pf_n1]
  refine ⟨hy_wr w3 w.1.length (oc_U (w.1.length + 1) (w.1.length + 2)), ?_, by rw [wr_len]; omega, fun k c hk => ?_, by rw [wr_eq, r0]; rfl, ?_, ?_, ?_, ?_⟩
  · rw [f_D_toRule, ev_D_toRule_0]
    simp (disch := omega) only [e_gi, e_gr, e_ob, e_ai, e_ar, e_ln, e_pf, e_pa, wr_eq, wr_ne, wr_wr, Option.map_some, Option.bind_some, hy_bi_s, hy_br_s, hy_bv_s, hy_xi_s, hy_xi_t, hy_xv_s, hy_xv_t, hy_k_l, hy_k_r, ia_ai, ia_pa, ia_ln, oc_a_ar, oc_o_pa, oc_r_ln, n_le_t, n_le_f, n_lt_t, n_lt_f, n_eq_t, n_eq_f, nI_add, pk_mul, n_sub, n_prd, ne_1, hy_b_t, hy_b_f, ↓reduceIte, true_or, or_true, Bool.false_eq_true, or_false, false_or, and_true, true_and, and_false, false_and, li_c, li_0, li_1, li_2, li_3, li_4, li_5, li_6, li_10, li_11, li_16, li_17, li_20, li_40, li_41, li_300, li_400, oc_H_ob, oc_H_g0, oc_H_g1, oc_H_g2, oc_H_g3, oc_H_g4, oc_H_p5, oc_H_g5, oc_N_ob, oc_N_g0, oc_N_p1, oc_N_g1, oc_N_g2, oc_N_p3, oc_N_g3, oc_D_ob, oc_D_g0, oc_D_g1, oc_D_p2, oc_D_g2, oc_G_ob, oc_G_g0, oc_G_g1, oc_G_p2, oc_G_g2, oc_G_p3, oc_G_g3, oc_G_p4, oc_G_g4, oc_L_ob, oc_L_g0, oc_L_g1, oc_L_g2, oc_L_g3, oc_L_g4, oc_L_p5, oc_L_g5, oc_L_p6, oc_L_g6, oc_L_p7, oc_L_g7, oc_A_ob, oc_A_g0, oc_A_p1, oc_A_g1, oc_A_p2, oc_A_g2, oc_A_p0, oc_U_ob, oc_U_g0, oc_U_g1, oc_M_ob, oc_M_p0, oc_M_g0, oc_M_p1, oc_M_g1, oc_M_g2, oc_M_g3, oc_M_g4, oc_M_g5, oc_M_g6, oc_M_g7, oc_M_p8, oc_M_g8, oc_M_g9, oc_M_g10, oc_M_p11, oc_M_g11, oc_M_g12, oc_M_g13, oc_M_p14, oc_M_g14, oc_M_g15, oc_M_g16, oc_M_g17, oc_M_g18, oc_M_p19, oc_M_g19, oc_M_g20, oc_M_g21, oc_M_g22, oc_M_g23, oc_M_p24, oc_M_g24, oc_M_g25, sg_D_toRule_0, e1, k1, e2, m1, e3, e4]
  · have := (List.getElem?_eq_some_iff.mp hk).1
    rw [wr_ne (by omega)]
    exact d2 _ _ (c2 _ _ (a2 _ _ hk))
  · rw [wr_ne (by omega)]
    exact d2 _ _ c3
  · rw [wr_ne (by omega)]
    exact d3
  · rw [wr_2]; omega
  · rw [wr_2]; omega
/-- null or a rule -/
def hy_nr (w : hy_W) (es : List Value) : Prop := ∀ v ∈ es, v = Value.null ∨ ∃ (r a b : Nat), v = Value.ref r ∧ 60 < r ∧ w.1[r]? = some (oc_U a b)
theorem nr_ru {w : hy_W} {es : List Value} (h : hy_nr w es) : hy_ru w es = true := by
  unfold hy_ru
  rw [List.all_eq_true]
  intro v hv
  rcases h v hv with rfl | ⟨r, a, b, rfl, h1, h2⟩
  · rfl
  · dsimp only
    rw [h2]
    exact decide_eq_true (show 1 < r by omega)
theorem nr_xt {w w' : hy_W} {es : List Value} (h : hy_nr w es) (x : hy_xt w w') : hy_nr w' es := by
  intro v hv
  rcases h v hv with h1 | ⟨r, a, b, h1, h2, h3⟩
  · exact Or.inl h1
  · exact Or.inr ⟨r, a, b, h1, h2, x _ _ h3⟩
theorem p_A_grow0 {w : hy_W} {k a s : Nat} {c : Int32} {es : List Value} (h1 : w.1[k]? = some (oc_A a s c)) (hk : 15 < k) (h2 : w.1[a]? = some (oc_r es)) (ha : a = 0 ∧ es = [] ∨ 60 < a) (hs : s = es.length) (hn : hy_nr w es) (hs3 : s ≤ 400) (b1 : 1 ≤ w.2.1) (b2 : 1000 ≤ w.2.2) : ∃ w' es', f_A_grow0 [.ref k] w = some (.inl (some (.ref w.1.length)), w') ∧ w'.1.length = w.1.length + 1 ∧ (∀ (j : Nat) (d : hy_C), j ≠ k → w.1[j]? = some d → w'.1[j]? = some d) ∧ w'.1[k]? = some (oc_A w.1.length s c) ∧ w'.1[w.1.length]? = some (oc_r es') ∧ s < es'.length ∧ es'.length ≤ 1000 ∧ (∀ i, i < s → es'[i]? = es[i]?) ∧ hy_nr w' es' ∧ w.2.1 - 1 ≤ w'.2.1 ∧ w.2.2 - 1000 ≤ w'.2.2 := by
  have hkl := (List.getElem?_eq_some_iff.mp h1).1
  rcases ha with ⟨rfl, rfl⟩ | ha
  · have hs0 : s = 0 := hs
    subst hs0
    obtain ⟨w1, e1, a1, a2, a3, a4, a5⟩ := na_x3 (w := w) (n := 10) (by omega) (by omega) (by omega)
    have k1 := a2 _ _ h1
    refine ⟨hy_wr w1 k (oc_A w.1.length 0 c), List.replicate 10 .null, ?_, by rw [wr_len]; exact a1, fun j d hj hd => by rw [wr_ne (fun e => hj e.symm)]; exact a2 _ _ hd, by rw [wr_eq, k1]; rfl, by rw [wr_ne (by omega)]; exact a3, by simp, by simp, fun i hi => by omega, fun v hv => Or.inl (List.eq_of_mem_replicate hv), by rw [wr_2]; omega, by rw [wr_2]; omega⟩
    rw [f_A_grow0, ev_A_grow0_0]
    have e2 : f_A_grow1 [.ref k, .int (nI (0 + 1))] w = some (.inl (some (.ref w.1.length)), hy_wr w1 k (oc_A w.1.length 0 c)) := by
      rw [f_A_grow1, ev_A_grow1_0]
      have z1 : ((0 : Nat) ≠ 1) = True := eq_true (by decide)
      simp (disch := omega) only [e_gi, e_gr, e_ob, e_ai, e_ar, e_ln, e_pf, e_pa, wr_eq, wr_ne, wr_wr, Option.map_some, Option.bind_some, hy_bi_s, hy_br_s, hy_bv_s, hy_xi_s, hy_xi_t, hy_xv_s, hy_xv_t, hy_k_l, hy_k_r, ia_ai, ia_pa, ia_ln, oc_a_ar, oc_o_pa, oc_r_ln, n_le_t, n_le_f, n_lt_t, n_lt_f, n_eq_t, n_eq_f, nI_add, pk_mul, n_sub, n_prd, ne_1, hy_b_t, hy_b_f, ↓reduceIte, true_or, or_true, Bool.false_eq_true, or_false, false_or, and_true, true_and, and_false, false_and, li_c, li_0, li_1, li_2, li_3, li_4, li_5, li_6, li_10, li_11, li_16, li_17, li_20, li_40, li_41, li_300, li_400, oc_H_ob, oc_H_g0, oc_H_g1, oc_H_g2, oc_H_g3, oc_H_g4, oc_H_p5, oc_H_g5, oc_N_ob, oc_N_g0, oc_N_p1, oc_N_g1, oc_N_g2, oc_N_p3, oc_N_g3, oc_D_ob, oc_D_g0, oc_D_g1, oc_D_p2, oc_D_g2, oc_G_ob, oc_G_g0, oc_G_g1, oc_G_p2, oc_G_g2, oc_G_p3, oc_G_g3, oc_G_p4, oc_G_g4, oc_L_ob, oc_L_g0, oc_L_g1, oc_L_g2, oc_L_g3, oc_L_g4, oc_L_p5, oc_L_g5, oc_L_p6, oc_L_g6, oc_L_p7, oc_L_g7, oc_A_ob, oc_A_g0, oc_A_p1, oc_A_g1, oc_A_p2, oc_A_g2, oc_A_p0, oc_U_ob, oc_U_g0, oc_U_g1, oc_M_ob, oc_M_p0, oc_M_g0, oc_M_p1, oc_M_g1, oc_M_g2, oc_M_g3, oc_M_g4, oc_M_g5, oc_M_g6, oc_M_g7, oc_M_p8, oc_M_g8, oc_M_g9, oc_M_g10, oc_M_p11, oc_M_g11, oc_M_g12, oc_M_g13, oc_M_p14, oc_M_g14, oc_M_g15, oc_M_g16, oc_M_g17, oc_M_g18, oc_M_p19, oc_M_g19, oc_M_g20, oc_M_g21, oc_M_g22, oc_M_g23, oc_M_p24, oc_M_g24, oc_M_g25, sg_A_grow1_0, h1, h2, List.length_nil, z1, e1, k1]
    simp (disch := omega) only [e_gi, e_gr, e_ob, e_ai, e_ar, e_ln, e_pf, e_pa, wr_eq, wr_ne, wr_wr, Option.map_some, Option.bind_some, hy_bi_s, hy_br_s, hy_bv_s, hy_xi_s, hy_xi_t, hy_xv_s, hy_xv_t, hy_k_l, hy_k_r, ia_ai, ia_pa, ia_ln, oc_a_ar, oc_o_pa, oc_r_ln, n_le_t, n_le_f, n_lt_t, n_lt_f, n_eq_t, n_eq_f, nI_add, pk_mul, n_sub, n_prd, ne_1, hy_b_t, hy_b_f, ↓reduceIte, true_or, or_true, Bool.false_eq_true, or_false, false_or, and_true, true_and, and_false, false_and, li_c, li_0, li_1, li_2, li_3, li_4, li_5, li_6, li_10, li_11, li_16, li_17, li_20, li_40, li_41, li_300, li_400, oc_H_ob, oc_H_g0, oc_H_g1, oc_H_g2, oc_H_g3, oc_H_g4, oc_H_p5, oc_H_g5, oc_N_ob, oc_N_g0, oc_N_p1, oc_N_g1, oc_N_g2, oc_N_p3, oc_N_g3, oc_D_ob, oc_D_g0, oc_D_g1, oc_D_p2, oc_D_g2, oc_G_ob, oc_G_g0, oc_G_g1, oc_G_p2, oc_G_g2, oc_G_p3, oc_G_g3, oc_G_p4, oc_G_g4, oc_L_ob, oc_L_g0, oc_L_g1, oc_L_g2, oc_L_g3, oc_L_g4, oc_L_p5, oc_L_g5, oc_L_p6, oc_L_g6, oc_L_p7, oc_L_g7, oc_A_ob, oc_A_g0, oc_A_p1, oc_A_g1, oc_A_p2, oc_A_g2, oc_A_p0, oc_U_ob, oc_U_g0, oc_U_g1, oc_M_ob, oc_M_p0, oc_M_g0, oc_M_p1, oc_M_g1, oc_M_g2, oc_M_g3, oc_M_g4, oc_M_g5, oc_M_g6, oc_M_g7, oc_M_p8, oc_M_g8, oc_M_g9, oc_M_g10, oc_M_p11, oc_M_g11, oc_M_g12, oc_M_g13, oc_M_p14, oc_M_g14, oc_M_g15, oc_M_g16, oc_M_g17, oc_M_g18, oc_M_p19, oc_M_g19, oc_M_g20, oc_M_g21, oc_M_g22, oc_M_g23, oc_M_p24, oc_M_g24, oc_M_g25, sg_A_grow0_0, h1, e2]
  · have hl := hs
    obtain ⟨w1, e1, a1, a2, a3, a4, a5⟩ := na_x3 (w := w) (n := s + max 1 (s / 2)) (by omega) (by omega) (by omega)
    have k1 := a2 _ _ h1
    have k2 := a2 _ _ h2
    have e2 : hy_ac w1 3 a w.1.length (nI 0) (nI 0) (nI s) = some (hy_wr w1 w.1.length (oc_r (es ++ List.replicate (max 1 (s / 2)) .null))) := by
      unfold hy_ac
      rw [k2, a3]
      unfold oc_r
      dsimp only
      rw [nI_clamp (by omega), nI_clamp (by omega)]
      rw [if_pos ⟨rfl, rfl, by omega, by omega, nI_pos' (by omega), nI_pos' (by omega), nI_pos' (by omega), by omega, by rw [List.length_replicate]; omega, fun _ => nr_ru (nr_xt hn a2)⟩]
      congr 3
      unfold hy_cp
      rw [List.take_zero, List.nil_append, List.drop_zero, List.take_of_length_le (by omega), Nat.zero_add, List.drop_replicate, show s + max 1 (s / 2) - s = max 1 (s / 2) by omega]
    have hmax : ∀ x y : Nat, x < 1000 → y < 1000 → (if nI x < nI y then nI y else nI x) = nI (max x y) := by
      intro x y hx hy
      by_cases q : x < y
      · rw [if_pos ((nI_ltI (by omega) (by omega)).mpr q), Nat.max_eq_right (by omega)]
      · rw [if_neg (fun z => q ((nI_ltI (by omega) (by omega)).mp z)), Nat.max_eq_left (by omega)]
    have hsh : nI s >>> ((1 : Int32) &&& 31) = nI (s / 2) := by
      have := pk_shrN (n := s) (by omega) ((1 : Int32) &&& 31) 1 (by decide +kernel)
      simpa using this
    have hw3 : hy_nx w (hy_wr w1 w.1.length (oc_r (es ++ List.replicate (max 1 (s / 2)) .null))) (oc_r (es ++ List.replicate (max 1 (s / 2)) .null)) (s + max 1 (s / 2)) := nx_wr ⟨a1, a2, a3, a4, a5⟩
    obtain ⟨d1, d2, d3, d4, d5⟩ := hw3
    have m1 := d2 _ _ h1
    have hln : (es ++ List.replicate (max 1 (s / 2)) Value.null).length = s + max 1 (s / 2) := by rw [List.length_append, List.length_replicate]; omega
    have f1 : f_J_newLength [.int (nI s), .int (nI 1), .int (nI (s / 2))] w = some (.inl (some (.int (nI (s + max 1 (s / 2))))), w) := by
      rw [f_J_newLength, ev_J_newLength_0, sg_J_newLength_0, hmax 1 (s / 2) (by omega) (by omega), nI_add, if_neg (nI_nle (by omega) (by omega)), if_neg (show ¬ (2147483639 : Int32) < nI (s + max 1 (s / 2)) from fun z => by have := (nI_ltI (a := 2147483639) (by omega) (by omega)).mp z; omega)]
      rfl
    have f3 : f_J_copyO3 [.ref a, .int (nI (s + max 1 (s / 2))), .ref 1] w = some (.inl (some (.ref w.1.length)), hy_wr w1 w.1.length (oc_r (es ++ List.replicate (max 1 (s / 2)) .null))) := by
      have c1 : (if nI (s + max 1 (s / 2)) < nI s then nI (s + max 1 (s / 2)) else nI s) = nI s := if_neg (fun z => by have := (nI_ltI (by omega) (by omega)).mp z; omega)
      rw [f_J_copyO3, ev_J_copyO3_0]
      simp (disch := omega) only [e_gi, e_gr, e_ob, e_ai, e_ar, e_ln, e_pf, e_pa, wr_eq, wr_ne, wr_wr, Option.map_some, Option.bind_some, hy_bi_s, hy_br_s, hy_bv_s, hy_xi_s, hy_xi_t, hy_xv_s, hy_xv_t, hy_k_l, hy_k_r, ia_ai, ia_pa, ia_ln, oc_a_ar, oc_o_pa, oc_r_ln, n_le_t, n_le_f, n_lt_t, n_lt_f, n_eq_t, n_eq_f, nI_add, pk_mul, n_sub, n_prd, ne_1, hy_b_t, hy_b_f, ↓reduceIte, true_or, or_true, Bool.false_eq_true, or_false, false_or, and_true, true_and, and_false, false_and, li_c, li_0, li_1, li_2, li_3, li_4, li_5, li_6, li_10, li_11, li_16, li_17, li_20, li_40, li_41, li_300, li_400, oc_H_ob, oc_H_g0, oc_H_g1, oc_H_g2, oc_H_g3, oc_H_g4, oc_H_p5, oc_H_g5, oc_N_ob, oc_N_g0, oc_N_p1, oc_N_g1, oc_N_g2, oc_N_p3, oc_N_g3, oc_D_ob, oc_D_g0, oc_D_g1, oc_D_p2, oc_D_g2, oc_G_ob, oc_G_g0, oc_G_g1, oc_G_p2, oc_G_g2, oc_G_p3, oc_G_g3, oc_G_p4, oc_G_g4, oc_L_ob, oc_L_g0, oc_L_g1, oc_L_g2, oc_L_g3, oc_L_g4, oc_L_p5, oc_L_g5, oc_L_p6, oc_L_g6, oc_L_p7, oc_L_g7, oc_A_ob, oc_A_g0, oc_A_p1, oc_A_g1, oc_A_p2, oc_A_g2, oc_A_p0, oc_U_ob, oc_U_g0, oc_U_g1, oc_M_ob, oc_M_p0, oc_M_g0, oc_M_p1, oc_M_g1, oc_M_g2, oc_M_g3, oc_M_g4, oc_M_g5, oc_M_g6, oc_M_g7, oc_M_p8, oc_M_g8, oc_M_g9, oc_M_g10, oc_M_p11, oc_M_g11, oc_M_g12, oc_M_g13, oc_M_p14, oc_M_g14, oc_M_g15, oc_M_g16, oc_M_g17, oc_M_g18, oc_M_p19, oc_M_g19, oc_M_g20, oc_M_g21, oc_M_g22, oc_M_g23, oc_M_p24, oc_M_g24, oc_M_g25, sg_J_copyO3_0, e1, ev_J_copyO3_24, sg_J_copyO3_24, k2, ← hs, c1, e2]
    have f2 : f_J_copyO2 [.ref a, .int (nI (s + max 1 (s / 2)))] w = some (.inl (some (.ref w.1.length)), hy_wr w1 w.1.length (oc_r (es ++ List.replicate (max 1 (s / 2)) .null))) := by
      have c1 : hy_ar0 w a 3 = true := by
        unfold hy_ar0
        rw [h2]
        exact decide_eq_true ⟨rfl, by omega⟩
      rw [f_J_copyO2, ev_J_copyO2_0]
      simp (disch := omega) only [e_gi, e_gr, e_ob, e_ai, e_ar, e_ln, e_pf, e_pa, wr_eq, wr_ne, wr_wr, Option.map_some, Option.bind_some, hy_bi_s, hy_br_s, hy_bv_s, hy_xi_s, hy_xi_t, hy_xv_s, hy_xv_t, hy_k_l, hy_k_r, ia_ai, ia_pa, ia_ln, oc_a_ar, oc_o_pa, oc_r_ln, n_le_t, n_le_f, n_lt_t, n_lt_f, n_eq_t, n_eq_f, nI_add, pk_mul, n_sub, n_prd, ne_1, hy_b_t, hy_b_f, ↓reduceIte, true_or, or_true, Bool.false_eq_true, or_false, false_or, and_true, true_and, and_false, false_and, li_c, li_0, li_1, li_2, li_3, li_4, li_5, li_6, li_10, li_11, li_16, li_17, li_20, li_40, li_41, li_300, li_400, oc_H_ob, oc_H_g0, oc_H_g1, oc_H_g2, oc_H_g3, oc_H_g4, oc_H_p5, oc_H_g5, oc_N_ob, oc_N_g0, oc_N_p1, oc_N_g1, oc_N_g2, oc_N_p3, oc_N_g3, oc_D_ob, oc_D_g0, oc_D_g1, oc_D_p2, oc_D_g2, oc_G_ob, oc_G_g0, oc_G_g1, oc_G_p2, oc_G_g2, oc_G_p3, oc_G_g3, oc_G_p4, oc_G_g4, oc_L_ob, oc_L_g0, oc_L_g1, oc_L_g2, oc_L_g3, oc_L_g4, oc_L_p5, oc_L_g5, oc_L_p6, oc_L_g6, oc_L_p7, oc_L_g7, oc_A_ob, oc_A_g0, oc_A_p1, oc_A_g1, oc_A_p2, oc_A_g2, oc_A_p0, oc_U_ob, oc_U_g0, oc_U_g1, oc_M_ob, oc_M_p0, oc_M_g0, oc_M_p1, oc_M_g1, oc_M_g2, oc_M_g3, oc_M_g4, oc_M_g5, oc_M_g6, oc_M_g7, oc_M_p8, oc_M_g8, oc_M_g9, oc_M_g10, oc_M_p11, oc_M_g11, oc_M_g12, oc_M_g13, oc_M_p14, oc_M_g14, oc_M_g15, oc_M_g16, oc_M_g17, oc_M_g18, oc_M_p19, oc_M_g19, oc_M_g20, oc_M_g21, oc_M_g22, oc_M_g23, oc_M_p24, oc_M_g24, oc_M_g25, sg_J_copyO2_0, c1, f3]
    have f4 : f_A_grow1 [.ref k, .int (nI (s + 1))] w = some (.inl (some (.ref w.1.length)), hy_wr (hy_wr w1 w.1.length (oc_r (es ++ List.replicate (max 1 (s / 2)) .null))) k (oc_A w.1.length s c)) := by
      have g : hy_fx nx_A_grow1 (20, [.ref k, .int (nI (s + 1)), .int (nI s)], w) = some (.inl (some (.ref w.1.length)), hy_wr (hy_wr w1 w.1.length (oc_r (es ++ List.replicate (max 1 (s / 2)) .null))) k (oc_A w.1.length s c)) := by
        rw [ev_A_grow1_20, sg_A_grow1_20, hsh, n_sub (by omega), show s + 1 - s = 1 by omega, f1]
        simp (disch := omega) only [e_gi, e_gr, e_ob, e_ai, e_ar, e_ln, e_pf, e_pa, wr_eq, wr_ne, wr_wr, Option.map_some, Option.bind_some, hy_bi_s, hy_br_s, hy_bv_s, hy_xi_s, hy_xi_t, hy_xv_s, hy_xv_t, hy_k_l, hy_k_r, ia_ai, ia_pa, ia_ln, oc_a_ar, oc_o_pa, oc_r_ln, n_le_t, n_le_f, n_lt_t, n_lt_f, n_eq_t, n_eq_f, nI_add, pk_mul, n_sub, n_prd, ne_1, hy_b_t, hy_b_f, ↓reduceIte, true_or, or_true, Bool.false_eq_true, or_false, false_or, and_true, true_and, and_false, false_and, li_c, li_0, li_1, li_2, li_3, li_4, li_5, li_6, li_10, li_11, li_16, li_17, li_20, li_40, li_41, li_300, li_400, oc_H_ob, oc_H_g0, oc_H_g1, oc_H_g2, oc_H_g3, oc_H_g4, oc_H_p5, oc_H_g5, oc_N_ob, oc_N_g0, oc_N_p1, oc_N_g1, oc_N_g2, oc_N_p3, oc_N_g3, oc_D_ob, oc_D_g0, oc_D_g1, oc_D_p2, oc_D_g2, oc_G_ob, oc_G_g0, oc_G_g1, oc_G_p2, oc_G_g2, oc_G_p3, oc_G_g3, oc_G_p4, oc_G_g4, oc_L_ob, oc_L_g0, oc_L_g1, oc_L_g2, oc_L_g3, oc_L_g4, oc_L_p5, oc_L_g5, oc_L_p6, oc_L_g6, oc_L_p7, oc_L_g7, oc_A_ob, oc_A_g0, oc_A_p1, oc_A_g1, oc_A_p2, oc_A_g2, oc_A_p0, oc_U_ob, oc_U_g0, oc_U_g1, oc_M_ob, oc_M_p0, oc_M_g0, oc_M_p1, oc_M_g1, oc_M_g2, oc_M_g3, oc_M_g4, oc_M_g5, oc_M_g6, oc_M_g7, oc_M_p8, oc_M_g8, oc_M_g9, oc_M_g10, oc_M_p11, oc_M_g11, oc_M_g12, oc_M_g13, oc_M_p14, oc_M_g14, oc_M_g15, oc_M_g16, oc_M_g17, oc_M_g18, oc_M_p19, oc_M_g19, oc_M_g20, oc_M_g21, oc_M_g22, oc_M_g23, oc_M_p24, oc_M_g24, oc_M_g25, h1, f2, m1]
      rw [f_A_grow1, ev_A_grow1_0]
      by_cases q : 0 < s
      · simp (disch := omega) only [e_gi, e_gr, e_ob, e_ai, e_ar, e_ln, e_pf, e_pa, wr_eq, wr_ne, wr_wr, Option.map_some, Option.bind_some, hy_bi_s, hy_br_s, hy_bv_s, hy_xi_s, hy_xi_t, hy_xv_s, hy_xv_t, hy_k_l, hy_k_r, ia_ai, ia_pa, ia_ln, oc_a_ar, oc_o_pa, oc_r_ln, n_le_t, n_le_f, n_lt_t, n_lt_f, n_eq_t, n_eq_f, nI_add, pk_mul, n_sub, n_prd, ne_1, hy_b_t, hy_b_f, ↓reduceIte, true_or, or_true, Bool.false_eq_true, or_false, false_or, and_true, true_and, and_false, false_and, li_c, li_0, li_1, li_2, li_3, li_4, li_5, li_6, li_10, li_11, li_16, li_17, li_20, li_40, li_41, li_300, li_400, oc_H_ob, oc_H_g0, oc_H_g1, oc_H_g2, oc_H_g3, oc_H_g4, oc_H_p5, oc_H_g5, oc_N_ob, oc_N_g0, oc_N_p1, oc_N_g1, oc_N_g2, oc_N_p3, oc_N_g3, oc_D_ob, oc_D_g0, oc_D_g1, oc_D_p2, oc_D_g2, oc_G_ob, oc_G_g0, oc_G_g1, oc_G_p2, oc_G_g2, oc_G_p3, oc_G_g3, oc_G_p4, oc_G_g4, oc_L_ob, oc_L_g0, oc_L_g1, oc_L_g2, oc_L_g3, oc_L_g4, oc_L_p5, oc_L_g5, oc_L_p6, oc_L_g6, oc_L_p7, oc_L_g7, oc_A_ob, oc_A_g0, oc_A_p1, oc_A_g1, oc_A_p2, oc_A_g2, oc_A_p0, oc_U_ob, oc_U_g0, oc_U_g1, oc_M_ob, oc_M_p0, oc_M_g0, oc_M_p1, oc_M_g1, oc_M_g2, oc_M_g3, oc_M_g4, oc_M_g5, oc_M_g6, oc_M_g7, oc_M_p8, oc_M_g8, oc_M_g9, oc_M_g10, oc_M_p11, oc_M_g11, oc_M_g12, oc_M_g13, oc_M_p14, oc_M_g14, oc_M_g15, oc_M_g16, oc_M_g17, oc_M_g18, oc_M_p19, oc_M_g19, oc_M_g20, oc_M_g21, oc_M_g22, oc_M_g23, oc_M_p24, oc_M_g24, oc_M_g25, sg_A_grow1_0, h1, h2, ← hs, g]
      · have z0 : ¬ a = 0 := by omega
        have z1 : ((0 : Nat) ≠ 1) = True := eq_true (by decide)
        have hs0 : s = 0 := by omega
        simp (disch := omega) only [e_gi, e_gr, e_ob, e_ai, e_ar, e_ln, e_pf, e_pa, wr_eq, wr_ne, wr_wr, Option.map_some, Option.bind_some, hy_bi_s, hy_br_s, hy_bv_s, hy_xi_s, hy_xi_t, hy_xv_s, hy_xv_t, hy_k_l, hy_k_r, ia_ai, ia_pa, ia_ln, oc_a_ar, oc_o_pa, oc_r_ln, n_le_t, n_le_f, n_lt_t, n_lt_f, n_eq_t, n_eq_f, nI_add, pk_mul, n_sub, n_prd, ne_1, hy_b_t, hy_b_f, ↓reduceIte, true_or, or_true, Bool.false_eq_true, or_false, false_or, and_true, true_and, and_false, false_and, li_c, li_0, li_1, li_2, li_3, li_4, li_5, li_6, li_10, li_11, li_16, li_17, li_20, li_40, li_41, li_300, li_400, oc_H_ob, oc_H_g0, oc_H_g1, oc_H_g2, oc_H_g3, oc_H_g4, oc_H_p5, oc_H_g5, oc_N_ob, oc_N_g0, oc_N_p1, oc_N_g1, oc_N_g2, oc_N_p3, oc_N_g3, oc_D_ob, oc_D_g0, oc_D_g1, oc_D_p2, oc_D_g2, oc_G_ob, oc_G_g0, oc_G_g1, oc_G_p2, oc_G_g2, oc_G_p3, oc_G_g3, oc_G_p4, oc_G_g4, oc_L_ob, oc_L_g0, oc_L_g1, oc_L_g2, oc_L_g3, oc_L_g4, oc_L_p5, oc_L_g5, oc_L_p6, oc_L_g6, oc_L_p7, oc_L_g7, oc_A_ob, oc_A_g0, oc_A_p1, oc_A_g1, oc_A_p2, oc_A_g2, oc_A_p0, oc_U_ob, oc_U_g0, oc_U_g1, oc_M_ob, oc_M_p0, oc_M_g0, oc_M_p1, oc_M_g1, oc_M_g2, oc_M_g3, oc_M_g4, oc_M_g5, oc_M_g6, oc_M_g7, oc_M_p8, oc_M_g8, oc_M_g9, oc_M_g10, oc_M_p11, oc_M_g11, oc_M_g12, oc_M_g13, oc_M_p14, oc_M_g14, oc_M_g15, oc_M_g16, oc_M_g17, oc_M_g18, oc_M_p19, oc_M_g19, oc_M_g20, oc_M_g21, oc_M_g22, oc_M_g23, oc_M_p24, oc_M_g24, oc_M_g25, sg_A_grow1_0, h1, h2, ← hs, z0, z1, g]
    refine ⟨hy_wr (hy_wr w1 w.1.length (oc_r (es ++ List.replicate (max 1 (s / 2)) .null))) k (oc_A w.1.length s c), es ++ List.replicate (max 1 (s / 2)) .null, ?_, ?_, fun j d hj hd => ?_, ?_, ?_, by omega, by omega, fun i hi => ?_, ?_, ?_, ?_⟩
    · rw [f_A_grow0, ev_A_grow0_0]
      simp (disch := omega) only [e_gi, e_gr, e_ob, e_ai, e_ar, e_ln, e_pf, e_pa, wr_eq, wr_ne, wr_wr, Option.map_some, Option.bind_some, hy_bi_s, hy_br_s, hy_bv_s, hy_xi_s, hy_xi_t, hy_xv_s, hy_xv_t, hy_k_l, hy_k_r, ia_ai, ia_pa, ia_ln, oc_a_ar, oc_o_pa, oc_r_ln, n_le_t, n_le_f, n_lt_t, n_lt_f, n_eq_t, n_eq_f, nI_add, pk_mul, n_sub, n_prd, ne_1, hy_b_t, hy_b_f, ↓reduceIte, true_or, or_true, Bool.false_eq_true, or_false, false_or, and_true, true_and, and_false, false_and, li_c, li_0, li_1, li_2, li_3, li_4, li_5, li_6, li_10, li_11, li_16, li_17, li_20, li_40, li_41, li_300, li_400, oc_H_ob, oc_H_g0, oc_H_g1, oc_H_g2, oc_H_g3, oc_H_g4, oc_H_p5, oc_H_g5, oc_N_ob, oc_N_g0, oc_N_p1, oc_N_g1, oc_N_g2, oc_N_p3, oc_N_g3, oc_D_ob, oc_D_g0, oc_D_g1, oc_D_p2, oc_D_g2, oc_G_ob, oc_G_g0, oc_G_g1, oc_G_p2, oc_G_g2, oc_G_p3, oc_G_g3, oc_G_p4, oc_G_g4, oc_L_ob, oc_L_g0, oc_L_g1, oc_L_g2, oc_L_g3, oc_L_g4, oc_L_p5, oc_L_g5, oc_L_p6, oc_L_g6, oc_L_p7, oc_L_g7, oc_A_ob, oc_A_g0, oc_A_p1, oc_A_g1, oc_A_p2, oc_A_g2, oc_A_p0, oc_U_ob, oc_U_g0, oc_U_g1, oc_M_ob, oc_M_p0, oc_M_g0, oc_M_p1, oc_M_g1, oc_M_g2, oc_M_g3, oc_M_g4, oc_M_g5, oc_M_g6, oc_M_g7, oc_M_p8, oc_M_g8, oc_M_g9, oc_M_g10, oc_M_p11, oc_M_g11, oc_M_g12, oc_M_g13, oc_M_p14, oc_M_g14, oc_M_g15, oc_M_g16, oc_M_g17, oc_M_g18, oc_M_p19, oc_M_g19, oc_M_g20, oc_M_g21, oc_M_g22, oc_M_g23, oc_M_p24, oc_M_g24, oc_M_g25, sg_A_grow0_0, h1, f4]
    · rw [wr_len]; exact d1
    · rw [wr_ne (fun e => hj e.symm)]; exact d2 _ _ hd
    · rw [wr_eq, m1]; rfl
    · rw [wr_ne (by omega)]; exact d3
    · rw [List.getElem?_append_left (by omega)]
    · intro v hv
      rcases List.mem_append.mp hv with hv | hv
      · rcases hn v hv with h | ⟨r, x, y, e1, e2, e3⟩
        · exact Or.inl h
        · refine Or.inr ⟨r, x, y, e1, e2, ?_⟩
          rw [wr_ne (fun e => by rw [← e, h1] at e3; cases e3)]
          exact d2 _ _ e3
      · exact Or.inl (List.eq_of_mem_replicate hv)
    · rw [wr_2]; omega
    · rw [wr_2]; omega
