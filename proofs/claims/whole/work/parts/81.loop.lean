/-! THE LAW's loop -/
theorem lj_7 : (7 : Int32) = nI 7 := rfl
theorem lj_8 : (8 : Int32) = nI 8 := rfl
theorem lj_9 : (9 : Int32) = nI 9 := rfl
theorem lj_12 : (12 : Int32) = nI 12 := rfl
theorem lj_13 : (13 : Int32) = nI 13 := rfl
theorem lp_c {N i : Nat} (hN : N ≤ 3072) (hi : i ≤ 4000) : ((Int32.ofNat N - nI 6) < nI i) = (N < i + 6) := by
  show ((nI N - nI 6) < nI i) = _
  by_cases h : 6 ≤ N
  · rw [n_sub h]
    exact propext ((nI_ltI (by omega) (by omega)).trans (by omega))
  · have h1 : ∀ n : Fin 6, nI n.1 - nI 6 < nI 0 := by decide +kernel
    have h2 := h1 ⟨N, by omega⟩
    have h3 : nI 0 ≤ nI i := (nI_leI (by omega) (by omega)).mpr (by omega)
    exact propext ⟨fun _ => by omega, fun _ => Int32.lt_of_lt_of_le h2 h3⟩
theorem I_le {K : Nat} {w : hy_W} (I : hy_I (K + 1) w) : hy_I K w := by
  obtain ⟨ft, l, td, n, tl, x, F, L, T, lf, rg, r, PM, EM, o, C, D, Q, h60, b1, b2⟩ := I
  exact ⟨ft, l, td, n, tl, x, F, L, T, lf, rg, r, PM, EM, o, C, D, Q, h60, by omega, by omega⟩
section LPS
variable {N : Nat} {xs : Nat → Int32} {w : hy_W} {i : Nat}
theorem lp_end (hN : N ≤ 3072) (hi : i ≤ 4000) (h : N < i + 6) : hy_fx (nx_X_law N xs) (23, [.ref 2, .ref 40, .ref 60, .int (nI i)], w) = some (.inl (some (.int 1)), w) := by
  have c := lp_c hN hi
  rw [eq_true h] at c
  rw [ev_X_law_23, sg_X_law_23, li_6, if_pos (of_eq_true c), hy_k_r]
theorem lp_0 (hN : N ≤ 3072) (hi : i + 6 ≤ N) (e : xs i &&& 15 = nI 0) : hy_fx (nx_X_law N xs) (23, [.ref 2, .ref 40, .ref 60, .int (nI i)], w) = hy_fx (nx_X_law N xs) (112, [.ref 2, .ref 40, .ref 60, .int (nI i)], w) := by
  have c := lp_c hN (i := i) (by omega)
  rw [eq_false (show ¬ N < i + 6 by omega)] at c
  have s0 := sc_n (xs := xs) (i := i) (L := N) (by omega) hN
  rw [ev_X_law_23, sg_X_law_23, li_6, if_neg (of_eq_false c), s0, Option.bind_some, e, if_pos (show nI 0 = (0 : Int32) from rfl), hy_k_l]
theorem lp_1 (hN : N ≤ 3072) (hi : i + 6 ≤ N) (e : xs i &&& 15 = nI 1) : hy_fx (nx_X_law N xs) (23, [.ref 2, .ref 40, .ref 60, .int (nI i)], w) = hy_fx (nx_X_law N xs) (168, [.ref 2, .ref 40, .ref 60, .int (nI i)], w) := by
  have c := lp_c hN (i := i) (by omega)
  rw [eq_false (show ¬ N < i + 6 by omega)] at c
  have s0 := sc_n (xs := xs) (i := i) (L := N) (by omega) hN
  rw [ev_X_law_23, sg_X_law_23, li_6, if_neg (of_eq_false c), s0, Option.bind_some, e, if_neg (show ¬ nI 1 = (0 : Int32) by decide +kernel), if_pos (show nI 1 = (1 : Int32) from rfl), hy_k_l]
theorem lp_2 (hN : N ≤ 3072) (hi : i + 6 ≤ N) (e : xs i &&& 15 = nI 2) : hy_fx (nx_X_law N xs) (23, [.ref 2, .ref 40, .ref 60, .int (nI i)], w) = hy_fx (nx_X_law N xs) (228, [.ref 2, .ref 40, .ref 60, .int (nI i)], w) := by
  have c := lp_c hN (i := i) (by omega)
  rw [eq_false (show ¬ N < i + 6 by omega)] at c
  have s0 := sc_n (xs := xs) (i := i) (L := N) (by omega) hN
  rw [ev_X_law_23, sg_X_law_23, li_6, if_neg (of_eq_false c), s0, Option.bind_some, e, if_neg (show ¬ nI 2 = (0 : Int32) by decide +kernel), if_neg (show ¬ nI 2 = (1 : Int32) by decide +kernel), if_pos (show nI 2 = (2 : Int32) from rfl), hy_k_l]
theorem lp_3 (hN : N ≤ 3072) (hi : i + 6 ≤ N) (e : xs i &&& 15 = nI 3) : hy_fx (nx_X_law N xs) (23, [.ref 2, .ref 40, .ref 60, .int (nI i)], w) = hy_fx (nx_X_law N xs) (276, [.ref 2, .ref 40, .ref 60, .int (nI i)], w) := by
  have c := lp_c hN (i := i) (by omega)
  rw [eq_false (show ¬ N < i + 6 by omega)] at c
  have s0 := sc_n (xs := xs) (i := i) (L := N) (by omega) hN
  rw [ev_X_law_23, sg_X_law_23, li_6, if_neg (of_eq_false c), s0, Option.bind_some, e, if_neg (show ¬ nI 3 = (0 : Int32) by decide +kernel), if_neg (show ¬ nI 3 = (1 : Int32) by decide +kernel), if_neg (show ¬ nI 3 = (2 : Int32) by decide +kernel), if_pos (show nI 3 = (3 : Int32) from rfl), hy_k_l]
theorem lp_4 (hN : N ≤ 3072) (hi : i + 6 ≤ N) (e : xs i &&& 15 = nI 4) : hy_fx (nx_X_law N xs) (23, [.ref 2, .ref 40, .ref 60, .int (nI i)], w) = hy_fx (nx_X_law N xs) (380, [.ref 2, .ref 40, .ref 60, .int (nI i)], w) := by
  have c := lp_c hN (i := i) (by omega)
  rw [eq_false (show ¬ N < i + 6 by omega)] at c
  have s0 := sc_n (xs := xs) (i := i) (L := N) (by omega) hN
  rw [ev_X_law_23, sg_X_law_23, li_6, if_neg (of_eq_false c), s0, Option.bind_some, e, if_neg (show ¬ nI 4 = (0 : Int32) by decide +kernel), if_neg (show ¬ nI 4 = (1 : Int32) by decide +kernel), if_neg (show ¬ nI 4 = (2 : Int32) by decide +kernel), if_neg (show ¬ nI 4 = (3 : Int32) by decide +kernel), if_pos (show nI 4 = (4 : Int32) from rfl), hy_k_l]
theorem lp_5 (hN : N ≤ 3072) (hi : i + 6 ≤ N) (e : xs i &&& 15 = nI 5) : hy_fx (nx_X_law N xs) (23, [.ref 2, .ref 40, .ref 60, .int (nI i)], w) = hy_fx (nx_X_law N xs) (393, [.ref 2, .ref 40, .ref 60, .int (nI i)], w) := by
  have c := lp_c hN (i := i) (by omega)
  rw [eq_false (show ¬ N < i + 6 by omega)] at c
  have s0 := sc_n (xs := xs) (i := i) (L := N) (by omega) hN
  rw [ev_X_law_23, sg_X_law_23, li_6, if_neg (of_eq_false c), s0, Option.bind_some, e, if_neg (show ¬ nI 5 = (0 : Int32) by decide +kernel), if_neg (show ¬ nI 5 = (1 : Int32) by decide +kernel), if_neg (show ¬ nI 5 = (2 : Int32) by decide +kernel), if_neg (show ¬ nI 5 = (3 : Int32) by decide +kernel), if_neg (show ¬ nI 5 = (4 : Int32) by decide +kernel), if_pos (show nI 5 = (5 : Int32) from rfl), hy_k_l]
theorem lp_6 (hN : N ≤ 3072) (hi : i + 6 ≤ N) (e : xs i &&& 15 = nI 6) : hy_fx (nx_X_law N xs) (23, [.ref 2, .ref 40, .ref 60, .int (nI i)], w) = hy_fx (nx_X_law N xs) (437, [.ref 2, .ref 40, .ref 60, .int (nI i)], w) := by
  have c := lp_c hN (i := i) (by omega)
  rw [eq_false (show ¬ N < i + 6 by omega)] at c
  have s0 := sc_n (xs := xs) (i := i) (L := N) (by omega) hN
  rw [ev_X_law_23, sg_X_law_23, li_6, if_neg (of_eq_false c), s0, Option.bind_some, e, if_neg (show ¬ nI 6 = (0 : Int32) by decide +kernel), if_neg (show ¬ nI 6 = (1 : Int32) by decide +kernel), if_neg (show ¬ nI 6 = (2 : Int32) by decide +kernel), if_neg (show ¬ nI 6 = (3 : Int32) by decide +kernel), if_neg (show ¬ nI 6 = (4 : Int32) by decide +kernel), if_neg (show ¬ nI 6 = (5 : Int32) by decide +kernel), if_pos (show nI 6 = nI 6 from rfl), hy_k_l]
theorem lp_7 (hN : N ≤ 3072) (hi : i + 6 ≤ N) (e : xs i &&& 15 = nI 7) : hy_fx (nx_X_law N xs) (23, [.ref 2, .ref 40, .ref 60, .int (nI i)], w) = hy_fx (nx_X_law N xs) (481, [.ref 2, .ref 40, .ref 60, .int (nI i)], w) := by
  have c := lp_c hN (i := i) (by omega)
  rw [eq_false (show ¬ N < i + 6 by omega)] at c
  have s0 := sc_n (xs := xs) (i := i) (L := N) (by omega) hN
  rw [ev_X_law_23, sg_X_law_23, li_6, if_neg (of_eq_false c), s0, Option.bind_some, e, if_neg (show ¬ nI 7 = (0 : Int32) by decide +kernel), if_neg (show ¬ nI 7 = (1 : Int32) by decide +kernel), if_neg (show ¬ nI 7 = (2 : Int32) by decide +kernel), if_neg (show ¬ nI 7 = (3 : Int32) by decide +kernel), if_neg (show ¬ nI 7 = (4 : Int32) by decide +kernel), if_neg (show ¬ nI 7 = (5 : Int32) by decide +kernel), if_neg (show ¬ nI 7 = nI 6 by decide +kernel), if_pos (show nI 7 = (7 : Int32) from rfl), hy_k_l]
theorem lp_8 (hN : N ≤ 3072) (hi : i + 6 ≤ N) (e : xs i &&& 15 = nI 8) : hy_fx (nx_X_law N xs) (23, [.ref 2, .ref 40, .ref 60, .int (nI i)], w) = hy_fx (nx_X_law N xs) (494, [.ref 2, .ref 40, .ref 60, .int (nI i)], w) := by
  have c := lp_c hN (i := i) (by omega)
  rw [eq_false (show ¬ N < i + 6 by omega)] at c
  have s0 := sc_n (xs := xs) (i := i) (L := N) (by omega) hN
  rw [ev_X_law_23, sg_X_law_23, li_6, if_neg (of_eq_false c), s0, Option.bind_some, e, if_neg (show ¬ nI 8 = (0 : Int32) by decide +kernel), if_neg (show ¬ nI 8 = (1 : Int32) by decide +kernel), if_neg (show ¬ nI 8 = (2 : Int32) by decide +kernel), if_neg (show ¬ nI 8 = (3 : Int32) by decide +kernel), if_neg (show ¬ nI 8 = (4 : Int32) by decide +kernel), if_neg (show ¬ nI 8 = (5 : Int32) by decide +kernel), if_neg (show ¬ nI 8 = nI 6 by decide +kernel), if_neg (show ¬ nI 8 = (7 : Int32) by decide +kernel), if_pos (show nI 8 = (8 : Int32) from rfl), hy_k_l]
theorem lp_9 (hN : N ≤ 3072) (hi : i + 6 ≤ N) (e : xs i &&& 15 = nI 9) : hy_fx (nx_X_law N xs) (23, [.ref 2, .ref 40, .ref 60, .int (nI i)], w) = hy_fx (nx_X_law N xs) (598, [.ref 2, .ref 40, .ref 60, .int (nI i)], w) := by
  have c := lp_c hN (i := i) (by omega)
  rw [eq_false (show ¬ N < i + 6 by omega)] at c
  have s0 := sc_n (xs := xs) (i := i) (L := N) (by omega) hN
  rw [ev_X_law_23, sg_X_law_23, li_6, if_neg (of_eq_false c), s0, Option.bind_some, e, if_neg (show ¬ nI 9 = (0 : Int32) by decide +kernel), if_neg (show ¬ nI 9 = (1 : Int32) by decide +kernel), if_neg (show ¬ nI 9 = (2 : Int32) by decide +kernel), if_neg (show ¬ nI 9 = (3 : Int32) by decide +kernel), if_neg (show ¬ nI 9 = (4 : Int32) by decide +kernel), if_neg (show ¬ nI 9 = (5 : Int32) by decide +kernel), if_neg (show ¬ nI 9 = nI 6 by decide +kernel), if_neg (show ¬ nI 9 = (7 : Int32) by decide +kernel), if_neg (show ¬ nI 9 = (8 : Int32) by decide +kernel), if_pos (show nI 9 = (9 : Int32) from rfl), hy_k_l]
theorem lp_10 (hN : N ≤ 3072) (hi : i + 6 ≤ N) (e : xs i &&& 15 = nI 10) : hy_fx (nx_X_law N xs) (23, [.ref 2, .ref 40, .ref 60, .int (nI i)], w) = hy_fx (nx_X_law N xs) (611, [.ref 2, .ref 40, .ref 60, .int (nI i)], w) := by
  have c := lp_c hN (i := i) (by omega)
  rw [eq_false (show ¬ N < i + 6 by omega)] at c
  have s0 := sc_n (xs := xs) (i := i) (L := N) (by omega) hN
  rw [ev_X_law_23, sg_X_law_23, li_6, if_neg (of_eq_false c), s0, Option.bind_some, e, if_neg (show ¬ nI 10 = (0 : Int32) by decide +kernel), if_neg (show ¬ nI 10 = (1 : Int32) by decide +kernel), if_neg (show ¬ nI 10 = (2 : Int32) by decide +kernel), if_neg (show ¬ nI 10 = (3 : Int32) by decide +kernel), if_neg (show ¬ nI 10 = (4 : Int32) by decide +kernel), if_neg (show ¬ nI 10 = (5 : Int32) by decide +kernel), if_neg (show ¬ nI 10 = nI 6 by decide +kernel), if_neg (show ¬ nI 10 = (7 : Int32) by decide +kernel), if_neg (show ¬ nI 10 = (8 : Int32) by decide +kernel), if_neg (show ¬ nI 10 = (9 : Int32) by decide +kernel), if_pos (show nI 10 = (10 : Int32) from rfl), hy_k_l]
theorem lp_11 (hN : N ≤ 3072) (hi : i + 6 ≤ N) (e : xs i &&& 15 = nI 11) : hy_fx (nx_X_law N xs) (23, [.ref 2, .ref 40, .ref 60, .int (nI i)], w) = hy_fx (nx_X_law N xs) (667, [.ref 2, .ref 40, .ref 60, .int (nI i)], w) := by
  have c := lp_c hN (i := i) (by omega)
  rw [eq_false (show ¬ N < i + 6 by omega)] at c
  have s0 := sc_n (xs := xs) (i := i) (L := N) (by omega) hN
  rw [ev_X_law_23, sg_X_law_23, li_6, if_neg (of_eq_false c), s0, Option.bind_some, e, if_neg (show ¬ nI 11 = (0 : Int32) by decide +kernel), if_neg (show ¬ nI 11 = (1 : Int32) by decide +kernel), if_neg (show ¬ nI 11 = (2 : Int32) by decide +kernel), if_neg (show ¬ nI 11 = (3 : Int32) by decide +kernel), if_neg (show ¬ nI 11 = (4 : Int32) by decide +kernel), if_neg (show ¬ nI 11 = (5 : Int32) by decide +kernel), if_neg (show ¬ nI 11 = nI 6 by decide +kernel), if_neg (show ¬ nI 11 = (7 : Int32) by decide +kernel), if_neg (show ¬ nI 11 = (8 : Int32) by decide +kernel), if_neg (show ¬ nI 11 = (9 : Int32) by decide +kernel), if_neg (show ¬ nI 11 = (10 : Int32) by decide +kernel), if_pos (show nI 11 = (11 : Int32) from rfl), hy_k_l]
theorem lp_12 (hN : N ≤ 3072) (hi : i + 6 ≤ N) (e : xs i &&& 15 = nI 12) : hy_fx (nx_X_law N xs) (23, [.ref 2, .ref 40, .ref 60, .int (nI i)], w) = hy_fx (nx_X_law N xs) (730, [.ref 2, .ref 40, .ref 60, .int (nI i)], w) := by
  have c := lp_c hN (i := i) (by omega)
  rw [eq_false (show ¬ N < i + 6 by omega)] at c
  have s0 := sc_n (xs := xs) (i := i) (L := N) (by omega) hN
  rw [ev_X_law_23, sg_X_law_23, li_6, if_neg (of_eq_false c), s0, Option.bind_some, e, if_neg (show ¬ nI 12 = (0 : Int32) by decide +kernel), if_neg (show ¬ nI 12 = (1 : Int32) by decide +kernel), if_neg (show ¬ nI 12 = (2 : Int32) by decide +kernel), if_neg (show ¬ nI 12 = (3 : Int32) by decide +kernel), if_neg (show ¬ nI 12 = (4 : Int32) by decide +kernel), if_neg (show ¬ nI 12 = (5 : Int32) by decide +kernel), if_neg (show ¬ nI 12 = nI 6 by decide +kernel), if_neg (show ¬ nI 12 = (7 : Int32) by decide +kernel), if_neg (show ¬ nI 12 = (8 : Int32) by decide +kernel), if_neg (show ¬ nI 12 = (9 : Int32) by decide +kernel), if_neg (show ¬ nI 12 = (10 : Int32) by decide +kernel), if_neg (show ¬ nI 12 = (11 : Int32) by decide +kernel), if_pos (show nI 12 = (12 : Int32) from rfl), hy_k_l]
theorem lp_13 (hN : N ≤ 3072) (hi : i + 6 ≤ N) (e : xs i &&& 15 = nI 13) : hy_fx (nx_X_law N xs) (23, [.ref 2, .ref 40, .ref 60, .int (nI i)], w) = hy_fx (nx_X_law N xs) (783, [.ref 2, .ref 40, .ref 60, .int (nI i)], w) := by
  have c := lp_c hN (i := i) (by omega)
  rw [eq_false (show ¬ N < i + 6 by omega)] at c
  have s0 := sc_n (xs := xs) (i := i) (L := N) (by omega) hN
  rw [ev_X_law_23, sg_X_law_23, li_6, if_neg (of_eq_false c), s0, Option.bind_some, e, if_neg (show ¬ nI 13 = (0 : Int32) by decide +kernel), if_neg (show ¬ nI 13 = (1 : Int32) by decide +kernel), if_neg (show ¬ nI 13 = (2 : Int32) by decide +kernel), if_neg (show ¬ nI 13 = (3 : Int32) by decide +kernel), if_neg (show ¬ nI 13 = (4 : Int32) by decide +kernel), if_neg (show ¬ nI 13 = (5 : Int32) by decide +kernel), if_neg (show ¬ nI 13 = nI 6 by decide +kernel), if_neg (show ¬ nI 13 = (7 : Int32) by decide +kernel), if_neg (show ¬ nI 13 = (8 : Int32) by decide +kernel), if_neg (show ¬ nI 13 = (9 : Int32) by decide +kernel), if_neg (show ¬ nI 13 = (10 : Int32) by decide +kernel), if_neg (show ¬ nI 13 = (11 : Int32) by decide +kernel), if_neg (show ¬ nI 13 = (12 : Int32) by decide +kernel), if_pos (show nI 13 = (13 : Int32) from rfl), hy_k_l]
theorem lp_14 (hN : N ≤ 3072) (hi : i + 6 ≤ N) (e : xs i &&& 15 = nI 14) : hy_fx (nx_X_law N xs) (23, [.ref 2, .ref 40, .ref 60, .int (nI i)], w) = hy_fx (nx_X_law N xs) (808, [.ref 2, .ref 40, .ref 60, .int (nI i)], w) := by
  have c := lp_c hN (i := i) (by omega)
  rw [eq_false (show ¬ N < i + 6 by omega)] at c
  have s0 := sc_n (xs := xs) (i := i) (L := N) (by omega) hN
  rw [ev_X_law_23, sg_X_law_23, li_6, if_neg (of_eq_false c), s0, Option.bind_some, e, if_neg (show ¬ nI 14 = (0 : Int32) by decide +kernel), if_neg (show ¬ nI 14 = (1 : Int32) by decide +kernel), if_neg (show ¬ nI 14 = (2 : Int32) by decide +kernel), if_neg (show ¬ nI 14 = (3 : Int32) by decide +kernel), if_neg (show ¬ nI 14 = (4 : Int32) by decide +kernel), if_neg (show ¬ nI 14 = (5 : Int32) by decide +kernel), if_neg (show ¬ nI 14 = nI 6 by decide +kernel), if_neg (show ¬ nI 14 = (7 : Int32) by decide +kernel), if_neg (show ¬ nI 14 = (8 : Int32) by decide +kernel), if_neg (show ¬ nI 14 = (9 : Int32) by decide +kernel), if_neg (show ¬ nI 14 = (10 : Int32) by decide +kernel), if_neg (show ¬ nI 14 = (11 : Int32) by decide +kernel), if_neg (show ¬ nI 14 = (12 : Int32) by decide +kernel), if_neg (show ¬ nI 14 = (13 : Int32) by decide +kernel), hy_k_l]
theorem lp_15 (hN : N ≤ 3072) (hi : i + 6 ≤ N) (e : xs i &&& 15 = nI 15) : hy_fx (nx_X_law N xs) (23, [.ref 2, .ref 40, .ref 60, .int (nI i)], w) = hy_fx (nx_X_law N xs) (808, [.ref 2, .ref 40, .ref 60, .int (nI i)], w) := by
  have c := lp_c hN (i := i) (by omega)
  rw [eq_false (show ¬ N < i + 6 by omega)] at c
  have s0 := sc_n (xs := xs) (i := i) (L := N) (by omega) hN
  rw [ev_X_law_23, sg_X_law_23, li_6, if_neg (of_eq_false c), s0, Option.bind_some, e, if_neg (show ¬ nI 15 = (0 : Int32) by decide +kernel), if_neg (show ¬ nI 15 = (1 : Int32) by decide +kernel), if_neg (show ¬ nI 15 = (2 : Int32) by decide +kernel), if_neg (show ¬ nI 15 = (3 : Int32) by decide +kernel), if_neg (show ¬ nI 15 = (4 : Int32) by decide +kernel), if_neg (show ¬ nI 15 = (5 : Int32) by decide +kernel), if_neg (show ¬ nI 15 = nI 6 by decide +kernel), if_neg (show ¬ nI 15 = (7 : Int32) by decide +kernel), if_neg (show ¬ nI 15 = (8 : Int32) by decide +kernel), if_neg (show ¬ nI 15 = (9 : Int32) by decide +kernel), if_neg (show ¬ nI 15 = (10 : Int32) by decide +kernel), if_neg (show ¬ nI 15 = (11 : Int32) by decide +kernel), if_neg (show ¬ nI 15 = (12 : Int32) by decide +kernel), if_neg (show ¬ nI 15 = (13 : Int32) by decide +kernel), hy_k_l]
theorem lp_skip (hi : i + 6 ≤ N) (hN : N ≤ 3072) : hy_fx (nx_X_law N xs) (808, [.ref 2, .ref 40, .ref 60, .int (nI i)], w) = hy_fx (nx_X_law N xs) (23, [.ref 2, .ref 40, .ref 60, .int (nI (i + 6))], w) := by
  rw [ev_X_law_808]
  simp (disch := omega) only [e_gi, e_gr, e_ob, e_ai, e_ar, e_ln, e_pf, e_pa, wr_eq, wr_ne, wr_wr, Option.map_some, Option.bind_some, hy_bi_s, hy_br_s, hy_bv_s, hy_xi_s, hy_xi_t, hy_xv_s, hy_xv_t, hy_k_l, hy_k_r, ia_ai, ia_pa, ia_ln, oc_a_ar, oc_o_pa, oc_r_ln, n_le_t, n_le_f, n_lt_t, n_lt_f, n_eq_t, n_eq_f, nI_add, pk_mul, n_sub, n_prd, ne_1, hy_b_t, hy_b_f, ↓reduceIte, true_or, or_true, Bool.false_eq_true, or_false, false_or, and_true, true_and, and_false, false_and, li_c, li_0, li_1, li_2, li_3, li_4, li_5, li_6, li_10, li_11, li_16, li_17, li_20, li_40, li_41, li_300, li_400, oc_H_ob, oc_H_g0, oc_H_g1, oc_H_g2, oc_H_g3, oc_H_g4, oc_H_p5, oc_H_g5, oc_N_ob, oc_N_g0, oc_N_p1, oc_N_g1, oc_N_g2, oc_N_p3, oc_N_g3, oc_D_ob, oc_D_g0, oc_D_g1, oc_D_p2, oc_D_g2, oc_G_ob, oc_G_g0, oc_G_g1, oc_G_p2, oc_G_g2, oc_G_p3, oc_G_g3, oc_G_p4, oc_G_g4, oc_L_ob, oc_L_g0, oc_L_g1, oc_L_g2, oc_L_g3, oc_L_g4, oc_L_p5, oc_L_g5, oc_L_p6, oc_L_g6, oc_L_p7, oc_L_g7, oc_A_ob, oc_A_g0, oc_A_p1, oc_A_g1, oc_A_p2, oc_A_g2, oc_A_p0, oc_U_ob, oc_U_g0, oc_U_g1, oc_M_ob, oc_M_p0, oc_M_g0, oc_M_p1, oc_M_g1, oc_M_g2, oc_M_g3, oc_M_g4, oc_M_g5, oc_M_g6, oc_M_g7, oc_M_p8, oc_M_g8, oc_M_g9, oc_M_g10, oc_M_p11, oc_M_g11, oc_M_g12, oc_M_g13, oc_M_p14, oc_M_g14, oc_M_g15, oc_M_g16, oc_M_g17, oc_M_g18, oc_M_p19, oc_M_g19, oc_M_g20, oc_M_g21, oc_M_g22, oc_M_g23, oc_M_p24, oc_M_g24, oc_M_g25, sg_X_law_808]
theorem lp_step {K : Nat} (I : hy_I (K + 1) w) (hN : N ≤ 3072) (hi : i + 6 ≤ N) : ∃ w2, hy_fx (nx_X_law N xs) (23, [.ref 2, .ref 40, .ref 60, .int (nI i)], w) = hy_fx (nx_X_law N xs) (23, [.ref 2, .ref 40, .ref 60, .int (nI (i + 6))], w2) ∧ hy_I K w2 := by
  obtain ⟨j, hj, e⟩ := pk_andE (xs i) (m := 15) 4 (by decide +kernel)
  have hj : j = 0 ∨ j = 1 ∨ j = 2 ∨ j = 3 ∨ j = 4 ∨ j = 5 ∨ j = 6 ∨ j = 7 ∨ j = 8 ∨ j = 9 ∨ j = 10 ∨ j = 11 ∨ j = 12 ∨ j = 13 ∨ j = 14 ∨ j = 15 := by omega
  rcases hj with rfl | rfl | rfl | rfl | rfl | rfl | rfl | rfl | rfl | rfl | rfl | rfl | rfl | rfl | rfl | rfl
  · rw [lp_0 hN hi e]; exact s_choose I hi hN
  · rw [lp_1 hN hi e]; exact s_letters I hi hN
  · rw [lp_2 hN hi e]; exact s_least I hi hN
  · rw [lp_3 hN hi e]; exact s_tell I hi hN
  · rw [lp_4 hN hi e]; exact s_drop I hi hN
  · rw [lp_5 hN hi e]; exact s_pattern I hi hN
  · rw [lp_6 hN hi e]; exact s_exception I hi hN
  · rw [lp_7 hN hi e]; exact s_forget I hi hN
  · rw [lp_8 hN hi e]; exact s_add I hi hN
  · rw [lp_9 hN hi e]; exact s_clear I hi hN
  · rw [lp_10 hN hi e]; exact s_value I hi hN
  · rw [lp_11 hN hi e]; exact s_breaks I hi hN
  · rw [lp_12 hN hi e]; exact s_word I hi hN
  · rw [lp_13 hN hi e]; exact s_count I hi hN
  · rw [lp_14 hN hi e]; exact ⟨w, lp_skip hi hN, I_le I⟩
  · rw [lp_15 hN hi e]; exact ⟨w, lp_skip hi hN, I_le I⟩
end LPS
theorem lp_all {N : Nat} {xs : Nat → Int32} (hN : N ≤ 3072) : ∀ (K i : Nat) (w : hy_W), hy_I K w → N < i + 6 * K + 6 → i ≤ N + 6 → ∃ w', hy_fx (nx_X_law N xs) (23, [.ref 2, .ref 40, .ref 60, .int (nI i)], w) = some (.inl (some (.int 1)), w')
  | 0, i, w, I, h, hi => ⟨w, lp_end hN (by omega) (by omega)⟩
  | K + 1, i, w, I, h, hi => by
    by_cases q : N < i + 6
    · exact ⟨w, lp_end hN (by omega) q⟩
    · obtain ⟨w2, e, I2⟩ := lp_step (xs := xs) I hN (i := i) (by omega)
      obtain ⟨w3, e3⟩ := lp_all hN K (i + 6) w2 I2 (by omega) (by omega)
      exact ⟨w3, e.trans e3⟩
