/-! THE START: the class, the reference, the invariant -/
section IN2
variable {A : List hy_C} {a b k : Nat}
theorem i_A4 {x1 x2 x3 x4 : hy_C} (hk : A.length = k) (hA : 1 < k) : f_A_init [.ref (k + 4)] (A ++ [x1, x2, x3, x4, .inl (7, [.null, .int 0, .int 0])], a, b) = some (.inl none, (A ++ [x1, x2, x3, x4, oc_A 0 0 (nI 0)], a, b)) := by
  have e := i_A (A := A ++ [x1, x2, x3, x4]) (a := a) (b := b) (k := k + 4) (by rw [List.length_append, hk]; rfl) (by omega)
  rw [List.append_assoc, List.append_assoc] at e
  exact e
theorem i_A5 {x1 x2 x3 x4 x5 : hy_C} (hk : A.length = k) (hA : 1 < k) : f_A_init [.ref (k + 5)] (A ++ [x1, x2, x3, x4, x5, .inl (7, [.null, .int 0, .int 0])], a, b) = some (.inl none, (A ++ [x1, x2, x3, x4, x5, oc_A 0 0 (nI 0)], a, b)) := by
  have e := i_A (A := A ++ [x1, x2, x3, x4, x5]) (a := a) (b := b) (k := k + 5) (by rw [List.length_append, hk]; rfl) (by omega)
  rw [List.append_assoc, List.append_assoc] at e
  exact e
theorem i_L (hk : A.length = k) (hA : 1 < k) (h1 : 5 ≤ a) (h2 : 66 ≤ b) : f_L_init [.ref k] (A ++ [.inl (1, [.null, .null, .null, .null, .null, .int 0, .int 0, .int 0])], a, b) = some (.inl none, (A ++ [.inl (1, [.ref (k + 1), .ref (k + 2), .ref (k + 3), .ref (k + 4), .ref (k + 5), .int (nI 0), .int (nI 2), .int (nI 3)]), hy_ia 20 hy_z, hy_ia 20 hy_z, hy_ia 20 hy_z, oc_A 0 0 (nI 0), oc_A 0 0 (nI 0)], a - 1 - 1 - 1 - 1 - 1, b - 20 - 20 - 20 - 3 - 3)) := by
  rw [f_L_init, ev_L_init_0]
  unfold sg_L_init_0
  simp (disch := omega) only [na_l, nw_l, pf_l, Option.bind_some, hy_bv_s, hy_k_l, hy_k_r, List.append_assoc, List.cons_append, List.nil_append, List.length_append, List.length_cons, List.length_nil, Nat.zero_add, Nat.add_assoc, Nat.reduceAdd, Nat.reduceLT, ↓reduceIte, List.set_cons_succ, List.set_cons_zero, hk, li_20, i_A4 hk hA, i_A5 hk hA]
  rfl
theorem i_N_2 {x1 x2 : hy_C} {m : Nat} {lo : Int32} (hk : A.length = 2) (hm : m ≤ 400) (h1 : 2 ≤ a) (h2 : m + 5 ≤ b) : f_N_init [.ref 4, .int (nI m), .int lo] (A ++ [x1, x2, .inl (2, [.null, .int 0, .null, .int 0])], a, b) = some (.inl none, (A ++ [x1, x2, oc_N 6 5 lo 0, hy_ia 5 hy_z, hy_ia m hy_z], a - 1 - 1, b - 5 - m)) := by
  have e := i_N (A := A ++ [x1, x2]) (a := a) (b := b) (k := 4) (m := m) (lo := lo) (by rw [List.length_append, hk]; rfl) (by omega) hm h1 h2
  rw [List.append_assoc, List.append_assoc] at e
  exact e
theorem i_N_5 {x1 x2 x3 x4 x5 : hy_C} {m : Nat} {lo : Int32} (hk : A.length = 2) (hm : m ≤ 400) (h1 : 2 ≤ a) (h2 : m + 5 ≤ b) : f_N_init [.ref 7, .int (nI m), .int lo] (A ++ [x1, x2, x3, x4, x5, .inl (2, [.null, .int 0, .null, .int 0])], a, b) = some (.inl none, (A ++ [x1, x2, x3, x4, x5, oc_N 9 8 lo 0, hy_ia 5 hy_z, hy_ia m hy_z], a - 1 - 1, b - 5 - m)) := by
  have e := i_N (A := A ++ [x1, x2, x3, x4, x5]) (a := a) (b := b) (k := 7) (m := m) (lo := lo) (by rw [List.length_append, hk]; rfl) (by omega) hm h1 h2
  rw [List.append_assoc, List.append_assoc] at e
  exact e
theorem i_D_8 {x1 x2 x3 x4 x5 x6 x7 x8 : hy_C} (hk : A.length = 2) (h1 : 2 ≤ a) (h2 : 81 ≤ b) : f_D_init [.ref 10] (A ++ [x1, x2, x3, x4, x5, x6, x7, x8, .inl (0, [.null, .null, .int 0])], a, b) = some (.inl none, (A ++ [x1, x2, x3, x4, x5, x6, x7, x8, oc_D 0, hy_ia 40 hy_z, hy_ia 41 hy_z], a - 1 - 1, b - 40 - 41)) := by
  have e := i_D (A := A ++ [x1, x2, x3, x4, x5, x6, x7, x8]) (a := a) (b := b) (k := 10) (by rw [List.length_append, hk]; rfl) (by omega) h1 h2
  rw [List.append_assoc, List.append_assoc] at e
  exact e
theorem i_G_11 {x1 x2 x3 x4 x5 x6 x7 x8 x9 x10 x11 : hy_C} (hk : A.length = 2) (h1 : 2 ≤ a) (h2 : 805 ≤ b) : f_G_init [.ref 13] (A ++ [x1, x2, x3, x4, x5, x6, x7, x8, x9, x10, x11, .inl (3, [.null, .null, .int 0, .int 0, .int 0])], a, b) = some (.inl none, (A ++ [x1, x2, x3, x4, x5, x6, x7, x8, x9, x10, x11, oc_G 0 0 (nI 0), hy_ia 402 hy_z, hy_ia 403 hy_z], a - 1 - 1, b - 402 - 403)) := by
  have e := i_G (A := A ++ [x1, x2, x3, x4, x5, x6, x7, x8, x9, x10, x11]) (a := a) (b := b) (k := 13) (by rw [List.length_append, hk]; rfl) (by omega) h1 h2
  rw [List.append_assoc, List.append_assoc] at e
  exact e
theorem na_2 {l : List hy_C} (h1 : 1 ≤ a) (h2 : 4 ≤ b) : hy_na (l, a, b) 2 (nI 4) = some (l ++ [.inr (2, [.null, .null, .null, .null])], a - 1, b - 4) := by
  unfold hy_na
  rw [nI_clamp (by omega), if_pos ⟨nI_pos' (by omega), by omega⟩]
  exact nw_l h1 h2
theorem i_H0 (hk : A.length = 2) (h1 : 13 ≤ a) (h2 : 1500 ≤ b) : hy_fx nx_H_init (0, [.ref 2], (A ++ [.inl (5, [.null, .null, .null, .null, .null, .int 0])], a, b)) = hy_fx nx_H_init (71, [.ref 2, .int (nI 0)], (A ++ [oc_H 0, .inr (2, [.null, .null, .null, .null]), oc_N 6 5 (-nI 10) 0, hy_ia 5 hy_z, hy_ia 40 hy_z, oc_N 9 8 (nI 1) 0, hy_ia 5 hy_z, hy_ia 400 hy_z, oc_D 0, hy_ia 40 hy_z, hy_ia 41 hy_z, oc_G 0 0 (nI 0), hy_ia 402 hy_z, hy_ia 403 hy_z], a - 1 - 1 - 1 - 1 - 1 - 1 - 1 - 1 - 1 - 1 - 1 - 1 - 1, b - 4 - 4 - 5 - 40 - 4 - 5 - 400 - 3 - 40 - 41 - 5 - 402 - 403)) := by
  rw [ev_H_init_0]
  unfold sg_H_init_0
  simp (disch := omega) only [na_l, nw_l, pf_l, Option.bind_some, hy_bv_s, hy_k_l, hy_k_r, List.append_assoc, List.cons_append, List.nil_append, List.length_append, List.length_cons, List.length_nil, Nat.zero_add, Nat.add_assoc, Nat.reduceAdd, Nat.reduceLT, ↓reduceIte, List.set_cons_succ, List.set_cons_zero, hk, li_4, li_40, li_400, li_10, li_1, na_2, i_N_2 hk, i_N_5 hk, i_D_8 hk, i_G_11 hk]
  rfl
end IN2
