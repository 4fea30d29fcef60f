/-! THE START: the class and the reference stand -/
theorem it_H {c0 c1 : hy_C} {X : List hy_C} {fs es : List Value} {a b j : Nat} (hj : j < 4) (hX : X.length = 12 + 6 * j) (he : es.length = 4) (h1 : 6 ≤ a) (h2 : 74 ≤ b) : hy_fx nx_H_init (71, [.ref 2, .int (nI j)], (c0 :: c1 :: .inl (5, .ref 3 :: fs) :: .inr (2, es) :: X, a, b)) = hy_fx nx_H_init (71, [.ref 2, .int (nI (j + 1))], (c0 :: c1 :: .inl (5, .ref 3 :: fs) :: .inr (2, es.set j (.ref (16 + 6 * j))) :: (X ++ [.inl (1, [.ref (16 + 6 * j + 1), .ref (16 + 6 * j + 2), .ref (16 + 6 * j + 3), .ref (16 + 6 * j + 4), .ref (16 + 6 * j + 5), .int (nI 0), .int (nI 2), .int (nI 3)]), hy_ia 20 hy_z, hy_ia 20 hy_z, hy_ia 20 hy_z, oc_A 0 0 (nI 0), oc_A 0 0 (nI 0)]), a - 6, b - 74)) := by
  have hlen : (c0 :: c1 :: .inl (5, .ref 3 :: fs) :: .inr (2, es) :: X : List hy_C).length = 16 + 6 * j := by
    rw [List.length_cons, List.length_cons, List.length_cons, List.length_cons, hX]; omega
  have eL := i_L (A := c0 :: c1 :: .inl (5, .ref 3 :: fs) :: .inr (2, es) :: X) (a := a - 1) (b := b - 8) (k := 16 + 6 * j) hlen (by omega) (by omega) (by omega)
  have g : hy_gr (c0 :: c1 :: .inl (5, .ref 3 :: fs) :: .inr (2, es) :: X, a, b) 2 5 0 = some 3 := rfl
  have ob : ∀ (t : List hy_C) (fs' : List Value) (a' b' : Nat), hy_ob ((c0 :: c1 :: .inl (5, .ref 3 :: fs) :: .inr (2, es) :: X) ++ .inl (1, fs') :: t, a', b') (16 + 6 * j) 1 = true := by
    intro t fs' a' b'
    rw [e_ob]
    show hc_ob ((c0 :: c1 :: .inl (5, .ref 3 :: fs) :: .inr (2, es) :: X) ++ .inl (1, fs') :: t)[16 + 6 * j]? _ _ = true
    rw [← hlen, ls_mid]
    exact hc_ob_o (by rw [hlen]; omega)
  have pa : ∀ (t : List hy_C) (v : Value) (a' b' : Nat), hy_pa ((c0 :: c1 :: .inl (5, .ref 3 :: fs) :: .inr (2, es) :: X) ++ t, a', b') 2 3 (nI j) v = some (c0 :: c1 :: .inl (5, .ref 3 :: fs) :: .inr (2, es.set j v) :: (X ++ t), a', b') := by
    intro t v a' b'
    rw [e_pa]
    show Option.map _ (hc_pa (some (.inr (2, es))) 2 3 (nI j) v) = _
    unfold hc_pa
    dsimp only
    rw [if_pos ⟨rfl, by rw [he]; exact hy_ix_n hj (by omega), by omega⟩, nI_clamp (by omega)]
    rfl
  rw [ev_H_init_71]
  unfold sg_H_init_71
  rw [li_4, if_neg (by rw [nI_leI (by omega) (by omega)]; omega), g, Option.bind_some, nw_l (by omega) (by omega), Option.bind_some, hlen, eL, hy_bv_s, if_pos (ob _ _ _ _), pa, Option.bind_some, hy_k_l, li_1, nI_add]
  rw [show a - 1 - 1 - 1 - 1 - 1 - 1 = a - 6 by omega, show b - 8 - 20 - 20 - 20 - 3 - 3 = b - 74 by omega]
def hy_lb (k : Nat) : List hy_C := [oc_L k 0 (nI 2) (nI 3), hy_ia 20 hy_z, hy_ia 20 hy_z, hy_ia 20 hy_z, oc_A 0 0 (nI 0), oc_A 0 0 (nI 0)]
/-- the class's cells at first -/
def hy_h0 : List hy_C := [.inr (3, []), .inl (99, []), oc_H 0, oc_a, oc_N 6 5 (-nI 10) 0, hy_ia 5 hy_z, hy_ia 40 hy_z, oc_N 9 8 (nI 1) 0, hy_ia 5 hy_z, hy_ia 400 hy_z, oc_D 0, hy_ia 40 hy_z, hy_ia 41 hy_z, oc_G 0 0 (nI 0), hy_ia 402 hy_z, hy_ia 403 hy_z, oc_L 0 0 (nI 2) (nI 3), hy_ia 20 hy_z, hy_ia 20 hy_z, hy_ia 20 hy_z, oc_A 0 0 (nI 0), oc_A 0 0 (nI 0), oc_L 1 0 (nI 2) (nI 3), hy_ia 20 hy_z, hy_ia 20 hy_z, hy_ia 20 hy_z, oc_A 0 0 (nI 0), oc_A 0 0 (nI 0), oc_L 2 0 (nI 2) (nI 3), hy_ia 20 hy_z, hy_ia 20 hy_z, hy_ia 20 hy_z, oc_A 0 0 (nI 0), oc_A 0 0 (nI 0), oc_L 3 0 (nI 2) (nI 3), hy_ia 20 hy_z, hy_ia 20 hy_z, hy_ia 20 hy_z, oc_A 0 0 (nI 0), oc_A 0 0 (nI 0)]
theorem i_H {a b : Nat} (h1 : 100 ≤ a) (h2 : 2000 ≤ b) : ∃ a' b', f_H_init [.ref 2] ([.inr (3, []), .inl (99, []), .inl (5, [.null, .null, .null, .null, .null, .int 0])], a, b) = some (.inl none, (hy_h0, a', b')) ∧ a ≤ a' + 37 ∧ b ≤ b' + 2000 := by
  have e0 := i_H0 (A := [.inr (3, []), .inl (99, [])]) (a := a) (b := b) rfl (by omega) (by omega)
  have g1 : 50 ≤ a - 1 - 1 - 1 - 1 - 1 - 1 - 1 - 1 - 1 - 1 - 1 - 1 - 1 ∧ a ≤ a - 1 - 1 - 1 - 1 - 1 - 1 - 1 - 1 - 1 - 1 - 1 - 1 - 1 + 13 := by omega
  have g2 : 500 ≤ b - 4 - 4 - 5 - 40 - 4 - 5 - 400 - 3 - 40 - 41 - 5 - 402 - 403 ∧ b ≤ b - 4 - 4 - 5 - 40 - 4 - 5 - 400 - 3 - 40 - 41 - 5 - 402 - 403 + 1500 := by omega
  generalize a - 1 - 1 - 1 - 1 - 1 - 1 - 1 - 1 - 1 - 1 - 1 - 1 - 1 = a0 at e0 g1
  generalize b - 4 - 4 - 5 - 40 - 4 - 5 - 400 - 3 - 40 - 41 - 5 - 402 - 403 = b0 at e0 g2
  refine ⟨a0 - 6 - 6 - 6 - 6, b0 - 74 - 74 - 74 - 74, ?_, by omega, by omega⟩
  rw [f_H_init]
  refine e0.trans ?_
  refine (it_H (j := 0) (by omega) rfl rfl (by omega) (by omega)).trans ?_
  refine (it_H (j := 1) (by omega) rfl rfl (by omega) (by omega)).trans ?_
  refine (it_H (j := 2) (by omega) rfl rfl (by omega) (by omega)).trans ?_
  refine (it_H (j := 3) (by omega) rfl rfl (by omega) (by omega)).trans ?_
  rw [ev_H_init_71]
  unfold sg_H_init_71
  rw [li_4, if_pos (by rw [nI_leI (by omega) (by omega)]; omega), hy_k_r]
  rfl
