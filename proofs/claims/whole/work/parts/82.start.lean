/-! THE START: both sides are made -/
def hy_z : Nat → Int32 := fun _ => nI 0
theorem nw_l {l : List hy_C} {a b n : Nat} {c : hy_C} (h1 : 1 ≤ a) (h2 : n ≤ b) : hy_nw (l, a, b) c n = some (l ++ [c], a - 1, b - n) := if_pos ⟨h1, h2⟩
theorem na_l {l : List hy_C} {a b m : Nat} (h1 : 1 ≤ a) (h2 : m ≤ b) (hm : m ≤ 65536) : hy_na (l, a, b) 0 (nI m) = some (l ++ [hy_ia m hy_z], a - 1, b - m) := by
  unfold hy_na
  rw [nI_clamp (by omega), if_pos ⟨nI_pos' (by omega), hm⟩, na_0]
  exact nw_l h1 h2
theorem ls_mid {α : Type} {x : α} {t : List α} : ∀ {A : List α}, (A ++ x :: t)[A.length]? = some x
  | [] => rfl
  | _ :: _ => by rw [List.cons_append, List.length_cons, List.getElem?_cons_succ]; exact ls_mid
theorem pf_l {A t : List hy_C} {a b ci j k : Nat} {fs : List Value} {v : Value} (hk : A.length = k) (hA : 1 < k) : hy_pf (A ++ .inl (ci, fs) :: t, a, b) k ci j v = if j < fs.length then some (A ++ .inl (ci, fs.set j v) :: t, a, b) else none := by
  subst hk
  rw [e_pf]
  show Option.map _ (hc_pf (A ++ _ :: t)[A.length]? _ _ _ _) = _
  rw [ls_mid, hc_pf_o hA]
  split
  · show some (hy_wr _ _ _) = _
    unfold hy_wr
    rw [set_mid]
  · rfl
section INS
variable {A : List hy_C} {a b k : Nat}
theorem i_N {m : Nat} {lo : Int32} (hk : A.length = k) (hA : 1 < k) (hm : m ≤ 400) (h1 : 2 ≤ a) (h2 : m + 5 ≤ b) : f_N_init [.ref k, .int (nI m), .int lo] (A ++ [.inl (2, [.null, .int 0, .null, .int 0])], a, b) = some (.inl none, (A ++ [oc_N (k + 2) (k + 1) lo 0, hy_ia 5 hy_z, hy_ia m hy_z], a - 1 - 1, b - 5 - m)) := by
  rw [f_N_init, ev_N_init_0]
  unfold sg_N_init_0
  simp (disch := omega) only [na_l, nw_l, pf_l, Option.bind_some, hy_bv_s, hy_k_l, hy_k_r, List.append_assoc, List.cons_append, List.nil_append, List.length_append, List.length_cons, List.length_nil, Nat.zero_add, Nat.add_assoc, Nat.reduceAdd, Nat.reduceLT, ↓reduceIte, List.set_cons_succ, List.set_cons_zero, hk, li_5]
  rfl
theorem i_D (hk : A.length = k) (hA : 1 < k) (h1 : 2 ≤ a) (h2 : 81 ≤ b) : f_D_init [.ref k] (A ++ [.inl (0, [.null, .null, .int 0])], a, b) = some (.inl none, (A ++ [.inl (0, [.ref (k + 1), .ref (k + 2), .int (nI 0)]), hy_ia 40 hy_z, hy_ia 41 hy_z], a - 1 - 1, b - 40 - 41)) := by
  rw [f_D_init, ev_D_init_0]
  unfold sg_D_init_0
  simp (disch := omega) only [na_l, nw_l, pf_l, Option.bind_some, hy_bv_s, hy_k_l, hy_k_r, List.append_assoc, List.cons_append, List.nil_append, List.length_append, List.length_cons, List.length_nil, Nat.zero_add, Nat.add_assoc, Nat.reduceAdd, Nat.reduceLT, ↓reduceIte, List.set_cons_succ, List.set_cons_zero, hk, li_40, li_41]
  rfl
theorem li_402 : (402 : Int32) = nI 402 := rfl
theorem li_403 : (403 : Int32) = nI 403 := rfl
theorem i_G (hk : A.length = k) (hA : 1 < k) (h1 : 2 ≤ a) (h2 : 805 ≤ b) : f_G_init [.ref k] (A ++ [.inl (3, [.null, .null, .int 0, .int 0, .int 0])], a, b) = some (.inl none, (A ++ [.inl (3, [.ref (k + 1), .ref (k + 2), .int (nI 0), .int (nI 0), .int (nI 0)]), hy_ia 402 hy_z, hy_ia 403 hy_z], a - 1 - 1, b - 402 - 403)) := by
  rw [f_G_init, ev_G_init_0]
  unfold sg_G_init_0
  simp (disch := omega) only [na_l, nw_l, pf_l, Option.bind_some, hy_bv_s, hy_k_l, hy_k_r, List.append_assoc, List.cons_append, List.nil_append, List.length_append, List.length_cons, List.length_nil, Nat.zero_add, Nat.add_assoc, Nat.reduceAdd, Nat.reduceLT, ↓reduceIte, List.set_cons_succ, List.set_cons_zero, hk, li_402, li_403]
  rfl
theorem i_A (hk : A.length = k) (hA : 1 < k) : f_A_init [.ref k] (A ++ [.inl (7, [.null, .int 0, .int 0])], a, b) = some (.inl none, (A ++ [oc_A 0 0 (nI 0)], a, b)) := by
  have e1 : f_J_AC_init [.ref k] (A ++ [.inl (7, [.null, .int 0, .int 0])], a, b) = some (.inl none, (A ++ [.inl (7, [.null, .int 0, .int 0])], a, b)) := by
    rw [f_J_AC_init, ev_J_AC_init_0, sg_J_AC_init_0, hy_k_r]
  have e2 : f_J_AL_init [.ref k] (A ++ [.inl (7, [.null, .int 0, .int 0])], a, b) = some (.inl none, (A ++ [.inl (7, [.null, .int 0, .int 0])], a, b)) := by
    rw [f_J_AL_init, ev_J_AL_init_0]
    unfold sg_J_AL_init_0
    rw [e1]
    simp (disch := omega) only [na_l, nw_l, pf_l, Option.bind_some, hy_bv_s, hy_k_l, hy_k_r, List.append_assoc, List.cons_append, List.nil_append, List.length_append, List.length_cons, List.length_nil, Nat.zero_add, Nat.add_assoc, Nat.reduceAdd, Nat.reduceLT, ↓reduceIte, List.set_cons_succ, List.set_cons_zero, hk]
  rw [f_A_init, ev_A_init_0]
  unfold sg_A_init_0
  rw [e2]
  simp (disch := omega) only [na_l, nw_l, pf_l, Option.bind_some, hy_bv_s, hy_k_l, hy_k_r, List.append_assoc, List.cons_append, List.nil_append, List.length_append, List.length_cons, List.length_nil, Nat.zero_add, Nat.add_assoc, Nat.reduceAdd, Nat.reduceLT, ↓reduceIte, List.set_cons_succ, List.set_cons_zero, hk]
  rfl
end INS
