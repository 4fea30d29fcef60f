/-! THE START: the reference -/
theorem na_s {l : List hy_C} {a b i p s : Nat} (h1 : i + 1 ≤ a) (h2 : s + p ≤ b) (hs : s ≤ 65536) : hy_na (l, a - i, b - p) 0 (nI s) = some (l ++ [hy_ia s hy_z], a - (i + 1), b - (p + s)) := by
  rw [na_l (by omega) (Nat.le_sub_of_add_le h2) hs, Nat.sub_sub, Nat.sub_sub]
theorem li_80 : (80 : Int32) = nI 80 := rfl
theorem li_4800 : (4800 : Int32) = nI 4800 := rfl
theorem li_5100 : (5100 : Int32) = nI 5100 := rfl
theorem li_1600 : (1600 : Int32) = nI 1600 := rfl
theorem li_1640 : (1640 : Int32) = nI 1640 := rfl
theorem st_M {A t : List hy_C} {fs : List Value} {a b a' b' k j s : Nat} {x : hy_C} {G : hy_W → Option hy_N} (hk : A.length = k) (hA : 1 < k) (q : ∀ l : List hy_C, hy_na (l, a, b) 0 (nI s) = some (l ++ [x], a', b')) (hj : j < fs.length) : ((hy_na (A ++ .inl (6, fs) :: t, a, b) 0 (nI s)).bind fun w1 => (hy_pf w1 k 6 j (.ref (A ++ (.inl (6, fs) : hy_C) :: t).length)).bind G) = G (A ++ .inl (6, fs.set j (.ref (k + (t.length + 1)))) :: (t ++ [x]), a', b') := by
  rw [q, Option.bind_some, List.append_assoc, List.cons_append, pf_l hk hA, if_pos hj, Option.bind_some, List.length_append, List.length_cons, hk]
theorem i_M0 {A : List hy_C} {a0 b0 a1 b1 a2 b2 a3 b3 a4 b4 a5 b5 a6 b6 a7 b7 a8 b8 a9 b9 a10 b10 a11 b11 a12 b12 a13 b13 a14 b14 a15 b15 a16 b16 a17 b17 a18 b18 a19 b19 : Nat} {x0 x1 x2 x3 x4 x5 x6 x7 x8 x9 x10 x11 x12 x13 x14 x15 x16 x17 x18 : hy_C} (hk : A.length = 40) (h1 : 1 < 40) (q0 : ∀ l : List hy_C, hy_na (l, a0, b0) 0 (nI 4) = some (l ++ [x0], a1, b1)) (q1 : ∀ l : List hy_C, hy_na (l, a1, b1) 0 (nI 80) = some (l ++ [x1], a2, b2)) (q2 : ∀ l : List hy_C, hy_na (l, a2, b2) 0 (nI 80) = some (l ++ [x2], a3, b3)) (q3 : ∀ l : List hy_C, hy_na (l, a3, b3) 0 (nI 80) = some (l ++ [x3], a4, b4)) (q4 : ∀ l : List hy_C, hy_na (l, a4, b4) 0 (nI 4) = some (l ++ [x4], a5, b5)) (q5 : ∀ l : List hy_C, hy_na (l, a5, b5) 0 (nI 4) = some (l ++ [x5], a6, b6)) (q6 : ∀ l : List hy_C, hy_na (l, a6, b6) 0 (nI 40) = some (l ++ [x6], a7, b7)) (q7 : ∀ l : List hy_C, hy_na (l, a7, b7) 0 (nI 5) = some (l ++ [x7], a8, b8)) (q8 : ∀ l : List hy_C, hy_na (l, a8, b8) 0 (nI 40) = some (l ++ [x8], a9, b9)) (q9 : ∀ l : List hy_C, hy_na (l, a9, b9) 0 (nI 41) = some (l ++ [x9], a10, b10)) (q10 : ∀ l : List hy_C, hy_na (l, a10, b10) 0 (nI 300) = some (l ++ [x10], a11, b11)) (q11 : ∀ l : List hy_C, hy_na (l, a11, b11) 0 (nI 300) = some (l ++ [x11], a12, b12)) (q12 : ∀ l : List hy_C, hy_na (l, a12, b12) 0 (nI 4800) = some (l ++ [x12], a13, b13)) (q13 : ∀ l : List hy_C, hy_na (l, a13, b13) 0 (nI 5100) = some (l ++ [x13], a14, b14)) (q14 : ∀ l : List hy_C, hy_na (l, a14, b14) 0 (nI 40) = some (l ++ [x14], a15, b15)) (q15 : ∀ l : List hy_C, hy_na (l, a15, b15) 0 (nI 40) = some (l ++ [x15], a16, b16)) (q16 : ∀ l : List hy_C, hy_na (l, a16, b16) 0 (nI 1600) = some (l ++ [x16], a17, b17)) (q17 : ∀ l : List hy_C, hy_na (l, a17, b17) 0 (nI 1640) = some (l ++ [x17], a18, b18)) (q18 : ∀ l : List hy_C, hy_na (l, a18, b18) 0 (nI 400) = some (l ++ [x18], a19, b19)) : hy_fx nx_M_init (0, [.ref 40], (A ++ [.inl (6, [.int 0, .int 0, .null, .null, .null, .null, .null, .null, .int 0, .null, .null, .int 0, .null, .null, .int 0, .null, .null, .null, .null, .int 0, .null, .null, .null, .null, .int 0, .null])], a0, b0)) = hy_fx nx_M_init (161, [.ref 40, .int (nI 0)], (A ++ [oc_M (nI 0) 0 0 0 0 0 0, x0, x1, x2, x3, x4, x5, x6, x7, x8, x9, x10, x11, x12, x13, x14, x15, x16, x17, x18], a19, b19)) := by
  rw [ev_M_init_0]
  unfold sg_M_init_0
  simp only [li_4, li_5, li_40, li_41, li_80, li_300, li_400, li_1600, li_1640, li_4800, li_5100]
  rw [st_M hk h1 q0]
  rotate_left
  · simp only [List.length_cons, List.length_nil, Nat.zero_add, Nat.reduceAdd, Nat.reduceLT]
  simp only [List.set_cons_succ, List.set_cons_zero, List.cons_append, List.nil_append, List.length_cons, List.length_nil, Nat.zero_add, Nat.reduceAdd]
  rw [st_M hk h1 q1]
  rotate_left
  · simp only [List.length_cons, List.length_nil, Nat.zero_add, Nat.reduceAdd, Nat.reduceLT]
  simp only [List.set_cons_succ, List.set_cons_zero, List.cons_append, List.nil_append, List.length_cons, List.length_nil, Nat.zero_add, Nat.reduceAdd]
  rw [st_M hk h1 q2]
  rotate_left
  · simp only [List.length_cons, List.length_nil, Nat.zero_add, Nat.reduceAdd, Nat.reduceLT]
  simp only [List.set_cons_succ, List.set_cons_zero, List.cons_append, List.nil_append, List.length_cons, List.length_nil, Nat.zero_add, Nat.reduceAdd]
  rw [st_M hk h1 q3]
  rotate_left
  · simp only [List.length_cons, List.length_nil, Nat.zero_add, Nat.reduceAdd, Nat.reduceLT]
  simp only [List.set_cons_succ, List.set_cons_zero, List.cons_append, List.nil_append, List.length_cons, List.length_nil, Nat.zero_add, Nat.reduceAdd]
  rw [st_M hk h1 q4]
  rotate_left
  · simp only [List.length_cons, List.length_nil, Nat.zero_add, Nat.reduceAdd, Nat.reduceLT]
  simp only [List.set_cons_succ, List.set_cons_zero, List.cons_append, List.nil_append, List.length_cons, List.length_nil, Nat.zero_add, Nat.reduceAdd]
  rw [st_M hk h1 q5]
  rotate_left
  · simp only [List.length_cons, List.length_nil, Nat.zero_add, Nat.reduceAdd, Nat.reduceLT]
  simp only [List.set_cons_succ, List.set_cons_zero, List.cons_append, List.nil_append, List.length_cons, List.length_nil, Nat.zero_add, Nat.reduceAdd]
  rw [st_M hk h1 q6]
  rotate_left
  · simp only [List.length_cons, List.length_nil, Nat.zero_add, Nat.reduceAdd, Nat.reduceLT]
  simp only [List.set_cons_succ, List.set_cons_zero, List.cons_append, List.nil_append, List.length_cons, List.length_nil, Nat.zero_add, Nat.reduceAdd]
  rw [st_M hk h1 q7]
  rotate_left
  · simp only [List.length_cons, List.length_nil, Nat.zero_add, Nat.reduceAdd, Nat.reduceLT]
  simp only [List.set_cons_succ, List.set_cons_zero, List.cons_append, List.nil_append, List.length_cons, List.length_nil, Nat.zero_add, Nat.reduceAdd]
  rw [st_M hk h1 q8]
  rotate_left
  · simp only [List.length_cons, List.length_nil, Nat.zero_add, Nat.reduceAdd, Nat.reduceLT]
  simp only [List.set_cons_succ, List.set_cons_zero, List.cons_append, List.nil_append, List.length_cons, List.length_nil, Nat.zero_add, Nat.reduceAdd]
  rw [st_M hk h1 q9]
  rotate_left
  · simp only [List.length_cons, List.length_nil, Nat.zero_add, Nat.reduceAdd, Nat.reduceLT]
  simp only [List.set_cons_succ, List.set_cons_zero, List.cons_append, List.nil_append, List.length_cons, List.length_nil, Nat.zero_add, Nat.reduceAdd]
  rw [st_M hk h1 q10]
  rotate_left
  · simp only [List.length_cons, List.length_nil, Nat.zero_add, Nat.reduceAdd, Nat.reduceLT]
  simp only [List.set_cons_succ, List.set_cons_zero, List.cons_append, List.nil_append, List.length_cons, List.length_nil, Nat.zero_add, Nat.reduceAdd]
  rw [st_M hk h1 q11]
  rotate_left
  · simp only [List.length_cons, List.length_nil, Nat.zero_add, Nat.reduceAdd, Nat.reduceLT]
  simp only [List.set_cons_succ, List.set_cons_zero, List.cons_append, List.nil_append, List.length_cons, List.length_nil, Nat.zero_add, Nat.reduceAdd]
  rw [st_M hk h1 q12]
  rotate_left
  · simp only [List.length_cons, List.length_nil, Nat.zero_add, Nat.reduceAdd, Nat.reduceLT]
  simp only [List.set_cons_succ, List.set_cons_zero, List.cons_append, List.nil_append, List.length_cons, List.length_nil, Nat.zero_add, Nat.reduceAdd]
  rw [st_M hk h1 q13]
  rotate_left
  · simp only [List.length_cons, List.length_nil, Nat.zero_add, Nat.reduceAdd, Nat.reduceLT]
  simp only [List.set_cons_succ, List.set_cons_zero, List.cons_append, List.nil_append, List.length_cons, List.length_nil, Nat.zero_add, Nat.reduceAdd]
  rw [st_M hk h1 q14]
  rotate_left
  · simp only [List.length_cons, List.length_nil, Nat.zero_add, Nat.reduceAdd, Nat.reduceLT]
  simp only [List.set_cons_succ, List.set_cons_zero, List.cons_append, List.nil_append, List.length_cons, List.length_nil, Nat.zero_add, Nat.reduceAdd]
  rw [st_M hk h1 q15]
  rotate_left
  · simp only [List.length_cons, List.length_nil, Nat.zero_add, Nat.reduceAdd, Nat.reduceLT]
  simp only [List.set_cons_succ, List.set_cons_zero, List.cons_append, List.nil_append, List.length_cons, List.length_nil, Nat.zero_add, Nat.reduceAdd]
  rw [st_M hk h1 q16]
  rotate_left
  · simp only [List.length_cons, List.length_nil, Nat.zero_add, Nat.reduceAdd, Nat.reduceLT]
  simp only [List.set_cons_succ, List.set_cons_zero, List.cons_append, List.nil_append, List.length_cons, List.length_nil, Nat.zero_add, Nat.reduceAdd]
  rw [st_M hk h1 q17]
  rotate_left
  · simp only [List.length_cons, List.length_nil, Nat.zero_add, Nat.reduceAdd, Nat.reduceLT]
  simp only [List.set_cons_succ, List.set_cons_zero, List.cons_append, List.nil_append, List.length_cons, List.length_nil, Nat.zero_add, Nat.reduceAdd]
  rw [st_M hk h1 q18]
  rotate_left
  · simp only [List.length_cons, List.length_nil, Nat.zero_add, Nat.reduceAdd, Nat.reduceLT]
  simp only [List.set_cons_succ, List.set_cons_zero, List.cons_append, List.nil_append, List.length_cons, List.length_nil, Nat.zero_add, Nat.reduceAdd]
  rw [hy_k_l]
  rfl
