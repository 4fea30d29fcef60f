/-! ENTRIES replaced, appended, forgotten: what each language has -/
theorem of_app {l : Nat} {A B : List (Nat × hy_U)} : hy_of l (A ++ B) = hy_of l A ++ hy_of l B := by
  unfold hy_of
  rw [List.filter_append, List.map_append]
theorem of_ft_s {l : Nat} : ∀ {M : List (Nat × hy_U)}, hy_of l (hy_ft l M) = []
  | [] => rfl
  | e :: t => by
    by_cases h : e.1 = l
    · rw [ft_t h]; exact of_ft_s
    · rw [ft_f h, of_f h]; exact of_ft_s
theorem of_ft_n {k l : Nat} (hk : k ≠ l) : ∀ {M : List (Nat × hy_U)}, hy_of k (hy_ft l M) = hy_of k M
  | [] => rfl
  | e :: t => by
    by_cases h : e.1 = l
    · rw [ft_t h, of_f (by omega)]; exact of_ft_n hk
    · rw [ft_f h]
      by_cases h2 : e.1 = k
      · rw [of_t h2, of_t h2, of_ft_n hk]
      · rw [of_f h2, of_f h2, of_ft_n hk]
theorem of_ft_len {l : Nat} : ∀ {M : List (Nat × hy_U)}, (hy_of l M).length + (hy_ft l M).length = M.length
  | [] => rfl
  | e :: t => by
    have ih := of_ft_len (l := l) (M := t)
    by_cases h : e.1 = l
    · rw [ft_t h, of_t h, List.length_cons, List.length_cons]; omega
    · rw [ft_f h, of_f h, List.length_cons, List.length_cons]; omega
theorem of_sum : ∀ {M : List (Nat × hy_U)}, (∀ e ∈ M, e.1 < 4) → (hy_of 0 M).length + (hy_of 1 M).length + (hy_of 2 M).length + (hy_of 3 M).length = M.length
  | [], _ => rfl
  | e :: t, h => by
    have ih := of_sum (M := t) fun x hx => h x (List.mem_cons_of_mem _ hx)
    have h4 := h e List.mem_cons_self
    rw [List.length_cons]
    by_cases h0 : e.1 = 0
    · rw [of_t h0, of_f (l := 1) (by omega), of_f (l := 2) (by omega), of_f (l := 3) (by omega), List.length_cons]; omega
    · by_cases h1 : e.1 = 1
      · rw [of_t h1, of_f (l := 0) (by omega), of_f (l := 2) (by omega), of_f (l := 3) (by omega), List.length_cons]; omega
      · by_cases h2 : e.1 = 2
        · rw [of_t h2, of_f (l := 0) (by omega), of_f (l := 1) (by omega), of_f (l := 3) (by omega), List.length_cons]; omega
        · rw [of_t (l := 3) (by omega), of_f (l := 0) (by omega), of_f (l := 1) (by omega), of_f (l := 2) (by omega), List.length_cons]; omega
theorem of_len {l : Nat} {M : List (Nat × hy_U)} : (hy_of l M).length ≤ M.length := by
  have := of_ft_len (l := l) (M := M)
  omega
theorem ft_mem {l : Nat} {M : List (Nat × hy_U)} {e : Nat × hy_U} (h : e ∈ hy_ft l M) : e ∈ M := (List.mem_filter.mp h).1
theorem un_pw {M : List (Nat × hy_U)} : hy_un M ↔ M.Pairwise fun a b => ¬ (a.1 = b.1 ∧ a.2.1 = b.2.1) := by
  rw [List.pairwise_iff_getElem]
  constructor
  · intro h i j hi hj hij ⟨e1, e2⟩
    have := h i j _ _ (List.getElem?_eq_getElem hi) (List.getElem?_eq_getElem hj) e1 e2
    omega
  · intro h i j a b ha hb e1 e2
    obtain ⟨hi, rfl⟩ := List.getElem?_eq_some_iff.mp ha
    obtain ⟨hj, rfl⟩ := List.getElem?_eq_some_iff.mp hb
    rcases Nat.lt_trichotomy i j with c | c | c
    · exact absurd ⟨e1, e2⟩ (h i j hi hj c)
    · exact c
    · exact absurd ⟨e1.symm, e2.symm⟩ (h j i hj hi c)
theorem un_ft {l : Nat} {M : List (Nat × hy_U)} (h : hy_un M) : hy_un (hy_ft l M) := un_pw.mpr ((un_pw.mp h).filter _)
theorem ok_ft {sl l : Nat} {M : List (Nat × hy_U)} (h : hy_ok sl M) : hy_ok sl (hy_ft l M) := fun e he => h e (ft_mem he)
theorem ok_app {sl : Nat} {M : List (Nat × hy_U)} {x : Nat × hy_U} (h : hy_ok sl M) (hx : hy_ok sl [x]) : hy_ok sl (M ++ [x]) := fun e he => by
  rcases List.mem_append.mp he with h1 | h1
  · exact h e h1
  · exact hx e h1
theorem ok_set {sl p : Nat} {M : List (Nat × hy_U)} {x : Nat × hy_U} (h : hy_ok sl M) (hx : hy_ok sl [x]) : hy_ok sl (M.set p x) := fun e he => by
  rcases List.mem_or_eq_of_mem_set he with h1 | h1
  · exact h e h1
  · exact hx e (by rw [h1]; exact List.mem_singleton_self _)
theorem set_at {M : List (Nat × hy_U)} {p : Nat} {y : Nat × hy_U} (i : Nat) (x : Nat × hy_U) (h : (M.set p y)[i]? = some x) : i = p ∧ x = y ∨ i ≠ p ∧ M[i]? = some x := by
  rw [List.getElem?_set] at h
  by_cases e : p = i
  · rw [if_pos e] at h
    split at h
    · cases h; exact Or.inl ⟨e.symm, rfl⟩
    · cases h
  · rw [if_neg e] at h
    exact Or.inr ⟨fun z => e z.symm, h⟩
theorem app_at {M : List (Nat × hy_U)} {y : Nat × hy_U} (i : Nat) (x : Nat × hy_U) (h : (M ++ [y])[i]? = some x) : i = M.length ∧ x = y ∨ i ≠ M.length ∧ M[i]? = some x := by
  rcases Nat.lt_trichotomy i M.length with hi | hi | hi
  · rw [List.getElem?_append_left hi] at h
    exact Or.inr ⟨by omega, h⟩
  · subst hi
    rw [List.getElem?_append_right (by omega), Nat.sub_self] at h
    cases h
    exact Or.inl ⟨rfl, rfl⟩
  · rw [List.getElem?_eq_none (by rw [List.length_append]; simp only [List.length_singleton]; omega)] at h
    cases h
theorem un_set {M : List (Nat × hy_U)} {p : Nat} {x y : Nat × hy_U} (h : hy_un M) (hp : M[p]? = some x) (e1 : y.1 = x.1) (e2 : y.2.1 = x.2.1) : hy_un (M.set p y) := by
  intro i j a b ha hb q1 q2
  rcases set_at i a ha with ⟨rfl, rfl⟩ | ⟨hi, ha'⟩
  · rcases set_at j b hb with ⟨rfl, rfl⟩ | ⟨hj, hb'⟩
    · rfl
    · exact h i j x b hp hb' (e1.symm.trans q1) (e2.symm.trans q2)
  · rcases set_at j b hb with ⟨rfl, rfl⟩ | ⟨hj, hb'⟩
    · exact h i j a x ha' hp (q1.trans e1) (q2.trans e2)
    · exact h i j a b ha' hb' q1 q2
theorem un_app {M : List (Nat × hy_U)} {y : Nat × hy_U} (h : hy_un M) (hy : ∀ e ∈ M, ¬ (e.1 = y.1 ∧ e.2.1 = y.2.1)) : hy_un (M ++ [y]) := by
  intro i j a b ha hb q1 q2
  rcases app_at i a ha with ⟨rfl, rfl⟩ | ⟨hi, ha'⟩
  · rcases app_at j b hb with ⟨rfl, rfl⟩ | ⟨hj, hb'⟩
    · rfl
    · exact absurd ⟨q1.symm, q2.symm⟩ (hy b (List.mem_of_getElem? hb'))
  · rcases app_at j b hb with ⟨rfl, rfl⟩ | ⟨hj, hb'⟩
    · exact absurd ⟨q1, q2⟩ (hy a (List.mem_of_getElem? ha'))
    · exact h i j a b ha' hb' q1 q2
theorem fd_app {α : Type} {P : α → Bool} {y : α} {B : List α} (hy : P y = true) : ∀ {A : List α} {i : Nat}, (∀ a ∈ A, P a = false) → hy_fd P (A ++ y :: B) i = some (i + A.length)
  | [], i, _ => by
    rw [List.nil_append, hy_fd, if_pos hy]; rfl
  | a :: t, i, h => by
    rw [List.cons_append, hy_fd, if_neg (by rw [h a List.mem_cons_self]; exact Bool.false_ne_true), fd_app hy fun b hb => h b (List.mem_cons_of_mem _ hb), List.length_cons, show i + 1 + t.length = i + (t.length + 1) by omega]
theorem set_mid {α : Type} {y z : α} {B : List α} : ∀ {A : List α}, (A ++ y :: B).set A.length z = A ++ z :: B
  | [] => rfl
  | a :: t => by rw [List.cons_append, List.length_cons, List.set_cons_succ, set_mid]; rfl
theorem rp_none {l m : Nat} {X : Nat → Int32} {M : List (Nat × hy_U)} (h : hy_fl (hy_ml l X 0 m) M 0 none = none) : hy_fd (hy_sm X 0 m) (hy_of l M) 0 = none := by
  rw [fd_n]
  intro a ha
  have := (fl_n.mp h).2 _ (of_mem.mp ha)
  rw [hy_ml, decide_eq_true rfl, Bool.true_and] at this
  exact this
theorem rp_some {l m p : Nat} {X : Nat → Int32} {M : List (Nat × hy_U)} (hu : hy_un M) (h : hy_fl (hy_ml l X 0 m) M 0 none = some p) : ∃ x i, M[p]? = some x ∧ x.1 = l ∧ hy_sm X 0 m x.2 = true ∧ p < M.length ∧ hy_fd (hy_sm X 0 m) (hy_of l M) 0 = some i ∧ ∀ u : hy_U, hy_of l (M.set p (l, u)) = (hy_of l M).set i u ∧ ∀ k, k ≠ l → hy_of k (M.set p (l, u)) = hy_of k M := by
  rcases fl_s h with h1 | ⟨-, x, h1, h2⟩
  · cases h1
  rw [Nat.sub_zero] at h1
  obtain ⟨hp, ex⟩ := List.getElem?_eq_some_iff.mp h1
  rw [hy_ml, Bool.and_eq_true] at h2
  obtain ⟨h2, h3⟩ := h2
  have h2 := of_decide_eq_true h2
  have eM : M = M.take p ++ x :: M.drop (p + 1) := by
    rw [← ex, ← List.drop_eq_getElem_cons hp, List.take_append_drop]
  have hA : (M.take p).length = p := by rw [List.length_take]; omega
  have hf : ∀ a ∈ hy_of l (M.take p), hy_sm X 0 m a = false := by
    intro a ha
    rw [of_mem] at ha
    cases q : hy_sm X 0 m a
    · rfl
    · exfalso
      obtain ⟨i, hi, e⟩ := List.getElem_of_mem ha
      have hip : i < p := by omega
      have h4 : M[i]? = some (l, a) := by
        rw [← e, List.getElem_take]
        exact List.getElem?_eq_getElem (by omega)
      have := hu i p _ _ h4 h1 h2.symm (sm_eq q h3)
      omega
  have eo : hy_of l M = hy_of l (M.take p) ++ x.2 :: hy_of l (M.drop (p + 1)) := by
    rw [← of_t h2, ← of_app, ← eM]
  refine ⟨x, (hy_of l (M.take p)).length, h1, h2, h3, hp, ?_, fun u => ⟨?_, fun k hk => ?_⟩⟩
  · rw [eo, fd_app h3 hf, Nat.zero_add]
  · have e2 : M.set p (l, u) = M.take p ++ (l, u) :: M.drop (p + 1) := by
      have := set_mid (y := x) (z := (l, u)) (A := M.take p) (B := M.drop (p + 1))
      rw [← eM, hA] at this
      exact this
    rw [e2, of_app, of_t (l := l) (e := (l, u)) rfl, eo, set_mid]
  · have e2 : M.set p (l, u) = M.take p ++ (l, u) :: M.drop (p + 1) := by
      have := set_mid (y := x) (z := (l, u)) (A := M.take p) (B := M.drop (p + 1))
      rw [← eM, hA] at this
      exact this
    rw [e2, of_app, of_f (fun e : l = k => hk e.symm)]
    have e3 : hy_of k M = hy_of k (M.take p ++ x :: M.drop (p + 1)) := by rw [← eM]
    rw [e3, of_app, of_f (by omega)]
theorem sm_self {n : Nat} {X : Nat → Int32} {v : List Int32} : hy_sm X 0 n (hy_tk n X, v) = true := by
  rw [hy_sm, Bool.and_eq_true, al_iff]
  refine ⟨decide_eq_true tk_len, fun j _ hj => decide_eq_true ?_⟩
  have hj : j < n := by
    rw [show ((hy_tk n X, v) : hy_U).1 = hy_tk n X from rfl, tk_len] at hj
    omega
  show X (0 + j) = hy_g (hy_tk n X) j
  rw [tk_g hj, Nat.zero_add]
theorem sm_1 {X : Nat → Int32} {f n : Nat} {a b : hy_U} (h : a.1 = b.1) : hy_sm X f n a = hy_sm X f n b := by
  unfold hy_sm
  rw [h]
/-- a value that is told -/
theorem sv_neg {x : Int32} (h1 : x < nI 0) (h2 : ¬ x < -nI 10) : hy_sv (-x) := by
  have a1 : x.toInt < 0 := by
    have := Int32.lt_iff_toInt_lt.mp h1
    rwa [show (nI 0).toInt = 0 from rfl] at this
  have a2 : -10 ≤ x.toInt := by
    have := Int32.le_iff_toInt_le.mp (Int32.not_lt.mp h2)
    rwa [show (-nI 10).toInt = -10 from by decide +kernel] at this
  have key : ∀ c : Nat, c ≤ 10 → x.toInt = -(c : Int) → hy_sv (-x) := by
    intro c hc e
    refine ⟨c, hc, ?_⟩
    have : x = -nI c := by
      apply Int32.toInt_inj.mp
      rw [e]
      have : ∀ c : Fin 11, (-nI c.1).toInt = -((c.1 : Nat) : Int) := by decide +kernel
      exact (this ⟨c, by omega⟩).symm
    rw [this, Int32.neg_neg]
  exact key (-x.toInt).toNat (by omega) (by omega)
theorem rr_sv {tl : Nat → Int32} : ∀ {i : Nat}, (∀ j, j < i → ¬ tl j < -nI 10) → ∀ k, hy_sv ((hy_rr tl i).2.2.1 k)
  | 0, _, k => sv_0
  | i + 1, h, k => by
    have ih := rr_sv (tl := tl) (i := i) (fun j hj => h j (by omega))
    rw [hy_rr]
    by_cases q : tl i < nI 0
    · rw [r1_n q]
      show hy_sv (hy_up _ _ _ k)
      by_cases e : k = (hy_rr tl i).1
      · subst e; rw [up_eq]; exact sv_neg q (h i (by omega))
      · rw [up_ne e]; exact ih k
    · rw [r1_p q]
      show hy_sv (hy_up _ _ _ k)
      by_cases e : k = (hy_rr tl i).1 + 1
      · subst e; rw [up_eq]; exact sv_0
      · rw [up_ne e]; exact ih k
theorem sv_1 : hy_sv (nI 1) := ⟨1, by omega, rfl⟩
theorem hy_hy_sv {f : Nat → Int32} {k : Nat} : hy_sv (hy_hy f k) := by
  unfold hy_hy
  split
  · exact sv_1
  · exact sv_0
theorem tk_sv {n k : Nat} {f : Nat → Int32} (h : ∀ k, hy_sv (f k)) : hy_sv (hy_g (hy_tk n f) k) := by
  by_cases q : k < n
  · rw [tk_g q]; exact h k
  · rw [tk_out (by omega)]; exact sv_0
/-- what is told, as an entry -/
def hy_eP (tl : Nat → Int32) (td : Nat) : hy_U := (hy_tk (hy_rr tl td).1 (hy_rr tl td).2.1, hy_tk ((hy_rr tl td).1 + 1) (hy_rr tl td).2.2.1)
def hy_eE (tl : Nat → Int32) (td : Nat) : hy_U := (hy_tk (hy_rr tl td).1 (hy_rr tl td).2.1, hy_tk ((hy_rr tl td).1 + 1) (hy_hy (hy_rr tl td).2.2.1))
theorem isP_le {q : hy_T4} (h : hy_isP q = true) : 1 ≤ q.1 ∧ q.1 ≤ 16 := by
  unfold hy_isP at h
  simp only [Bool.and_eq_true, decide_eq_true_eq] at h
  omega
theorem isE_le {q : hy_T4} (h : hy_isE q = true) : 1 ≤ q.1 := by
  unfold hy_isE at h
  simp only [Bool.and_eq_true, decide_eq_true_eq] at h
  omega
theorem ok_eP {tl : Nat → Int32} {l td : Nat} (hl : l < 4) (h : hy_isP (hy_rr tl td) = true) (hv : ∀ j, j < td → ¬ tl j < -nI 10) : hy_ok 16 [(l, hy_eP tl td)] := by
  intro e he
  rw [List.mem_singleton.mp he]
  have := isP_le h
  refine ⟨?_, ?_, ?_, hl, fun k => tk_sv (rr_sv hv)⟩
  · show 1 ≤ (hy_tk _ _).length; rw [tk_len]; omega
  · show (hy_tk _ _).length ≤ 16; rw [tk_len]; omega
  · show (hy_tk _ _).length = (hy_tk _ _).length + 1; rw [tk_len, tk_len]
theorem ok_eE {tl : Nat → Int32} {l td : Nat} (hl : l < 4) (h : hy_isE (hy_rr tl td) = true) (htd : td ≤ 40) : hy_ok 40 [(l, hy_eE tl td)] := by
  intro e he
  rw [List.mem_singleton.mp he]
  have := isE_le h
  have := rr_le (tl := tl) td
  refine ⟨?_, ?_, ?_, hl, fun k => tk_sv fun _ => hy_hy_sv⟩
  · show 1 ≤ (hy_tk _ _).length; rw [tk_len]; omega
  · show (hy_tk _ _).length ≤ 40; rw [tk_len]; omega
  · show (hy_tk _ _).length = (hy_tk _ _).length + 1; rw [tk_len, tk_len]
theorem nw_un {l m : Nat} {X : Nat → Int32} {M : List (Nat × hy_U)} {y : hy_U} (h : hy_fl (hy_ml l X 0 m) M 0 none = none) (hy : hy_sm X 0 m y = true) : ∀ e ∈ M, ¬ (e.1 = l ∧ e.2.1 = y.1) := by
  rintro e he ⟨h1, h2⟩
  have := (fl_n.mp h).2 e he
  rw [hy_ml, decide_eq_true h1, Bool.true_and, sm_1 h2, hy] at this
  cases this
