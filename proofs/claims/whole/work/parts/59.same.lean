/-! BOTH SIDES give the same -/
def hy_of (l : Nat) (M : List (Nat × hy_U)) : List hy_U := (M.filter fun e => decide (e.1 = l)).map Prod.snd
theorem of_nil {l : Nat} : hy_of l [] = [] := rfl
theorem of_t {l : Nat} {e : Nat × hy_U} {t : List (Nat × hy_U)} (h : e.1 = l) : hy_of l (e :: t) = e.2 :: hy_of l t := by
  unfold hy_of
  rw [List.filter_cons_of_pos (by simpa using h)]; rfl
theorem of_f {l : Nat} {e : Nat × hy_U} {t : List (Nat × hy_U)} (h : ¬ e.1 = l) : hy_of l (e :: t) = hy_of l t := by
  unfold hy_of
  rw [List.filter_cons_of_neg (by simpa using h)]
theorem of_mem {l : Nat} {M : List (Nat × hy_U)} {p : hy_U} : p ∈ hy_of l M ↔ (l, p) ∈ M := by
  unfold hy_of
  rw [List.mem_map]
  constructor
  · rintro ⟨⟨a, b⟩, h1, rfl⟩
    rw [List.mem_filter] at h1
    have h2 : a = l := by simpa using h1.2
    subst h2
    exact h1.1
  · intro h
    exact ⟨(l, p), List.mem_filter.mpr ⟨h, by simp⟩, rfl⟩
theorem lV_nop {st : Nat → Bool} {vl q : Nat} {vf : Nat → Int32} : ∀ {d f : Nat} {c : Int32}, (∀ j, f ≤ j → st j = false) → hy_lV st vl vf q d f c = c
  | 0, _, _, _ => rfl
  | d + 1, f, c, h => by
    rw [hy_lV, h f (Nat.le_refl _), Bool.false_and]
    exact lV_nop fun j hj => h j (by omega)
theorem lV_add {st : Nat → Bool} {vl q : Nat} {vf : Nat → Int32} : ∀ {d e f : Nat} {c : Int32}, hy_lV st vl vf q (d + e) f c = hy_lV st vl vf q e (f + d) (hy_lV st vl vf q d f c)
  | 0, e, f, c => by rw [Nat.zero_add]; rfl
  | d + 1, e, f, c => by
    rw [show d + 1 + e = (d + e) + 1 by omega, hy_lV, hy_lV, lV_add, show f + 1 + d = f + (d + 1) by omega]
theorem lC_nop {st : Nat → Bool} : ∀ {d f : Nat} {c : Int32}, (∀ j, f ≤ j → j < f + d → st j = false) → hy_lC st d f c = c
  | 0, _, _, _ => rfl
  | d + 1, f, c, h => by
    rw [hy_lC, h f (Nat.le_refl _) (by omega)]
    exact lC_nop fun j hj hk => h j (by omega) (by omega)
theorem lC_add {st : Nat → Bool} : ∀ {d e f : Nat} {c : Int32}, hy_lC st (d + e) f c = hy_lC st e (f + d) (hy_lC st d f c)
  | 0, e, f, c => by rw [Nat.zero_add]; rfl
  | d + 1, e, f, c => by
    rw [show d + 1 + e = (d + e) + 1 by omega, hy_lC, hy_lC, lC_add, show f + 1 + d = f + (d + 1) by omega]
theorem lC_ext {st st' : Nat → Bool} : ∀ {d f f' : Nat} {c : Int32}, (∀ j, j < d → st (f + j) = st' (f' + j)) → hy_lC st d f c = hy_lC st' d f' c
  | 0, _, _, _, _ => rfl
  | d + 1, f, f', c, h => by
    rw [hy_lC, hy_lC, show st f = st' f' from h 0 (by omega)]
    exact lC_ext fun j hj => by
      have := h (j + 1) (by omega)
      rw [show f + 1 + j = f + (j + 1) by omega, show f' + 1 + j = f' + (j + 1) by omega]
      exact this
theorem lC_acc {st : Nat → Bool} : ∀ {d f : Nat} {c : Int32}, hy_lC st d f c = c + hy_lC st d f (nI 0)
  | 0, _, c => (Int32.add_zero c).symm
  | d + 1, f, c => by
    rw [hy_lC, hy_lC, lC_acc (d := d), lC_acc (d := d) (c := if st f = true then nI 0 + nI 1 else nI 0)]
    cases st f
    · rw [if_neg (by decide), if_neg (by decide), show nI 0 + hy_lC st d (f + 1) (nI 0) = hy_lC st d (f + 1) (nI 0) from Int32.zero_add _]
    · rw [if_pos rfl, if_pos rfl, show nI 0 + nI 1 = nI 1 from Int32.zero_add _, Int32.add_assoc]
theorem sd_far {X : Nat → Int32} {m j : Nat} {p : List Int32} (h : m + 3 - p.length ≤ j) : hy_sd X m p j = false := by
  rw [hy_sd, decide_eq_false (by omega), Bool.false_and]
/-- all patterns' values at one place -/
def hy_pV (X : Nat → Int32) (m q : Nat) : List hy_U → Int32 → Int32
  | [], c => c
  | p :: t, c => hy_pV X m q t (hy_lV (hy_sd X m p.1) p.2.length (hy_g p.2) q (m + 3 - p.1.length) 0 c)
theorem lF_at {st : Nat → Bool} {vl q : Nat} {vf : Nat → Int32} : ∀ {d f : Nat} {G : Nat → Int32}, hy_lF st vl vf d f G q = hy_lV st vl vf q d f (G q)
  | 0, _, _ => rfl
  | d + 1, f, G => by
    rw [hy_lF, hy_lV, lF_at]
    congr 1
    cases st f
    · rw [if_neg (by decide), Bool.false_and, if_neg (by decide)]
    · rw [if_pos rfl, Bool.true_and, hy_ly]
      by_cases h : f ≤ q ∧ q < f + vl
      · rw [if_pos h, decide_eq_true h, if_pos rfl]
      · rw [if_neg h, decide_eq_false h, if_neg (by decide)]
theorem wF_at {X : Nat → Int32} {m q : Nat} : ∀ {P : List hy_U} {G : Nat → Int32}, hy_wF X m P G q = hy_pV X m q P (G q)
  | [], _ => rfl
  | p :: t, G => by rw [hy_wF, hy_pV, wF_at, lF_at]
theorem mV_of {l m q : Nat} {X : Nat → Int32} : ∀ {M : List (Nat × hy_U)} {c : Int32}, (∀ e ∈ M, 1 ≤ e.2.1.length) → hy_mV l X m q M c = hy_pV X m q (hy_of l M) c
  | [], _, _ => rfl
  | e :: t, c, h => by
    have h1 := h e List.mem_cons_self
    have ih := fun c => mV_of (l := l) (m := m) (q := q) (X := X) (M := t) (c := c) fun a ha => h a (List.mem_cons_of_mem _ ha)
    rw [hy_mV, ih]
    by_cases q1 : e.1 = l
    · rw [of_t q1, hy_pV]
      congr 1
      have hst : hy_ms l X m e = hy_sd X m e.2.1 := by
        funext f
        rw [hy_ms, decide_eq_true q1, Bool.true_and]
      rw [hst]
      conv => lhs; rw [show m + 2 = (m + 3 - e.2.1.length) + (m + 2 - (m + 3 - e.2.1.length)) by omega]
      rw [lV_add, lV_nop]
      intro j hj
      exact sd_far (by omega)
    · rw [of_f q1]
      congr 1
      exact lV_nop fun j _ => by rw [hy_ms, decide_eq_false q1, Bool.false_and]
theorem mC_of {l m : Nat} {X : Nat → Int32} : ∀ {M : List (Nat × hy_U)} {c : Int32}, (∀ e ∈ M, 1 ≤ e.2.1.length) → hy_mC l X m M c = hy_wC X m (hy_of l M) c
  | [], _, _ => rfl
  | e :: t, c, h => by
    have h1 := h e List.mem_cons_self
    have ih := fun c => mC_of (l := l) (m := m) (X := X) (M := t) (c := c) fun a ha => h a (List.mem_cons_of_mem _ ha)
    rw [hy_mC, ih]
    by_cases q1 : e.1 = l
    · rw [of_t q1, hy_wC]
      congr 1
      have hst : hy_ms l X m e = hy_sd X m e.2.1 := by
        funext f
        rw [hy_ms, decide_eq_true q1, Bool.true_and]
      rw [hst]
      conv => lhs; rw [show m + 2 = (m + 3 - e.2.1.length) + (m + 2 - (m + 3 - e.2.1.length)) by omega]
      rw [lC_add, lC_nop]
      intro j hj _
      exact sd_far (by omega)
    · rw [of_f q1]
      congr 1
      exact lC_nop fun j _ _ => by rw [hy_ms, decide_eq_false q1, Bool.false_and]
theorem fd_n {α : Type} {P : α → Bool} : ∀ {L : List α} {i : Nat}, hy_fd P L i = none ↔ ∀ a ∈ L, P a = false
  | [], i => ⟨fun _ a h => (nomatch h), fun _ => rfl⟩
  | a :: t, i => by
    rw [hy_fd]
    cases q : P a
    · rw [if_neg (by decide), fd_n]
      constructor
      · intro h b hb
        rcases List.mem_cons.mp hb with rfl | hb
        · exact q
        · exact h b hb
      · intro h b hb
        exact h b (List.mem_cons_of_mem _ hb)
    · rw [if_pos rfl]
      constructor
      · intro h; cases h
      · intro h
        have := h a List.mem_cons_self
        rw [q] at this; cases this
theorem fl_n {α : Type} {P : α → Bool} : ∀ {L : List α} {i : Nat} {f : Option Nat}, hy_fl P L i f = none ↔ f = none ∧ ∀ a ∈ L, P a = false
  | [], i, f => ⟨fun h => ⟨h, fun a h => (nomatch h)⟩, fun h => h.1⟩
  | a :: t, i, f => by
    rw [hy_fl, fl_n]
    cases q : P a
    · rw [if_neg (by decide)]
      constructor
      · rintro ⟨h1, h2⟩
        refine ⟨h1, fun b hb => ?_⟩
        rcases List.mem_cons.mp hb with rfl | hb
        · exact q
        · exact h2 b hb
      · rintro ⟨h1, h2⟩
        exact ⟨h1, fun b hb => h2 b (List.mem_cons_of_mem _ hb)⟩
    · rw [if_pos rfl]
      constructor
      · rintro ⟨h, _⟩; cases h
      · rintro ⟨_, h⟩
        have := h a List.mem_cons_self
        rw [q] at this; cases this
/-- no two rows of a language have the same letters -/
def hy_un (M : List (Nat × hy_U)) : Prop := ∀ (i j : Nat) (a b : Nat × hy_U), M[i]? = some a → M[j]? = some b → a.1 = b.1 → a.2.1 = b.2.1 → i = j
theorem sm_eq {X : Nat → Int32} {f m : Nat} {p q : hy_U} (h1 : hy_sm X f m p = true) (h2 : hy_sm X f m q = true) : p.1 = q.1 := by
  rw [hy_sm, Bool.and_eq_true, al_iff] at h1 h2
  obtain ⟨a1, b1⟩ := h1
  obtain ⟨a2, b2⟩ := h2
  have a1 := of_decide_eq_true a1
  have a2 := of_decide_eq_true a2
  apply List.ext_getElem (by omega)
  intro i h1 h2
  have c1 := of_decide_eq_true (b1 i (Nat.zero_le _) (by omega))
  have c2 := of_decide_eq_true (b2 i (Nat.zero_le _) (by omega))
  unfold hy_g at c1 c2
  rw [List.getD_eq_getElem?_getD, List.getElem?_eq_getElem h1] at c1
  rw [List.getD_eq_getElem?_getD, List.getElem?_eq_getElem h2] at c2
  exact c1.symm.trans c2
/-- a value of 0 to 10 -/
def hy_sv (v : Int32) : Prop := ∃ c : Nat, c ≤ 10 ∧ v = nI c
theorem sv_0 : hy_sv (nI 0) := ⟨0, by omega, rfl⟩
theorem sv_mx {a b : Int32} (h1 : hy_sv a) (h2 : hy_sv b) : hy_sv (hy_mx a b) := by
  unfold hy_mx
  split
  · exact h2
  · exact h1
theorem sv_mx0 {b : Int32} (h : hy_sv b) : hy_mx (nI 0) b = b := by
  obtain ⟨c, h1, rfl⟩ := h
  unfold hy_mx
  by_cases q : c = 0
  · subst q
    exact if_neg (show ¬ nI 0 < nI 0 by decide +kernel)
  · rw [if_pos ((nI_ltI (by omega) (by omega)).mpr (by omega))]
theorem sv_odd {v : Int32} (h : hy_sv v) : decide (v - v / nI 2 * nI 2 = nI 1) = !decide (v - v / nI 2 * nI 2 = nI 0) := by
  obtain ⟨c, h1, rfl⟩ := h
  rw [pk_rem (by omega) (by omega) (by omega)]
  have : c % 2 = 0 ∨ c % 2 = 1 := by omega
  rcases this with e | e <;> rw [e] <;> decide +kernel
theorem lV_sv {st : Nat → Bool} {vl q : Nat} {vf : Nat → Int32} (hv : ∀ k, hy_sv (vf k)) : ∀ {d f : Nat} {c : Int32}, hy_sv c → hy_sv (hy_lV st vl vf q d f c)
  | 0, _, _, h => h
  | d + 1, f, c, h => by
    rw [hy_lV]
    refine lV_sv hv ?_
    split
    · exact sv_mx h (hv _)
    · exact h
theorem mV_sv {l m q : Nat} {X : Nat → Int32} : ∀ {M : List (Nat × hy_U)} {c : Int32}, (∀ e ∈ M, ∀ k, hy_sv (hy_g e.2.2 k)) → hy_sv c → hy_sv (hy_mV l X m q M c)
  | [], _, _, h => h
  | e :: t, c, hM, h => by
    rw [hy_mV]
    exact mV_sv (fun a ha => hM a (List.mem_cons_of_mem _ ha)) (lV_sv (hM e List.mem_cons_self) h)
/-- what the rows keep to -/
def hy_ok (sl : Nat) (M : List (Nat × hy_U)) : Prop := ∀ e ∈ M, 1 ≤ e.2.1.length ∧ e.2.1.length ≤ sl ∧ e.2.2.length = e.2.1.length + 1 ∧ e.1 < 4 ∧ ∀ k, hy_sv (hy_g e.2.2 k)
theorem mval_sv {l m : Nat} {X : Nat → Int32} {PM EM : List (Nat × hy_U)} (hP : hy_ok 16 PM) (hE : hy_ok 40 EM) (k : Nat) : hy_sv (hy_mval l X m PM EM k) := by
  unfold hy_mval
  split
  · split
    · rename_i e _ q hq
      exact (hE q (List.mem_of_getElem? hq)).2.2.2.2 k
    · exact sv_0
  · exact mV_sv (fun e he => (hP e he).2.2.2.2) sv_0
theorem val_same {l m : Nat} {X : Nat → Int32} {PM EM : List (Nat × hy_U)} (hP : hy_ok 16 PM) (hE : hy_ok 40 EM) (hu : hy_un EM) {k : Nat} (hk : k < m) : hy_vF X m (hy_of l PM) (hy_of l EM) (k + 1) = hy_mval l X m PM EM k := by
  unfold hy_vF hy_mval
  cases q1 : hy_fl (hy_ml l X 1 m) EM 0 none with
  | none =>
    have h1 := (fl_n.mp q1).2
    have q2 : hy_fd (hy_sm X 1 m) (hy_of l EM) 0 = none := fd_n.mpr fun p hp => by
      have := h1 (l, p) (of_mem.mp hp)
      rw [hy_ml, decide_eq_true rfl, Bool.true_and] at this
      exact this
    rw [q2]
    dsimp only
    rw [wF_at, mV_of fun e he => (hP e he).1]
  | some e =>
    rcases fl_s q1 with h | ⟨-, a, h1, h2⟩
    · cases h
    rw [Nat.sub_zero] at h1
    have ha := List.mem_of_getElem? h1
    rw [hy_ml, Bool.and_eq_true] at h2
    have hal : a.1 = l := of_decide_eq_true h2.1
    cases q2 : hy_fd (hy_sm X 1 m) (hy_of l EM) 0 with
    | none =>
      have := fd_n.mp q2 a.2 (of_mem.mpr (by rw [← hal]; exact ha))
      rw [this] at h2
      exact absurd h2.2 (by decide)
    | some i =>
      obtain ⟨-, p, g1, g2⟩ := fd_s q2
      rw [Nat.sub_zero] at g1
      have hp := of_mem.mp (List.mem_of_getElem? g1)
      obtain ⟨j, hj⟩ := List.getElem?_of_mem hp
      have hij := hu e j a (l, p) h1 hj hal (sm_eq h2.2 g2)
      rw [hij, hj] at h1
      have hpa : a = (l, p) := (Option.some.inj h1).symm
      have hpm : p.1.length = m := by
        rw [hy_sm, Bool.and_eq_true] at g2
        exact of_decide_eq_true g2.1
      have ho := hE (l, p) hp
      dsimp only
      rw [g1, hij, hj]
      dsimp only
      rw [hy_ly, if_pos ⟨by omega, by have := ho.2.2.1; dsimp only at this; omega⟩, show k + 1 - 1 = k by omega]
      exact sv_mx0 (ho.2.2.2.2 k)
theorem cnt_same {l m : Nat} {X : Nat → Int32} {PM EM : List (Nat × hy_U)} (hP : hy_ok 16 PM) : hy_vC X m (hy_of l PM) (hy_of l EM) = hy_mcnt l X m PM EM := by
  unfold hy_vC hy_mcnt
  cases q1 : hy_fl (hy_ml l X 1 m) EM 0 none with
  | none =>
    have h1 := (fl_n.mp q1).2
    have q2 : hy_fd (hy_sm X 1 m) (hy_of l EM) 0 = none := fd_n.mpr fun p hp => by
      have := h1 (l, p) (of_mem.mp hp)
      rw [hy_ml, decide_eq_true rfl, Bool.true_and] at this
      exact this
    rw [q2]
    dsimp only
    rw [mC_of fun e he => (hP e he).1]
  | some e =>
    rcases fl_s q1 with h | ⟨-, a, h1, h2⟩
    · cases h
    rw [Nat.sub_zero] at h1
    have ha := List.mem_of_getElem? h1
    rw [hy_ml, Bool.and_eq_true] at h2
    have hal : a.1 = l := of_decide_eq_true h2.1
    cases q2 : hy_fd (hy_sm X 1 m) (hy_of l EM) 0 with
    | none =>
      have := fd_n.mp q2 a.2 (of_mem.mpr (by rw [← hal]; exact ha))
      rw [this] at h2
      exact absurd h2.2 (by decide)
    | some i => rfl
theorem cn_of {l : Nat} : ∀ {M : List (Nat × hy_U)} {c : Nat}, hy_cn' l M (nI c) = nI (c + (hy_of l M).length)
  | [], c => rfl
  | e :: t, c => by
    rw [hy_cn']
    by_cases q : e.1 = l
    · rw [if_pos q, of_t q, nI_add, cn_of, List.length_cons]
      congr 1
      omega
    · rw [if_neg q, of_f q, cn_of]
-- the places
section PLC
variable {Y : Nat → Int32} {n l : Nat} {PM EM : List (Nat × hy_U)} {a b : Int32}
theorem st_bg (h : hy_st Y n = true) : hy_bg Y n = n ∧ hy_il Y n = true ∧ hy_ip Y n = false := by
  unfold hy_st at h
  rw [Bool.and_eq_true] at h
  have h2 : hy_ip Y n = false := by simpa using h.2
  refine ⟨?_, h.1, h2⟩
  cases n with
  | zero => rfl
  | succ k =>
    rw [hy_bg]
    have : hy_il Y k = false := by
      unfold hy_ip at h2
      simpa using h2
    rw [this]; rfl
theorem bg_in {s : Nat} (hn : hy_nb Y n) (h : hy_st Y s = true) : ∀ {i : Nat}, i < hy_wm Y n s → hy_bg Y (s + i) = s ∧ hy_il Y (s + i) = true
  | 0, _ => ⟨(st_bg h).1, (st_bg h).2.1⟩
  | i + 1, hi => by
    have ih := bg_in (i := i) hn h (by omega)
    constructor
    · rw [show s + (i + 1) = (s + i) + 1 by omega, hy_bg, if_pos ih.2]
      exact ih.1
    · have := (e_le hn (i := s) rfl).2.2.1
      unfold hy_wm at hi
      exact this (s + (i + 1)) (by omega) (by omega)
theorem brk_f {p : Nat} (h : hy_il Y p = false ∨ hy_ip Y p = false) : hy_brk Y n l PM EM a b p = false := by
  unfold hy_brk hy_iw
  rcases h with h | h <;> rw [h] <;> simp
theorem brk_in {s i : Nat} (hn : hy_nb Y n) (hP : hy_ok 16 PM) (hE : hy_ok 40 EM) (hu : hy_un EM) (h : hy_st Y s = true) (h1 : 1 ≤ i) (hi : i < hy_wm Y n s) : hy_brk Y n l PM EM a b (s + i) = hy_cb (hy_vF (hy_wX Y n s) (hy_wm Y n s) (hy_of l PM) (hy_of l EM) (i + 1)) a b i (hy_wm Y n s) := by
  obtain ⟨g1, g2⟩ := bg_in hn h hi
  obtain ⟨g3, g4⟩ := bg_in (i := i - 1) hn h (by omega)
  have hiw : hy_iw Y (s + i) = true := by
    unfold hy_iw hy_ip
    rw [g2, show s + i - 1 = s + (i - 1) by omega, g4, decide_eq_true (by omega)]; rfl
  unfold hy_brk hy_cb
  rw [hiw, g1, show s + i - s = i by omega, val_same hP hE hu hi, sv_odd (mval_sv hP hE i), Bool.true_and]
/-- what the class answers at a place -/
theorem cb_same {p : Nat} (hn : hy_nb Y n) (hP : hy_ok 16 PM) (hE : hy_ok 40 EM) (hu : hy_un EM) (h : hy_iw Y p = true) : hy_cb (hy_val Y n (hy_of l PM) (hy_of l EM) p) a b (p - hy_bg Y p) (hy_wm Y n (hy_bg Y p)) = hy_brk Y n l PM EM a b p := by
  obtain ⟨i1, i2, i3, i4, i5⟩ := iw_bg hn h
  unfold hy_brk hy_cb hy_val
  rw [h, val_same hP hE hu (by omega), sv_odd (mval_sv hP hE _), Bool.true_and]
theorem cB_skip {st : Nat → Bool} {f : Nat → Int32} : ∀ {d e i : Nat} {c : Int32}, (∀ j, i ≤ j → j < i + e → st j = false) → hy_cB st f (e + d) i c = hy_cB st f d (i + e) c
  | d, 0, i, c, _ => by rw [Nat.zero_add, Nat.add_zero]
  | d, e + 1, i, c, h => by
    rw [show e + 1 + d = (e + d) + 1 by omega, hy_cB, h i (Nat.le_refl _) (by omega), if_neg (by decide), cB_skip fun j h1 h2 => h j (by omega) (by omega), show i + 1 + e = i + (e + 1) by omega]
theorem places_same (hn : hy_nb Y n) (hP : hy_ok 16 PM) (hE : hy_ok 40 EM) (hu : hy_un EM) : ∀ (d i : Nat) (c : Int32), n + 1 - i ≤ d → i ≤ n + 1 → hy_ip Y i = false → hy_cB (hy_st Y) (hy_bcs Y n (hy_of l PM) (hy_of l EM) a b) (n - i) i c = hy_lC (hy_brk Y n l PM EM a b) (n + 1 - i) i c
  | 0, i, c, hd, hi, _ => by
    rw [show n - i = 0 by omega, show n + 1 - i = 0 by omega]; rfl
  | d + 1, i, c, hd, hi, hip => by
    by_cases q0 : n ≤ i
    · rw [show n - i = 0 by omega, hy_cB]
      rw [lC_nop]
      intro j h1 h2
      exact brk_f (Or.inl (il_f (hn j (by omega))))
    cases q : hy_il Y i
    · have ih := places_same hn hP hE hu d (i + 1) c (by omega) (by omega) (by unfold hy_ip; rw [Nat.add_sub_cancel, q, Bool.and_false])
      rw [show n - i = (n - (i + 1)) + 1 by omega, show n + 1 - i = (n + 1 - (i + 1)) + 1 by omega, hy_cB, hy_lC, brk_f (Or.inl q)]
      have : hy_st Y i = false := by unfold hy_st; rw [q, Bool.false_and]
      rw [this]
      exact ih
    · have hst : hy_st Y i = true := by unfold hy_st; rw [q, hip]; rfl
      obtain ⟨e1, e2, e3, e4⟩ := e_le hn (i := i) rfl
      have e2 := e2 (by omega)
      have hm := wm_le hn (s := i) (by omega)
      have hm1 : 1 ≤ hy_wm Y n i := by
        have := e_t hn q
        have h2 := (e_le hn (i := i + 1) rfl).1
        unfold hy_wm
        omega
      generalize hee : hy_ee Y n i = ee at *
      have ih := places_same hn hP hE hu d (ee + 1) (c + hy_bcs Y n (hy_of l PM) (hy_of l EM) a b i) (by omega) (by omega) (by unfold hy_ip; rw [Nat.add_sub_cancel, e4, Bool.and_false])
      have hskip : ∀ j, i + 1 ≤ j → j < ee + 1 → hy_st Y j = false := by
        intro j h1 h2
        unfold hy_st
        by_cases hj : j = ee
        · rw [hj, e4, Bool.false_and]
        · have : hy_ip Y j = true := by
            unfold hy_ip
            rw [decide_eq_true (by omega), e3 (j - 1) (by omega) (by omega)]; rfl
          rw [this]; simp
      have hL : hy_cB (hy_st Y) (hy_bcs Y n (hy_of l PM) (hy_of l EM) a b) (n - i) i c = hy_cB (hy_st Y) (hy_bcs Y n (hy_of l PM) (hy_of l EM) a b) (n - (ee + 1)) (ee + 1) (c + hy_bcs Y n (hy_of l PM) (hy_of l EM) a b i) := by
        rw [show n - i = (n - (i + 1)) + 1 by omega, hy_cB, hst, if_pos rfl]
        by_cases hen : ee < n
        · rw [show n - (i + 1) = (ee - i) + (n - (ee + 1)) by omega, cB_skip fun j h1 h2 => hskip j h1 (by omega), show i + 1 + (ee - i) = ee + 1 by omega]
        · rw [show n - (i + 1) = (n - (i + 1)) + 0 by omega, cB_skip fun j h1 h2 => hskip j h1 (by omega), show n - (ee + 1) = 0 by omega]
          rfl
      have hR : hy_lC (hy_brk Y n l PM EM a b) (n + 1 - i) i c = hy_lC (hy_brk Y n l PM EM a b) (n + 1 - (ee + 1)) (ee + 1) (c + hy_bcs Y n (hy_of l PM) (hy_of l EM) a b i) := by
        rw [show n + 1 - i = 1 + ((hy_wm Y n i - 1) + (1 + (n + 1 - (ee + 1)))) by omega, lC_add, lC_nop (d := 1) (fun j h1 h2 => by rw [show j = i by omega]; exact brk_f (Or.inr hip)), lC_add, lC_add, lC_nop (d := 1) (fun j h1 h2 => brk_f (Or.inl (by rw [show j = ee by omega]; exact e4))), show i + 1 + (hy_wm Y n i - 1) + 1 = ee + 1 by omega]
        congr 1
        rw [lC_acc]
        congr 1
        unfold hy_bcs
        exact lC_ext fun j hj => by
          rw [show i + 1 + j = i + (1 + j) by omega]
          exact brk_in hn hP hE hu hst (by omega) (by omega)
      rw [hL, hR]
      exact ih
end PLC
