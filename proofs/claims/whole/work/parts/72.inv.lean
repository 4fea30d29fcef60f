/-! WHAT ALL CALLS KEEP -/
def hy_Ca (w : hy_W) (l td n : Nat) (tl x f5 f8 : Nat → Int32) (nd : Nat) (sd vd : Nat → Int32) (s m : Nat) (c : Int32) (sr gr : Nat → Int32) : Prop := w.1[2]? = some (oc_H l) ∧ w.1[3]? = some oc_a ∧ w.1[4]? = some (oc_N 6 5 (-nI 10) td) ∧ w.1[5]? = some (hy_ia 5 f5) ∧ w.1[6]? = some (hy_ia 40 tl) ∧ w.1[7]? = some (oc_N 9 8 (nI 1) n) ∧ w.1[8]? = some (hy_ia 5 f8) ∧ w.1[9]? = some (hy_ia 400 x) ∧ w.1[10]? = some (oc_D nd) ∧ w.1[11]? = some (hy_ia 40 sd) ∧ w.1[12]? = some (hy_ia 41 vd) ∧ w.1[13]? = some (oc_G s m c) ∧ w.1[14]? = some (hy_ia 402 sr) ∧ w.1[15]? = some (hy_ia 403 gr)
def hy_A1 (w : hy_W) (l td n : Nat) (tl x : Nat → Int32) : Prop := ∃ (f5 f8 : Nat → Int32) (nd : Nat) (sd vd : Nat → Int32) (s m : Nat) (c : Int32) (sr gr : Nat → Int32), hy_Ca w l td n tl x f5 f8 nd sd vd s m c sr gr
/-- the numbers and rows of the four languages -/
def hy_A2 (w : hy_W) (r : Nat → Nat) (F L T lf rg : Nat → Int32) : Prop := ∀ k, k < 4 → w.1[16 + 6 * k]? = some (oc_L k (r k) (lf k) (rg k)) ∧ w.1[17 + 6 * k]? = some (hy_ia 20 (hy_sh k F)) ∧ w.1[18 + 6 * k]? = some (hy_ia 20 (hy_sh k L)) ∧ w.1[19 + 6 * k]? = some (hy_ia 20 (hy_sh k T))
/-- the places of the lists -/
def hy_lc (c : Nat) : Prop := 20 ≤ c ∧ c < 40 ∧ (c % 6 = 2 ∨ c % 6 = 3)
def hy_qf (PM EM : List (Nat × hy_U)) (c : Nat) : List hy_U := if c % 6 = 2 then hy_of ((c - 20) / 6) PM else hy_of ((c - 20) / 6) EM
theorem qf_p {PM EM : List (Nat × hy_U)} {k : Nat} : hy_qf PM EM (20 + 6 * k) = hy_of k PM := by
  unfold hy_qf
  rw [if_pos (by omega), show (20 + 6 * k - 20) / 6 = k by omega]
theorem qf_e {PM EM : List (Nat × hy_U)} {k : Nat} : hy_qf PM EM (21 + 6 * k) = hy_of k EM := by
  unfold hy_qf
  rw [if_neg (by omega), show (21 + 6 * k - 20) / 6 = k by omega]
theorem lc_k {c : Nat} (h : hy_lc c) : ∃ k, k < 4 ∧ (c = 20 + 6 * k ∨ c = 21 + 6 * k) := by
  unfold hy_lc at h
  exact ⟨(c - 20) / 6, by omega, by omega⟩
theorem lc_p {k : Nat} (h : k < 4) : hy_lc (20 + 6 * k) := by unfold hy_lc; omega
theorem lc_e {k : Nat} (h : k < 4) : hy_lc (21 + 6 * k) := by unfold hy_lc; omega
def hy_LL (w : hy_W) (A : Nat → Nat) (Q : Nat → List hy_U) : Prop := (∀ c, hy_lc c → hy_RL w c (A c) (Q c)) ∧ ∀ c d, hy_lc c → hy_lc d → c ≠ d → A c = 0 ∨ A c ≠ A d
def hy_A3 (w : hy_W) (PM EM : List (Nat × hy_U)) : Prop := ∃ A, hy_LL w A (hy_qf PM EM)
theorem RL_fr {w w' : hy_W} {k ar : Nat} {L : List hy_U} (h : hy_RL w k ar L) (h1 : ∀ c, w.1[k]? = some c → w'.1[k]? = some c) (h2 : ∀ c, w.1[ar]? = some c → w'.1[ar]? = some c) (K : hy_kp w w') : hy_RL w' k ar L := by
  have h' := h
  obtain ⟨c, es, a1, a2, a3, a4, a5, a6, a7⟩ := h'
  exact RL_kp h ((h1 _ a1).trans a1.symm) ((h2 _ a2).trans a2.symm) K
theorem RL_ar {w : hy_W} {k ar : Nat} {L : List hy_U} (h : hy_RL w k ar L) : (ar = 0 ∨ 60 < ar) ∧ ar < w.1.length ∧ ∃ es, w.1[ar]? = some (oc_r es) := by
  obtain ⟨c, es, a1, a2, a3, a4, a5, a6, a7⟩ := h
  refine ⟨?_, (List.getElem?_eq_some_iff.mp a2).1, es, a2⟩
  rcases a5 with a5 | a5
  · exact Or.inl a5.1
  · exact Or.inr a5
theorem LL_g {w w' : hy_W} {A : Nat → Nat} {Q Q' : Nat → List hy_U} {c ar' : Nat} (h : hy_LL w A Q) (hc : hy_lc c) (K : hy_kp w w') (K1 : ∀ d, hy_lc d → d ≠ c → ∀ x, w.1[d]? = some x → w'.1[d]? = some x) (K2 : ∀ d, hy_lc d → d ≠ c → ∀ x, w.1[A d]? = some x → w'.1[A d]? = some x) (R : hy_RL w' c ar' (Q' c)) (hn : ar' = A c ∨ w.1.length ≤ ar') (hQ : ∀ d, hy_lc d → d ≠ c → Q' d = Q d) : ∃ A', hy_LL w' A' Q' := by
  obtain ⟨h1, h2⟩ := h
  refine ⟨fun d => if d = c then ar' else A d, fun d hd => ?_, fun d e hd he hde => ?_⟩
  · by_cases q : d = c
    · subst q
      show hy_RL w' d (if d = d then ar' else A d) (Q' d)
      rw [if_pos rfl]; exact R
    · show hy_RL w' d (if d = c then ar' else A d) (Q' d)
      rw [if_neg q, hQ d hd q]
      exact RL_fr (h1 d hd) (K1 d hd q) (K2 d hd q) K
  · show (if d = c then ar' else A d) = 0 ∨ (if d = c then ar' else A d) ≠ (if e = c then ar' else A e)
    by_cases q : d = c
    · have qe : ¬ e = c := by omega
      rw [if_pos q, if_neg qe]
      rcases hn with hn | hn
      · rw [hn, ← q]; exact h2 d e hd he hde
      · have := (RL_ar (h1 e he)).2.1
        exact Or.inr (by omega)
    · rw [if_neg q]
      by_cases qe : e = c
      · rw [if_pos qe]
        rcases hn with hn | hn
        · rw [hn, ← qe]; exact h2 d e hd he hde
        · have := (RL_ar (h1 d hd)).2.1
          exact Or.inr (by omega)
      · rw [if_neg qe]; exact h2 d e hd he hde
theorem LL_up {w w' : hy_W} {A : Nat → Nat} {Q Q' : Nat → List hy_U} {c ar' : Nat} (h : hy_LL w A Q) (hc : hy_lc c) (R : hy_RL w' c ar' (Q' c)) (h60 : 60 < ar') (hn : ar' = A c ∨ w.1.length ≤ ar') (K : ∀ (j : Nat) (d : hy_C), j ≠ c → j ≠ ar' → j ≠ 4 → w.1[j]? = some d → w'.1[j]? = some d) (hQ : ∀ d, hy_lc d → d ≠ c → Q' d = Q d) : ∃ A', hy_LL w' A' Q' := by
  have hb : 20 ≤ c ∧ c < 40 := by unfold hy_lc at hc; omega
  refine LL_g h hc ?_ ?_ ?_ R hn hQ
  · intro j d hj hd hr
    refine K j d (by omega) ?_ (by omega) hd
    intro e
    subst e
    rcases hn with hn | hn
    · obtain ⟨es, he⟩ := (RL_ar (h.1 c hc)).2.2
      rw [← hn, hd] at he
      cases he
      exact hr _ rfl
    · have := (List.getElem?_eq_some_iff.mp hd).1
      omega
  · intro d hd hdc x hx
    have : 20 ≤ d ∧ d < 40 := by unfold hy_lc at hd; omega
    exact K d x hdc (by omega) (by omega) hx
  · intro d hd hdc x hx
    have a1 := (RL_ar (h.1 d hd)).1
    have a2 := (RL_ar (h.1 d hd)).2.1
    refine K _ x (by omega) ?_ (by omega) hx
    rcases hn with hn | hn
    · rcases h.2 d c hd hc hdc with q | q
      · omega
      · rw [hn]; exact q
    · omega
theorem LL_cl {w w' : hy_W} {A : Nat → Nat} {Q Q' : Nat → List hy_U} {c : Nat} (h : hy_LL w A Q) (hc : hy_lc c) (R : hy_RL w' c (A c) (Q' c)) (K : ∀ j, j ≠ c → j ≠ A c ∨ A c = 0 → w'.1[j]? = w.1[j]?) (Kp : hy_kp w w') (hQ : ∀ d, hy_lc d → d ≠ c → Q' d = Q d) : ∃ A', hy_LL w' A' Q' := by
  have hb : 20 ≤ c ∧ c < 40 := by unfold hy_lc at hc; omega
  have hA := (RL_ar (h.1 c hc)).1
  refine LL_g h hc Kp ?_ ?_ R (Or.inl rfl) hQ
  · intro d hd hdc x hx
    have : 20 ≤ d ∧ d < 40 := by unfold hy_lc at hd; omega
    rw [K d hdc (by omega)]; exact hx
  · intro d hd hdc x hx
    have a1 := (RL_ar (h.1 d hd)).1
    rw [K (A d) (by omega) ?_]
    · exact hx
    · rcases hA with q | q
      · exact Or.inr q
      · rcases h.2 d c hd hc hdc with q2 | q2
        · exact Or.inl (by omega)
        · exact Or.inl q2
-- frames
section FRS
variable {w w' : hy_W} {l td n : Nat} {tl x F L T lf rg : Nat → Int32} {r : Nat → Nat} {PM EM : List (Nat × hy_U)}
theorem A1_fr (h : hy_A1 w l td n tl x) (K : ∀ (j : Nat) (c : hy_C), 2 ≤ j → j < 16 → w.1[j]? = some c → w'.1[j]? = some c) : hy_A1 w' l td n tl x := by
  obtain ⟨f5, f8, nd, sd, vd, s, m, c, sr, gr, c2, c3, c4, c5, c6, c7, c8, c9, c10, c11, c12, c13, c14, c15⟩ := h
  exact ⟨f5, f8, nd, sd, vd, s, m, c, sr, gr, K _ _ (by omega) (by omega) c2, K _ _ (by omega) (by omega) c3, K _ _ (by omega) (by omega) c4, K _ _ (by omega) (by omega) c5, K _ _ (by omega) (by omega) c6, K _ _ (by omega) (by omega) c7, K _ _ (by omega) (by omega) c8, K _ _ (by omega) (by omega) c9, K _ _ (by omega) (by omega) c10, K _ _ (by omega) (by omega) c11, K _ _ (by omega) (by omega) c12, K _ _ (by omega) (by omega) c13, K _ _ (by omega) (by omega) c14, K _ _ (by omega) (by omega) c15⟩
theorem A2_fr (h : hy_A2 w r F L T lf rg) (K : ∀ (j : Nat) (c : hy_C), 16 ≤ j → j < 40 → j % 6 ≠ 2 → j % 6 ≠ 3 → w.1[j]? = some c → w'.1[j]? = some c) : hy_A2 w' r F L T lf rg := fun k hk =>
  ⟨K _ _ (by omega) (by omega) (by omega) (by omega) (h k hk).1, K _ _ (by omega) (by omega) (by omega) (by omega) (h k hk).2.1, K _ _ (by omega) (by omega) (by omega) (by omega) (h k hk).2.2.1, K _ _ (by omega) (by omega) (by omega) (by omega) (h k hk).2.2.2⟩
theorem A3_fr (h : hy_A3 w PM EM) (K : ∀ (j : Nat) (c : hy_C), j = 0 ∨ 20 ≤ j ∧ j < 40 ∧ (j % 6 = 2 ∨ j % 6 = 3) ∨ 60 < j → w.1[j]? = some c → w'.1[j]? = some c) : hy_A3 w' PM EM := by
  obtain ⟨A, h1, h2⟩ := h
  refine ⟨A, fun c hc => ?_, h2⟩
  have a1 := (RL_ar (h1 c hc)).1
  have hc' := hc
  unfold hy_lc at hc'
  exact RL_fr (h1 c hc) (fun d hd => K _ _ (by omega) hd) (fun d hd => K _ _ (by omega) hd) (fun j d hj hd _ => K _ _ (by omega) hd)
/-- the class -/
def hy_CI (w : hy_W) (l td n : Nat) (tl x F L T lf rg : Nat → Int32) (r : Nat → Nat) (PM EM : List (Nat × hy_U)) : Prop := hy_A1 w l td n tl x ∧ hy_A2 w r F L T lf rg ∧ hy_A3 w PM EM
theorem CI_fr (h : hy_CI w l td n tl x F L T lf rg r PM EM) (K : ∀ (j : Nat) (c : hy_C), j < 40 ∨ 60 < j → w.1[j]? = some c → w'.1[j]? = some c) : hy_CI w' l td n tl x F L T lf rg r PM EM :=
  ⟨A1_fr h.1 fun j c h1 h2 => K j c (by omega), A2_fr h.2.1 fun j c h1 h2 _ _ => K j c (by omega), A3_fr h.2.2 fun j c h1 => K j c (by omega)⟩
/-- the reference -/
def hy_Dc (w : hy_W) (l td n : Nat) (tl x F L T lf rg : Nat → Int32) (ps es : Nat) (ft : Int32) (lc : Nat) (R f48 rl rv po pz pa pv eo ez ea ev : Nat → Int32) : Prop := w.1[40]? = some (oc_M ft l td lc ps es n) ∧ w.1[41]? = some (hy_ia 4 R) ∧ w.1[42]? = some (hy_ia 80 F) ∧ w.1[43]? = some (hy_ia 80 L) ∧ w.1[44]? = some (hy_ia 80 T) ∧ w.1[45]? = some (hy_ia 4 lf) ∧ w.1[46]? = some (hy_ia 4 rg) ∧ w.1[47]? = some (hy_ia 40 tl) ∧ w.1[48]? = some (hy_ia 5 f48) ∧ w.1[49]? = some (hy_ia 40 rl) ∧ w.1[50]? = some (hy_ia 41 rv) ∧ w.1[51]? = some (hy_ia 300 po) ∧ w.1[52]? = some (hy_ia 300 pz) ∧ w.1[53]? = some (hy_ia 4800 pa) ∧ w.1[54]? = some (hy_ia 5100 pv) ∧ w.1[55]? = some (hy_ia 40 eo) ∧ w.1[56]? = some (hy_ia 40 ez) ∧ w.1[57]? = some (hy_ia 1600 ea) ∧ w.1[58]? = some (hy_ia 1640 ev) ∧ w.1[59]? = some (hy_ia 400 x)
def hy_DI (w : hy_W) (ft : Int32) (l td n : Nat) (tl x F L T lf rg : Nat → Int32) (r : Nat → Nat) (PM EM : List (Nat × hy_U)) : Prop := ∃ (lc : Nat) (R f48 rl rv po pz pa pv eo ez ea ev : Nat → Int32), hy_Dc w l td n tl x F L T lf rg PM.length EM.length ft lc R f48 rl rv po pz pa pv eo ez ea ev ∧ (∀ k, k < 4 → R k = nI (r k)) ∧ hy_TB 16 po pz pa pv PM ∧ hy_TB 40 eo ez ea ev EM
theorem DI_fr {ft : Int32} (h : hy_DI w ft l td n tl x F L T lf rg r PM EM) (K : ∀ (j : Nat) (c : hy_C), 40 ≤ j → j < 60 → w.1[j]? = some c → w'.1[j]? = some c) : hy_DI w' ft l td n tl x F L T lf rg r PM EM := by
  obtain ⟨lc, R, f48, rl, rv, po, pz, pa, pv, eo, ez, ea, ev, ⟨m40, m41, m42, m43, m44, m45, m46, m47, m48, m49, m50, m51, m52, m53, m54, m55, m56, m57, m58, m59⟩, mR, tp, te⟩ := h
  have k : ∀ (j : Nat) (c : hy_C), w.1[j]? = some c → (40 ≤ j ∧ j < 60) → w'.1[j]? = some c := fun j c h1 h2 => K j c h2.1 h2.2 h1
  exact ⟨lc, R, f48, rl, rv, po, pz, pa, pv, eo, ez, ea, ev, ⟨k _ _ m40 (by omega), k _ _ m41 (by omega), k _ _ m42 (by omega), k _ _ m43 (by omega), k _ _ m44 (by omega), k _ _ m45 (by omega), k _ _ m46 (by omega), k _ _ m47 (by omega), k _ _ m48 (by omega), k _ _ m49 (by omega), k _ _ m50 (by omega), k _ _ m51 (by omega), k _ _ m52 (by omega), k _ _ m53 (by omega), k _ _ m54 (by omega), k _ _ m55 (by omega), k _ _ m56 (by omega), k _ _ m57 (by omega), k _ _ m58 (by omega), k _ _ m59 (by omega)⟩, mR, tp, te⟩
/-- what holds of the numbers -/
def hy_QI (l td n : Nat) (tl x F L T lf rg : Nat → Int32) (r : Nat → Nat) (PM EM : List (Nat × hy_U)) : Prop := l < 4 ∧ td ≤ 40 ∧ n ≤ 400 ∧ (∀ k, k < 4 → r k ≤ 20 ∧ ∀ i, i < r k → hy_lok (F (20 * k + i)) (L (20 * k + i)) (T (20 * k + i)) = true) ∧ (∀ i, i < td → ¬ tl i < -nI 10) ∧ PM.length ≤ 300 ∧ EM.length ≤ 40 ∧ hy_ok 16 PM ∧ hy_ok 40 EM ∧ hy_un PM ∧ hy_un EM
theorem lt_nn {F L T : Nat → Int32} {c : Int32} : ∀ {r : Nat}, (∀ i, i < r → hy_lok (F i) (L i) (T i) = true) → ¬ hy_lt r F L T c < nI 0
  | 0, _ => by rw [hy_lt]; decide +kernel
  | r + 1, h => by
    have ih := lt_nn (F := F) (L := L) (T := T) (c := c) (r := r) fun i hi => h i (by omega)
    rw [hy_lt]
    split
    · exact ih
    · split
      · exact ih
      · split
        · decide +kernel
        · rename_i q1 q2 q3
          obtain ⟨b1, b2, b3, b4, b5⟩ := lok_t (h r (by omega))
          obtain ⟨a, a1, a2, ea⟩ := ic_nI b1
          obtain ⟨b, c1, c2, eb⟩ := ic_nI b2
          obtain ⟨t, t1, et⟩ := nI_of b4
          rw [ea] at q1 b3 b5 ⊢
          rw [eb] at q2 b3 b5
          rw [et] at b5 ⊢
          have q1' := Int32.not_lt.mp q1
          have q2' := Int32.not_lt.mp q2
          have z : ¬ c < 0 := by
            intro z
            have : (0 : Int32) ≤ nI a := by rw [li_0, nI_leI (by omega) (by omega)]; omega
            exact absurd (Int32.lt_of_lt_of_le z this) q1
          obtain ⟨j, hj, rfl⟩ := nI_of z
          rw [nI_leI (by omega) (by omega)] at q1' q2' b3
          rw [n_sub b3, n_sub (by omega), nI_leI (by omega) (by omega)] at b5
          rw [n_sub q1', nI_add, n_lt_f (by omega) (by omega)]
          exact id
theorem CI_CX (C : hy_CI w l td n tl x F L T lf rg r PM EM) (Q : hy_QI l td n tl x F L T lf rg r PM EM) : ∃ ar br, hy_CX w l n (r l) x (hy_sh l F) (hy_sh l L) (hy_sh l T) (lf l) (rg l) ar br (hy_of l PM) (hy_of l EM) := by
  obtain ⟨⟨f5, f8, nd, sd, vd, s, m, c, sr, gr, c2, c3, c4, c5, c6, c7, c8, c9, c10, c11, c12, c13, c14, c15⟩, C2, A, A1, A2⟩ := C
  obtain ⟨ql, qt, qn, qr, qv, qp, qe, qop, qoe, qup, que⟩ := Q
  have z := c15
  obtain ⟨d1, d2, d3, d4⟩ := C2 l ql
  have p1 := A1 _ (lc_p ql)
  have p2 := A1 _ (lc_e ql)
  rw [qf_p] at p1
  rw [qf_e] at p2
  exact ⟨_, _, ⟨c2, c3, c7, c9, d1, d2, d3, d4, ql, qn, (qr l ql).1⟩, (List.getElem?_eq_some_iff.mp z).1, p1, p2, s, m, c, sr, gr, (rd_self c13 c14 c15).symm⟩
theorem DI_MX {ft : Int32} (h : hy_DI w ft l td n tl x F L T lf rg r PM EM) (Q : hy_QI l td n tl x F L T lf rg r PM EM) : ∃ lc R po pz pa pv eo ez ea ev, hy_MX w ft l td lc n (r l) R F L T x lf rg po pz pa pv eo ez ea ev PM EM := by
  obtain ⟨lc, R, f48, rl, rv, po, pz, pa, pv, eo, ez, ea, ev, ⟨m40, m41, m42, m43, m44, m45, m46, m47, m48, m49, m50, m51, m52, m53, m54, m55, m56, m57, m58, m59⟩, mR, tp, te⟩ := h
  obtain ⟨ql, qt, qn, qr, qv, qp, qe, qop, qoe, qup, que⟩ := Q
  refine ⟨lc, R, po, pz, pa, pv, eo, ez, ea, ev, m40, m41, mR l ql, m42, m43, m44, m59, m45, m46, m51, m52, m53, m54, m55, m56, m57, m58, ql, qn, (qr l ql).1, fun i => ?_, qp, qe, tp, te⟩
  unfold hy_Y
  split
  · exact lt_nn (qr l ql).2
  · decide +kernel
end FRS
