/-! ROWS: new cells, arrays -/
section HYS
variable {p : Program} {l : Launch} {e : Env} {R : Room} {s : State} {m : MethodId} {args : Array Value} {below : List Frame} {meth : Method} {c : Code} {H : Heap} {locs : List Loc} {cells slots : Nat} {Q : State → Prop}
variable {own : String} {cc : ByteArray} {nL : Nat} {ret : Option FieldType} {hh : List (Nat × Nat × Nat × Nat)} {G : hy_G} {A : Nat → Prop} {ad0 ad : Nat → Nat} {n0 : Nat} {w w' : hy_W} {pc : Nat} {ls : Array Slot} {rest : List Value} {k a : Nat}
theorem hy_nw_spec {c0 : hy_C} {n : Nat} (h : hy_nw w c0 n = some w') : 1 ≤ w.2.1 ∧ n ≤ w.2.2 ∧ w' = (w.1 ++ [c0], w.2.1 - 1, w.2.2 - n) := by
  unfold hy_nw at h
  split at h
  · rename_i hc
    exact ⟨hc.1, hc.2, (Option.some.inj h).symm⟩
  · cases h
theorem hy_S.push {q : Nat} {H1 : Heap} {locs1 : List Loc} (S : hy_S G A R s ad0 n0 ad w H locs cells slots) {c0 : hy_C} {n : Nat} {E : va_E} (hx : hy_nw w c0 n = some w') (hcc : hy_cc (w.1.length + 1) c0) (hf : hy_e G.2.1 (va_up ad w.1.length q) c0 = E)
    (hP : va_P G.1 hy_K (hy_ws G.2.1 ad w.1 ++ [(q, E)]) H1) (hD : va_D A (hy_ws G.2.1 ad w.1 ++ [(q, E)])) (hS : va_S A s.heap H1 locs1) :
    hy_S G A R s ad0 n0 (va_up ad w.1.length q) w' H1 locs1 (cells + 1) (slots + n) := by
  obtain ⟨⟨h1, h2, h3, h4, h5, h6, h7⟩, h8, h9, h10, h11, h12⟩ := S
  obtain ⟨x1, x2, rfl⟩ := hy_nw_spec hx
  have hag : ∀ j, j < w.1.length → va_up ad w.1.length q j = ad j := fun j hj => va_up_ne ad q (by omega)
  have e1 : hy_ws G.2.1 (va_up ad w.1.length q) (w.1 ++ [c0]) = hy_ws G.2.1 ad w.1 ++ [(q, E)] := by
    rw [hy_ws_push h4, hy_ws_eq hag (Nat.le_refl _) h3, hf, va_up_self]
  refine ⟨⟨?_, ?_, hy_cl_push h3 hcc, ?_, ?_, ?_, ?_⟩, hS, fun j hj => (hag j (by omega)).trans (h9 j hj), ?_, ?_, ?_⟩
  · show va_P _ _ (hy_ws _ _ (w.1 ++ [c0])) _
    rw [e1]; exact hP
  · show va_D _ (hy_ws _ _ (w.1 ++ [c0]))
    rw [e1]; exact hD
  · show 1 < (w.1 ++ [c0]).length
    rw [List.length_append]; omega
  · exact (hag 0 (by omega)).trans h5
  · exact (hag 1 h4).trans h6
  · show (w.1 ++ [c0])[0]? = _
    rw [List.getElem?_append_left (by omega)]; exact h7
  · show n0 ≤ (w.1 ++ [c0]).length
    rw [List.length_append]; omega
  · show cells + 1 + (w.2.1 - 1) = _
    omega
  · show slots + n + (w.2.2 - n) = _
    omega
theorem hy_new (B : hy_B p l e R s m args below meth c own cc nL ret hh G A) (S : hy_S G A R s ad0 n0 ad w H locs cells slots) {ci : Nat} {fs : List Value} {C : String} {T : u_T} {N : Nat} (hx : hy_nw w (.inl (ci, fs)) N = some w') (hc : hy_K[ci]? = some (C, T, N)) (hin : ∀ w ∈ u_ws C T N, w ∈ hy_T) (ty : Nat → FieldType) (hty : ∀ k, k < N → parseFieldDescriptor (T k).2.2.1 = some (ty k))
    {index : Nat} (hcl : Cond.classLink own index C ∈ hy_T) (hinst : Cond.instantiable C N ∈ hy_T) (hini : Cond.initialized C ∈ hy_T) (hfs : ∀ j, j < N → defaultValue (ty j) = vp_V fs j) (hno : ∀ v ∈ fs, ∀ k, v ≠ .ref k) (hdg : decode cc pc = .ok (.new index, 3))
    (kk : ∀ (ad1 : Nat → Nat) (q : Nat) (H1 : Heap), (∀ j, j < w.1.length → ad1 j = ad j) → ad1 w.1.length = q → hy_S G A R s ad0 n0 ad1 w' H1 locs (cells + 1) (slots + N) → w'.1.length = w.1.length + 1 → W p l e R s m args below meth c H1 locs (cells + 1) (slots + N) Q (F0 m (pc + 3) ls (.ref q :: rest))) : W p l e R s m args below meth c H locs cells slots Q (F0 m pc ls rest) := by
  obtain ⟨x1, x2, e0⟩ := hy_nw_spec hx
  have hm : ∀ f : Nat → Nat, fs.map (hy_v f) = fs := fun f => by
    rw [List.map_congr_left (g := id) fun v hv => ?_, List.map_id]
    cases v with
    | ref k => exact absurd rfl (hno _ hv k)
    | _ => rfl
  refine va_new (D := G.1) (ci := ci) (fs := fs) (C := C) (T := T) (N := N) B.1 B.2.1 B.2.2.2.2.1 hin ty hty B.2.2.2.1 (B.2.2.2.2.1 _ hcl) (B.2.2.2.2.1 _ hinst) (B.2.2.2.2.1 _ hini) B.2.2.2.2.2.2.2.2.2.1.1 S.1.1 S.1.2.1 S.2.1 B.2.2.2.2.2.2.2.2.1 hc hfs (by have := S.2.2.2.2.1; omega) (by have := S.2.2.2.2.2; omega) hdg (fun q H1 hP hD hS => ?_)
  exact kk (va_up ad w.1.length q) q H1 (fun j hj => va_up_ne ad q (by omega)) (va_up_self ad _ q) (S.push hx (fun v hv k e => absurd e (hno v hv k)) (by show (Sum.inr (ci, fs.map _) : va_E) = _; rw [hm]) hP hD hS) (by rw [e0]; simp)
/-- an index -/
theorem hy_ix_in {i : Int32} {n : Nat} (h : hy_ix i n = true) : vp_in i n := by
  simp only [hy_ix, Bool.and_eq_true, decide_eq_true_eq] at h
  intro q
  rcases q with q | q
  · exact absurd q (Int32.not_lt.mpr h.1)
  · omega
theorem hy_ix_lt {i : Int32} {n : Nat} (h : hy_ix i n = true) : i.toNatClampNeg < n := by
  simp only [hy_ix, Bool.and_eq_true, decide_eq_true_eq] at h
  exact h.2
theorem hy_ai_spec {i x : Int32} (h : hy_ai w k i = some x) : ∃ es, w.1[k]? = some (.inr (0, es)) ∧ hy_ix i es.length = true ∧ es[i.toNatClampNeg]? = some (.int x) ∧ 1 < k := by
  unfold hy_ai at h
  split at h
  · rename_i es hw
    split at h
    · rename_i hc
      split at h
      · rename_i y hy
        exact ⟨es, hw, hc.1, by rw [hy, Option.some.inj h], hc.2⟩
      · cases h
    · cases h
  · cases h
theorem hy_al_spec {i : Int32} {x : Int64} (h : hy_al w k i = some x) : ∃ es, w.1[k]? = some (.inr (1, es)) ∧ hy_ix i es.length = true ∧ es[i.toNatClampNeg]? = some (.long x) ∧ 1 < k := by
  unfold hy_al at h
  split at h
  · rename_i es hw
    split at h
    · rename_i hc
      split at h
      · rename_i y hy
        exact ⟨es, hw, hc.1, by rw [hy, Option.some.inj h], hc.2⟩
      · cases h
    · cases h
  · cases h
theorem hy_ar_spec {t r : Nat} {i : Int32} (h : hy_ar w t k i = some r) : ∃ es, w.1[k]? = some (.inr (t, es)) ∧ hy_ix i es.length = true ∧ es[i.toNatClampNeg]? = some (.ref r) ∧ 1 < k := by
  unfold hy_ar at h
  split at h
  · rename_i u es hw
    split at h
    · rename_i hc
      obtain ⟨rfl, h2, h3⟩ := hc
      split at h
      · rename_i y hy
        exact ⟨es, hw, h2, by rw [hy, Option.some.inj h], h3⟩
      · cases h
    · cases h
  · cases h
theorem hy_pa_spec {t : Nat} {i : Int32} {v : Value} (h : hy_pa w t k i v = some w') : ∃ es, w.1[k]? = some (.inr (t, es)) ∧ hy_ix i es.length = true ∧ 1 < k ∧ w' = (w.1.set k (.inr (t, es.set i.toNatClampNeg v)), w.2) := by
  unfold hy_pa at h
  split at h
  · rename_i u es hw
    split at h
    · rename_i hc
      obtain ⟨rfl, h2, h3⟩ := hc
      exact ⟨es, hw, h2, h3, (Option.some.inj h).symm⟩
    · cases h
  · cases h
theorem hy_ln_spec {t n : Nat} (h : hy_ln w t k = some n) : ∃ es, w.1[k]? = some (.inr (t, es)) ∧ es.length = n := by
  unfold hy_ln at h
  split at h
  · rename_i u es hw
    split at h
    · rename_i hc
      subst hc
      exact ⟨es, hw, Option.some.inj h⟩
    · cases h
  · cases h
theorem hy_iald (B : hy_B p l e R s m args below meth c own cc nL ret hh G A) (S : hy_S G A R s ad0 n0 ad w H locs cells slots) (ha : ad k = a) {i x : Int32} (hx : hy_ai w k i = some x) (hdg : decode cc pc = .ok (.iaload, 1))
    (kk : W p l e R s m args below meth c H locs cells slots Q (F0 m (pc + 1) ls (.int x :: rest))) : W p l e R s m args below meth c H locs cells slots Q (F0 m pc ls (.int i :: .ref a :: rest)) := by
  obtain ⟨es, hw, hi, hv, hk⟩ := hy_ai_spec hx
  obtain ⟨q, -, hq⟩ := hy_place (G := G) (ad := ad) hk hw
  subst ha
  refine va_iald (D := G.1) B.1 B.2.1 B.2.2.2.2.2.2.2.2.2.1.1 S.1.1 q 0 hq rfl (hy_ix_in hi) hdg ?_
  rw [show hy_oi (es.getD i.toNatClampNeg .null) = x by rw [List.getD_eq_getElem?_getD, hv]; rfl]
  exact kk
theorem hy_lald (B : hy_B p l e R s m args below meth c own cc nL ret hh G A) (S : hy_S G A R s ad0 n0 ad w H locs cells slots) (ha : ad k = a) {i : Int32} {x : Int64} (hx : hy_al w k i = some x) (hdg : decode cc pc = .ok (.laload, 1))
    (kk : W p l e R s m args below meth c H locs cells slots Q (F0 m (pc + 1) ls (.long x :: rest))) : W p l e R s m args below meth c H locs cells slots Q (F0 m pc ls (.int i :: .ref a :: rest)) := by
  obtain ⟨es, hw, hi, hv, hk⟩ := hy_al_spec hx
  obtain ⟨q, -, hq⟩ := hy_place (G := G) (ad := ad) hk hw
  subst ha
  refine va_lald (D := G.1) B.1 B.2.1 B.2.2.2.2.2.2.2.2.2.1.1 S.1.1 q 1 hq rfl (hy_ix_in hi) hdg ?_
  rw [show hy_ol (es.getD i.toNatClampNeg .null) = x by rw [List.getD_eq_getElem?_getD, hv]; rfl]
  exact kk
theorem hy_e_q {dA : Nat → ClassId} {f : Nat → Nat} {t : Nat} (ht : 1 < t) (es : List Value) : hy_e dA f (.inr (t, es)) = .inl (dA t, es.length, .inr (.inr (.inr (.inr (fun j => hy_or f (es.getD j .null)))))) := by
  match t, ht with
  | t + 2, _ => rfl
theorem hy_tys_q {t : Nat} (ht : t = 2 ∨ t = 3) : ∃ C, (hy_tys G.2.1)[t]? = some (G.2.1 t, .object C) := by
  rcases ht with rfl | rfl
  · exact ⟨_, rfl⟩
  · exact ⟨_, rfl⟩
theorem hy_aald (B : hy_B p l e R s m args below meth c own cc nL ret hh G A) (S : hy_S G A R s ad0 n0 ad w H locs cells slots) (ha : ad k = a) {t r : Nat} (ht : t = 2 ∨ t = 3) {i : Int32} (hx : hy_ar w t k i = some r) (hdg : decode cc pc = .ok (.aaload, 1))
    (kk : ∀ b : Nat, ad r = b → r < w.1.length → W p l e R s m args below meth c H locs cells slots Q (F0 m (pc + 1) ls (.ref b :: rest))) : W p l e R s m args below meth c H locs cells slots Q (F0 m pc ls (.int i :: .ref a :: rest)) := by
  obtain ⟨es, hw, hi, hv, hk⟩ := hy_ar_spec hx
  obtain ⟨q, -, hq⟩ := hy_place (G := G) (ad := ad) hk hw
  subst ha
  rw [hy_e_q (by omega)] at hq
  obtain ⟨C, hC⟩ := hy_tys_q (G := G) ht
  refine va_aldq (D := G.1) B.1 B.2.1 B.2.2.2.2.2.2.2.2.2.1.1 S.1.1 q t hq hC (hy_ix_in hi) hdg ?_
  rw [show hy_or ad (es.getD i.toNatClampNeg .null) = some (ad r) by rw [List.getD_eq_getElem?_getD, hv]; rfl]
  exact kk _ rfl (hy_cl_refA S.1.2.2.1 hw hv)
theorem hy_iast (B : hy_B p l e R s m args below meth c own cc nL ret hh G A) (S : hy_S G A R s ad0 n0 ad w H locs cells slots) (ha : ad k = a) {i x : Int32} (hx : hy_pa w 0 k i (.int x) = some w') (hdg : decode cc pc = .ok (.iastore, 1))
    (kk : ∀ (H1 : Heap) (locs1 : List Loc), hy_S G A R s ad0 n0 ad w' H1 locs1 cells slots → w'.1.length = w.1.length → W p l e R s m args below meth c H1 locs1 cells slots Q (F0 m (pc + 1) ls rest)) : W p l e R s m args below meth c H locs cells slots Q (F0 m pc ls (.int x :: .int i :: .ref a :: rest)) := by
  obtain ⟨es, hw, hi, hk, rfl⟩ := hy_pa_spec hx
  obtain ⟨q, e1, hq⟩ := hy_place (G := G) (ad := ad) hk hw
  subst ha
  refine va_iast (D := G.1) B.1 B.2.1 B.2.2.2.2.2.2.2.2.2.1.1 S.1.1 S.1.2.1 S.2.1 q 0 hq rfl (hy_ix_in hi) hdg (fun H1 locs1 hP hD hS => kk H1 locs1 ?_ (List.length_set ..))
  have e2 : (hy_e G.2.1 ad (.inr (0, es.set i.toNatClampNeg (.int x))) : va_E) = .inl (G.2.1 0, es.length, .inl (upd (fun j => hy_oi (es.getD j .null)) i.toNatClampNeg x)) := by
    show (Sum.inl (G.2.1 0, (es.set i.toNatClampNeg (.int x)).length, .inl (fun j => hy_oi ((es.set i.toNatClampNeg (.int x)).getD j .null))) : va_E) = _
    rw [List.length_set, show (fun j => hy_oi ((es.set i.toNatClampNeg (.int x)).getD j .null)) = upd (fun j => hy_oi (es.getD j .null)) i.toNatClampNeg x from ?_]
    funext j
    rw [List.getD_eq_getElem?_getD, List.getElem?_set]
    by_cases hj : i.toNatClampNeg = j
    · subst hj
      simp [upd, hy_ix_lt hi, hy_oi]
    · simp [upd, hj, Ne.symm hj, List.getD_eq_getElem?_getD]
  refine S.put hk (c0 := .inr (0, es.set i.toNatClampNeg (.int x))) (fun u hu => ?_) (by rw [e2, show k - 2 = q by omega]; exact hP) (by rw [e2, show k - 2 = q by omega]; exact hD) hS
  rcases List.mem_or_eq_of_mem_set hu with h | h
  · exact S.1.2.2.1 _ (List.mem_of_getElem? hw) u h
  · rw [h]; intro _ z; cases z
theorem hy_last (B : hy_B p l e R s m args below meth c own cc nL ret hh G A) (S : hy_S G A R s ad0 n0 ad w H locs cells slots) (ha : ad k = a) {i : Int32} {x : Int64} (hx : hy_pa w 1 k i (.long x) = some w') (hdg : decode cc pc = .ok (.lastore, 1))
    (kk : ∀ (H1 : Heap) (locs1 : List Loc), hy_S G A R s ad0 n0 ad w' H1 locs1 cells slots → w'.1.length = w.1.length → W p l e R s m args below meth c H1 locs1 cells slots Q (F0 m (pc + 1) ls rest)) : W p l e R s m args below meth c H locs cells slots Q (F0 m pc ls (.long x :: .int i :: .ref a :: rest)) := by
  obtain ⟨es, hw, hi, hk, rfl⟩ := hy_pa_spec hx
  obtain ⟨q, e1, hq⟩ := hy_place (G := G) (ad := ad) hk hw
  subst ha
  refine va_last (D := G.1) B.1 B.2.1 B.2.2.2.2.2.2.2.2.2.1.1 S.1.1 S.1.2.1 S.2.1 q 1 hq rfl (hy_ix_in hi) hdg (fun H1 locs1 hP hD hS => kk H1 locs1 ?_ (List.length_set ..))
  have e2 : (hy_e G.2.1 ad (.inr (1, es.set i.toNatClampNeg (.long x))) : va_E) = .inl (G.2.1 1, es.length, .inr (.inl (vp_updL (fun j => hy_ol (es.getD j .null)) i.toNatClampNeg x))) := by
    show (Sum.inl (G.2.1 1, (es.set i.toNatClampNeg (.long x)).length, .inr (.inl (fun j => hy_ol ((es.set i.toNatClampNeg (.long x)).getD j .null)))) : va_E) = _
    rw [List.length_set, show (fun j => hy_ol ((es.set i.toNatClampNeg (.long x)).getD j .null)) = vp_updL (fun j => hy_ol (es.getD j .null)) i.toNatClampNeg x from ?_]
    funext j
    rw [List.getD_eq_getElem?_getD, List.getElem?_set]
    by_cases hj : i.toNatClampNeg = j
    · subst hj
      simp [vp_updL, hy_ix_lt hi, hy_ol]
    · simp [vp_updL, hj, Ne.symm hj, List.getD_eq_getElem?_getD]
  refine S.put hk (c0 := .inr (1, es.set i.toNatClampNeg (.long x))) (fun u hu => ?_) (by rw [e2, show k - 2 = q by omega]; exact hP) (by rw [e2, show k - 2 = q by omega]; exact hD) hS
  rcases List.mem_or_eq_of_mem_set hu with h | h
  · exact S.1.2.2.1 _ (List.mem_of_getElem? hw) u h
  · rw [h]; intro _ z; cases z
theorem hy_upq {f : Nat → Nat} {es : List Value} {n r : Nat} (hn : n < es.length) : (fun j => hy_or f ((es.set n (.ref r)).getD j .null)) = va_up (fun j => hy_or f (es.getD j .null)) n (some (f r)) := by
  funext j
  rw [List.getD_eq_getElem?_getD, List.getElem?_set]
  by_cases hj : n = j
  · subst hj
    simp [va_up, hn, hy_or]
  · simp [va_up, hj, Ne.symm hj, List.getD_eq_getElem?_getD]
theorem hy_upn {f : Nat → Nat} {es : List Value} {n : Nat} (hn : n < es.length) : (fun j => hy_or f ((es.set n .null).getD j .null)) = va_up (fun j => hy_or f (es.getD j .null)) n none := by
  funext j
  rw [List.getD_eq_getElem?_getD, List.getElem?_set]
  by_cases hj : n = j
  · subst hj
    simp [va_up, hn, hy_or]
  · simp [va_up, hj, Ne.symm hj, List.getD_eq_getElem?_getD]
/-- a null is laid into an array of references -/
theorem hy_aastN (B : hy_B p l e R s m args below meth c own cc nL ret hh G A) (S : hy_S G A R s ad0 n0 ad w H locs cells slots) (ha : ad k = a) {t : Nat} (ht : t = 2 ∨ t = 3) {i : Int32} (hx : hy_pa w t k i .null = some w') (hdg : decode cc pc = .ok (.aastore, 1))
    (kk : ∀ (H1 : Heap) (locs1 : List Loc), hy_S G A R s ad0 n0 ad w' H1 locs1 cells slots → w'.1.length = w.1.length → W p l e R s m args below meth c H1 locs1 cells slots Q (F0 m (pc + 1) ls rest)) : W p l e R s m args below meth c H locs cells slots Q (F0 m pc ls (.null :: .int i :: .ref a :: rest)) := by
  obtain ⟨es, hw, hi, hk, rfl⟩ := hy_pa_spec hx
  obtain ⟨q, e1, hq⟩ := hy_place (G := G) (ad := ad) hk hw
  subst ha
  rw [hy_e_q (by omega)] at hq
  obtain ⟨C, hC⟩ := hy_tys_q (G := G) ht
  refine va_astqN (D := G.1) B.1 B.2.1 B.2.2.2.2.2.2.2.2.2.1.1 S.1.1 S.1.2.1 S.2.1 q t hq hC (hy_ix_in hi) hdg (fun H1 locs1 hP hD hS => kk H1 locs1 ?_ (List.length_set ..))
  have e2 : (hy_e G.2.1 ad (.inr (t, es.set i.toNatClampNeg .null)) : va_E) = .inl (G.2.1 t, es.length, .inr (.inr (.inr (.inr (va_up (fun j => hy_or ad (es.getD j .null)) i.toNatClampNeg none))))) := by
    rw [hy_e_q (by omega), List.length_set, hy_upn (hy_ix_lt hi)]
  refine S.put hk (c0 := .inr (t, es.set i.toNatClampNeg .null)) (fun u hu => ?_) (by rw [e2, show k - 2 = q by omega]; exact hP) (by rw [e2, show k - 2 = q by omega]; exact hD) hS
  rcases List.mem_or_eq_of_mem_set hu with h | h
  · exact S.1.2.2.1 _ (List.mem_of_getElem? hw) u h
  · rw [h]; intro _ z; cases z
/-- an object of class ci is laid into an array of a class above it -/
theorem hy_aast (B : hy_B p l e R s m args below meth c own cc nL ret hh G A) (S : hy_S G A R s ad0 n0 ad w H locs cells slots) (ha : ad k = a) {t r b ci : Nat} {E : String} (hb : ad r = b) {i : Int32} (hx : hy_pa w t k i (.ref r) = some w') {fs : List Value} (hr : w.1[r]? = some (.inl (ci, fs))) (hr1 : 1 < r) {C : String} {T : u_T} {N : Nat} (hc : hy_K[ci]? = some (C, T, N)) (ht1 : 1 < t) (ht : (hy_tys G.2.1)[t]? = some (G.2.1 t, .object E)) (hca : va_Nw (.castable C E) s) (hdg : decode cc pc = .ok (.aastore, 1))
    (kk : ∀ (H1 : Heap) (locs1 : List Loc), hy_S G A R s ad0 n0 ad w' H1 locs1 cells slots → w'.1.length = w.1.length → W p l e R s m args below meth c H1 locs1 cells slots Q (F0 m (pc + 1) ls rest)) : W p l e R s m args below meth c H locs cells slots Q (F0 m pc ls (.ref b :: .int i :: .ref a :: rest)) := by
  obtain ⟨es, hw, hi, hk, rfl⟩ := hy_pa_spec hx
  obtain ⟨q, e1, hq⟩ := hy_place (G := G) (ad := ad) hk hw
  obtain ⟨qr, -, hqr⟩ := hy_place (G := G) (ad := ad) hr1 hr
  subst ha hb
  rw [hy_e_q ht1] at hq
  refine va_astqO (D := G.1) B.1 B.2.1 B.2.2.2.2.2.2.2.2.2.1.1 S.1.1 S.1.2.1 S.2.1 q t qr ci hq ht (r := (C, T, N)) hca hqr hc (hy_ix_in hi) hdg (fun H1 locs1 hP hD hS => kk H1 locs1 ?_ (List.length_set ..))
  have e2 : (hy_e G.2.1 ad (.inr (t, es.set i.toNatClampNeg (.ref r))) : va_E) = .inl (G.2.1 t, es.length, .inr (.inr (.inr (.inr (va_up (fun j => hy_or ad (es.getD j .null)) i.toNatClampNeg (some (ad r))))))) := by
    rw [hy_e_q ht1, List.length_set, hy_upq (hy_ix_lt hi)]
  refine S.put hk (c0 := .inr (t, es.set i.toNatClampNeg (.ref r))) (fun u hu => ?_) (by rw [e2, show k - 2 = q by omega]; exact hP) (by rw [e2, show k - 2 = q by omega]; exact hD) hS
  rcases List.mem_or_eq_of_mem_set hu with h | h
  · exact S.1.2.2.1 _ (List.mem_of_getElem? hw) u h
  · rw [h]; intro z hz; cases hz; exact (List.getElem?_eq_some_iff.mp hr).1
theorem hy_alen (B : hy_B p l e R s m args below meth c own cc nL ret hh G A) (S : hy_S G A R s ad0 n0 ad w H locs cells slots) (ha : ad k = a) {t n : Nat} (ht : t < 4) (hx : hy_ln w t k = some n) (h1 : k ≠ 1) (hdg : decode cc pc = .ok (.arraylength, 1))
    (kk : W p l e R s m args below meth c H locs cells slots Q (F0 m (pc + 1) ls (.int (nI n) :: rest))) : W p l e R s m args below meth c H locs cells slots Q (F0 m pc ls (.ref a :: rest)) := by
  obtain ⟨es, hw, rfl⟩ := hy_ln_spec hx
  by_cases hk : 1 < k
  · obtain ⟨q, -, hq⟩ := hy_place (G := G) (ad := ad) hk hw
    subst ha
    obtain ⟨ty, hty⟩ : ∃ ty, (hy_tys G.2.1)[t]? = some (G.2.1 t, ty) := by
      match t, ht with
      | 0, _ => exact ⟨_, rfl⟩
      | 1, _ => exact ⟨_, rfl⟩
      | 2, _ => exact ⟨_, rfl⟩
      | 3, _ => exact ⟨_, rfl⟩
    exact va_alen (D := G.1) B.1 B.2.1 B.2.2.2.2.2.2.2.2.2.1.1 S.1.1 q t hq hty rfl hdg kk
  · obtain rfl : k = 0 := by omega
    rw [S.1.2.2.2.2.2.2] at hw
    cases hw
    rw [S.1.2.2.2.2.1] at ha
    subst ha
    exact va_tlen B.1 B.2.1 B.2.2.2.2.2.2.2.2.2.1.2.2.2.2.2.2.2.1 S.2.1 rfl hdg kk
end HYS
