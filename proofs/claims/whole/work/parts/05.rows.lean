/-! ROWS: one instruction on a world -/
section HYR
variable {p : Program} {l : Launch} {e : Env} {R : Room} {s : State} {m : MethodId} {args : Array Value} {below : List Frame} {meth : Method} {c : Code} {H : Heap} {locs : List Loc} {cells slots : Nat} {Q : State → Prop}
variable {own : String} {cc : ByteArray} {nL : Nat} {ret : Option FieldType} {hh : List (Nat × Nat × Nat × Nat)} {G : hy_G} {A : Nat → Prop} {ad0 ad : Nat → Nat} {n0 : Nat} {w w' : hy_W} {pc : Nat} {ls : Array Slot} {rest : List Value} {k a : Nat}
theorem hy_gi_spec {ci j : Nat} {x : Int32} (h : hy_gi w k ci j = some x) : ∃ fs, w.1[k]? = some (.inl (ci, fs)) ∧ fs[j]? = some (.int x) ∧ 1 < k := by
  unfold hy_gi at h
  split at h
  · rename_i c0 fs hw
    split at h
    · rename_i hc
      split at h
      · rename_i y hy
        exact ⟨fs, by rw [hw, hc.1], by rw [hy, Option.some.inj h], hc.2⟩
      · cases h
    · cases h
  · cases h
theorem hy_gr_spec {ci j x : Nat} (h : hy_gr w k ci j = some x) : ∃ fs, w.1[k]? = some (.inl (ci, fs)) ∧ fs[j]? = some (.ref x) ∧ 1 < k := by
  unfold hy_gr at h
  split at h
  · rename_i c0 fs hw
    split at h
    · rename_i hc
      split at h
      · rename_i y hy
        exact ⟨fs, by rw [hw, hc.1], by rw [hy, Option.some.inj h], hc.2⟩
      · cases h
    · cases h
  · cases h
theorem hy_pf_spec {ci j : Nat} {v : Value} (h : hy_pf w k ci j v = some w') : ∃ fs, w.1[k]? = some (.inl (ci, fs)) ∧ j < fs.length ∧ 1 < k ∧ w' = (w.1.set k (.inl (ci, fs.set j v)), w.2) := by
  unfold hy_pf at h
  split at h
  · rename_i c0 fs hw
    split at h
    · rename_i hc
      obtain ⟨rfl, h2, h3⟩ := hc
      exact ⟨fs, hw, h2, h3, (Option.some.inj h).symm⟩
    · cases h
  · cases h
/-- the cell at a place k > 1, as the heap has it -/
theorem hy_place {c0 : hy_C} (hk : 1 < k) (hw : w.1[k]? = some c0) : ∃ q, k = q + 2 ∧ (hy_ws G.2.1 ad w.1)[q]? = some (ad k, hy_e G.2.1 ad c0) := by
  obtain ⟨q, rfl⟩ : ∃ q, k = q + 2 := ⟨k - 2, by omega⟩
  exact ⟨q, rfl, hy_ws_get hw⟩
/-- references of a closed world lead into it -/
theorem hy_cl_ref {cs : List hy_C} (hcl : hy_cl cs) {k ci r : Nat} {fs : List Value} {j : Nat} (hw : cs[k]? = some (.inl (ci, fs))) (hv : fs[j]? = some (.ref r)) : r < cs.length :=
  hcl _ (List.mem_of_getElem? hw) _ (List.mem_of_getElem? hv) r rfl
theorem hy_cl_refA {cs : List hy_C} (hcl : hy_cl cs) {k t r : Nat} {es : List Value} {j : Nat} (hw : cs[k]? = some (.inr (t, es))) (hv : es[j]? = some (.ref r)) : r < cs.length :=
  hcl _ (List.mem_of_getElem? hw) _ (List.mem_of_getElem? hv) r rfl
/-- a cell is changed -/
theorem hy_cl_set {cs : List hy_C} (hcl : hy_cl cs) (k : Nat) {c0 : hy_C} (hc : hy_cc cs.length c0) : hy_cl (cs.set k c0) := by
  intro d hd
  rw [List.length_set]
  rcases List.mem_or_eq_of_mem_set hd with h | h
  · exact hcl d h
  · rw [h]; exact hc
theorem hy_cl_push {cs : List hy_C} (hcl : hy_cl cs) {c0 : hy_C} (hc : hy_cc (cs.length + 1) c0) : hy_cl (cs ++ [c0]) := by
  intro d hd
  rw [List.length_append, List.length_singleton]
  rcases List.mem_append.mp hd with h | h
  · exact hy_cc_le (Nat.le_succ _) (hcl d h)
  · rw [List.mem_singleton.mp h]; exact hc
theorem hy_S.put {H1 : Heap} {locs1 : List Loc} (S : hy_S G A R s ad0 n0 ad w H locs cells slots) (hk : 1 < k) {c0 : hy_C} (hcc : hy_cc w.1.length c0)
    (hP : va_P G.1 hy_K ((hy_ws G.2.1 ad w.1).set (k - 2) (ad k, hy_e G.2.1 ad c0)) H1) (hD : va_D A ((hy_ws G.2.1 ad w.1).set (k - 2) (ad k, hy_e G.2.1 ad c0))) (hS : va_S A s.heap H1 locs1) :
    hy_S G A R s ad0 n0 ad (w.1.set k c0, w.2) H1 locs1 cells slots := by
  obtain ⟨⟨h1, h2, h3, h4, h5, h6, h7⟩, h8, h9, h10, h11, h12⟩ := S
  obtain ⟨q, rfl⟩ : ∃ q, k = q + 2 := ⟨k - 2, by omega⟩
  rw [Nat.add_sub_cancel] at hP hD
  refine ⟨⟨?_, ?_, hy_cl_set h3 _ hcc, ?_, h5, h6, ?_⟩, hS, h9, ?_, h11, h12⟩
  · show va_P _ _ (hy_ws _ _ (w.1.set (q + 2) c0)) _
    rw [hy_ws_set]; exact hP
  · show va_D _ (hy_ws _ _ (w.1.set (q + 2) c0))
    rw [hy_ws_set]; exact hD
  · show 1 < (w.1.set _ _).length
    rw [List.length_set]; exact h4
  · show (w.1.set _ _)[0]? = _
    rw [List.getElem?_set_ne (by omega)]; exact h7
  · show n0 ≤ (w.1.set _ _).length
    rw [List.length_set]; exact h10
theorem hy_geti (B : hy_B p l e R s m args below meth c own cc nL ret hh G A) (S : hy_S G A R s ad0 n0 ad w H locs cells slots) (ha : ad k = a) {ci j : Nat} {x : Int32} (hx : hy_gi w k ci j = some x) {C : String} {T : u_T} {N : Nat} (hc : hy_K[ci]? = some (C, T, N)) (hj : j < N) (hin : ∀ w ∈ u_ws C T N, w ∈ hy_T) {index : Nat} {ref : String} (hlink : Cond.fieldLink own index ref (T j).2.1 (T j).2.2.1 ∈ hy_T)
    (hsame : ∀ x, s.fieldFound? (T j).1 (T j).2.1 (T j).2.2.1 = some x → s.fieldFound? ref (T j).2.1 (T j).2.2.1 = some x) (hdg : decode cc pc = .ok (.getfield index, 3))
    (kk : W p l e R s m args below meth c H locs cells slots Q (F0 m (pc + 3) ls (.int x :: rest))) : W p l e R s m args below meth c H locs cells slots Q (F0 m pc ls (.ref a :: rest)) := by
  obtain ⟨fs, hw, hv, hk⟩ := hy_gi_spec hx
  obtain ⟨q, -, hq⟩ := hy_place (G := G) (ad := ad) hk hw
  subst ha
  exact va_get (D := G.1) (ci := ci) (v := .int x) (C := C) (T := T) (N := N) B.1 B.2.1 B.2.2.2.2.1 hin B.2.2.2.1 B.2.2.2.2.2.2.2.2.2.1.1 S.1.1 q hq hc j hj (B.2.2.2.2.1 _ hlink) hsame (by rw [List.getElem?_map, hv]; rfl) hdg kk
theorem hy_getr (B : hy_B p l e R s m args below meth c own cc nL ret hh G A) (S : hy_S G A R s ad0 n0 ad w H locs cells slots) (ha : ad k = a) {ci j r : Nat} (hx : hy_gr w k ci j = some r) {C : String} {T : u_T} {N : Nat} (hc : hy_K[ci]? = some (C, T, N)) (hj : j < N) (hin : ∀ w ∈ u_ws C T N, w ∈ hy_T) {index : Nat} {ref : String} (hlink : Cond.fieldLink own index ref (T j).2.1 (T j).2.2.1 ∈ hy_T)
    (hsame : ∀ x, s.fieldFound? (T j).1 (T j).2.1 (T j).2.2.1 = some x → s.fieldFound? ref (T j).2.1 (T j).2.2.1 = some x) (hdg : decode cc pc = .ok (.getfield index, 3))
    (kk : ∀ b : Nat, ad r = b → r < w.1.length → W p l e R s m args below meth c H locs cells slots Q (F0 m (pc + 3) ls (.ref b :: rest))) : W p l e R s m args below meth c H locs cells slots Q (F0 m pc ls (.ref a :: rest)) := by
  obtain ⟨fs, hw, hv, hk⟩ := hy_gr_spec hx
  obtain ⟨q, -, hq⟩ := hy_place (G := G) (ad := ad) hk hw
  subst ha
  exact va_get (D := G.1) (ci := ci) (v := .ref (ad r)) (C := C) (T := T) (N := N) B.1 B.2.1 B.2.2.2.2.1 hin B.2.2.2.1 B.2.2.2.2.2.2.2.2.2.1.1 S.1.1 q hq hc j hj (B.2.2.2.2.1 _ hlink) hsame (by rw [List.getElem?_map, hv]; rfl) hdg (kk _ rfl (hy_cl_ref S.1.2.2.1 hw hv))
theorem hy_put (B : hy_B p l e R s m args below meth c own cc nL ret hh G A) (S : hy_S G A R s ad0 n0 ad w H locs cells slots) (ha : ad k = a) {ci j : Nat} {v u : Value} (hu : hy_v ad v = u) (hcv : hy_cv w.1.length v) (hx : hy_pf w k ci j v = some w') {C : String} {T : u_T} {N : Nat} (hc : hy_K[ci]? = some (C, T, N)) (hj : j < N) (hin : ∀ w ∈ u_ws C T N, w ∈ hy_T) (ty0 : Nat → FieldType) (hty : ∀ k, k < N → parseFieldDescriptor (T k).2.2.1 = some (ty0 k)) (hnm : ∀ a, a < N → ∀ b, b < N → a ≠ b → (T a).2.1 ≠ (T b).2.1)
    {index : Nat} {ref : String} (hlink : Cond.fieldLink own index ref (T j).2.1 (T j).2.2.1 ∈ hy_T) (hsame : ∀ x, s.fieldFound? (T j).1 (T j).2.1 (T j).2.2.1 = some x → s.fieldFound? ref (T j).2.1 (T j).2.2.1 = some x) (hfin : (T j).2.2.2 = false) (hn : narrow (ty0 j) u = u) (hfit : fits (ty0 j) u = true) (hdg : decode cc pc = .ok (.putfield index, 3))
    (kk : ∀ (H1 : Heap) (locs1 : List Loc), hy_S G A R s ad0 n0 ad w' H1 locs1 cells slots → w'.1.length = w.1.length → W p l e R s m args below meth c H1 locs1 cells slots Q (F0 m (pc + 3) ls rest)) : W p l e R s m args below meth c H locs cells slots Q (F0 m pc ls (u :: .ref a :: rest)) := by
  obtain ⟨fs, hw, hl, hk, rfl⟩ := hy_pf_spec hx
  obtain ⟨q, e1, hq⟩ := hy_place (G := G) (ad := ad) hk hw
  subst ha hu
  refine va_put (D := G.1) (ci := ci) (v := hy_v ad v) (C := C) (T := T) (N := N) B.1 B.2.1 B.2.2.2.2.1 hin ty0 hty hnm B.2.2.2.1 B.2.2.2.2.2.2.2.2.2.1.1 S.1.1 S.1.2.1 S.2.1 q hq hc j hj (B.2.2.2.2.1 _ hlink) hsame hfin (hty j hj) hn hfit (by rw [List.length_map]; exact hl) hdg (fun H1 locs1 hP hD hS => kk H1 locs1 ?_ (List.length_set ..))
  have e2 : (hy_e G.2.1 ad (.inl (ci, fs.set j v)) : va_E) = .inr (ci, (fs.map (hy_v ad)).set j (hy_v ad v)) := by rw [← List.map_set]; rfl
  refine S.put hk (c0 := .inl (ci, fs.set j v)) (fun u hu => ?_) (by rw [e2, show k - 2 = q by omega]; exact hP) (by rw [e2, show k - 2 = q by omega]; exact hD) hS
  rcases List.mem_or_eq_of_mem_set hu with h | h
  · exact S.1.2.2.1 _ (List.mem_of_getElem? hw) u h
  · rw [h]; exact hcv
theorem hy_putF (hi : meth.name = "<init>") (B : hy_B p l e R s m args below meth c own cc nL ret hh G A) (S : hy_S G A R s ad0 n0 ad w H locs cells slots) (ha : ad k = a) {ci j : Nat} {v u : Value} (hu : hy_v ad v = u) (hcv : hy_cv w.1.length v) (hx : hy_pf w k ci j v = some w') {C : String} {T : u_T} {N : Nat} (hc : hy_K[ci]? = some (C, T, N)) (hj : j < N) (hin : ∀ w ∈ u_ws C T N, w ∈ hy_T) (ty0 : Nat → FieldType) (hty : ∀ k, k < N → parseFieldDescriptor (T k).2.2.1 = some (ty0 k)) (hnm : ∀ a, a < N → ∀ b, b < N → a ≠ b → (T a).2.1 ≠ (T b).2.1)
    {index : Nat} {ref : String} (hlink : Cond.fieldLink own index ref (T j).2.1 (T j).2.2.1 ∈ hy_T) (hsame : ∀ x, s.fieldFound? (T j).1 (T j).2.1 (T j).2.2.1 = some x → s.fieldFound? ref (T j).2.1 (T j).2.2.1 = some x) (hfin : (T j).2.2.2 = true) (hdecl : (T j).1 = own) (hn : narrow (ty0 j) u = u) (hfit : fits (ty0 j) u = true) (hdg : decode cc pc = .ok (.putfield index, 3))
    (kk : ∀ (H1 : Heap) (locs1 : List Loc), hy_S G A R s ad0 n0 ad w' H1 locs1 cells slots → w'.1.length = w.1.length → W p l e R s m args below meth c H1 locs1 cells slots Q (F0 m (pc + 3) ls rest)) : W p l e R s m args below meth c H locs cells slots Q (F0 m pc ls (u :: .ref a :: rest)) := by
  obtain ⟨fs, hw, hl, hk, rfl⟩ := hy_pf_spec hx
  obtain ⟨q, e1, hq⟩ := hy_place (G := G) (ad := ad) hk hw
  subst ha hu
  refine va_putF (D := G.1) (ci := ci) (v := hy_v ad v) (C := C) (T := T) (N := N) B.1 B.2.1 B.2.2.2.2.1 hin ty0 hty hnm B.2.2.2.1 B.2.2.2.2.2.2.2.2.2.1.1 S.1.1 S.1.2.1 S.2.1 q hq hc j hj (B.2.2.2.2.1 _ hlink) hsame hfin hi hdecl (hty j hj) hn hfit (by rw [List.length_map]; exact hl) hdg (fun H1 locs1 hP hD hS => kk H1 locs1 ?_ (List.length_set ..))
  have e2 : (hy_e G.2.1 ad (.inl (ci, fs.set j v)) : va_E) = .inr (ci, (fs.map (hy_v ad)).set j (hy_v ad v)) := by rw [← List.map_set]; rfl
  refine S.put hk (c0 := .inl (ci, fs.set j v)) (fun u hu => ?_) (by rw [e2, show k - 2 = q by omega]; exact hP) (by rw [e2, show k - 2 = q by omega]; exact hD) hS
  rcases List.mem_or_eq_of_mem_set hu with h | h
  · exact S.1.2.2.1 _ (List.mem_of_getElem? hw) u h
  · rw [h]; exact hcv
end HYR
