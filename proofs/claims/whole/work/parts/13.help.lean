/-! HELPERS of the printed bodies -/
theorem hy_df0 : ∀ j, j < 3 → defaultValue (t_0 j) = vp_V [.null, .null, .int 0] j := by decide +kernel
theorem hy_no0 : ∀ v ∈ ([.null, .null, .int 0] : List Value), ∀ k, v ≠ .ref k := by intro v hv k e; subst e; revert hv; simp
theorem hy_df1 : ∀ j, j < 8 → defaultValue (t_1 j) = vp_V [.null, .null, .null, .null, .null, .int 0, .int 0, .int 0] j := by decide +kernel
theorem hy_no1 : ∀ v ∈ ([.null, .null, .null, .null, .null, .int 0, .int 0, .int 0] : List Value), ∀ k, v ≠ .ref k := by intro v hv k e; subst e; revert hv; simp
theorem hy_df2 : ∀ j, j < 4 → defaultValue (t_2 j) = vp_V [.null, .int 0, .null, .int 0] j := by decide +kernel
theorem hy_no2 : ∀ v ∈ ([.null, .int 0, .null, .int 0] : List Value), ∀ k, v ≠ .ref k := by intro v hv k e; subst e; revert hv; simp
theorem hy_df3 : ∀ j, j < 5 → defaultValue (t_3 j) = vp_V [.null, .null, .int 0, .int 0, .int 0] j := by decide +kernel
theorem hy_no3 : ∀ v ∈ ([.null, .null, .int 0, .int 0, .int 0] : List Value), ∀ k, v ≠ .ref k := by intro v hv k e; subst e; revert hv; simp
theorem hy_df4 : ∀ j, j < 2 → defaultValue (t_4 j) = vp_V [.null, .null] j := by decide +kernel
theorem hy_no4 : ∀ v ∈ ([.null, .null] : List Value), ∀ k, v ≠ .ref k := by intro v hv k e; subst e; revert hv; simp
theorem hy_df5 : ∀ j, j < 6 → defaultValue (t_5 j) = vp_V [.null, .null, .null, .null, .null, .int 0] j := by decide +kernel
theorem hy_no5 : ∀ v ∈ ([.null, .null, .null, .null, .null, .int 0] : List Value), ∀ k, v ≠ .ref k := by intro v hv k e; subst e; revert hv; simp
theorem hy_df6 : ∀ j, j < 26 → defaultValue (t_6 j) = vp_V [.int 0, .int 0, .null, .null, .null, .null, .null, .null, .int 0, .null, .null, .int 0, .null, .null, .int 0, .null, .null, .null, .null, .int 0, .null, .null, .null, .null, .int 0, .null] j := by decide +kernel
theorem hy_no6 : ∀ v ∈ ([.int 0, .int 0, .null, .null, .null, .null, .null, .null, .int 0, .null, .null, .int 0, .null, .null, .int 0, .null, .null, .null, .null, .int 0, .null, .null, .null, .null, .int 0, .null] : List Value), ∀ k, v ≠ .ref k := by intro v hv k e; subst e; revert hv; simp
theorem hy_df7 : ∀ j, j < 3 → defaultValue (t_7 j) = vp_V [.null, .int 0, .int 0] j := by decide +kernel
theorem hy_no7 : ∀ v ∈ ([.null, .int 0, .int 0] : List Value), ∀ k, v ≠ .ref k := by intro v hv k e; subst e; revert hv; simp
set_option maxRecDepth 100000 in
theorem at_H_IO : ∀ w ∈ Bundle.ownAtoms "HyphenPatterns" 50 "java/lang/IndexOutOfBoundsException" ["java/lang/RuntimeException", "java/lang/Exception"], w ∈ hy_T ∨ w ∈ hy_LN ∨ w ∈ hy_LX := by decide +kernel
set_option maxRecDepth 100000 in
theorem at_H_IA : ∀ w ∈ Bundle.ownAtoms "HyphenPatterns" 61 "java/lang/IllegalArgumentException" ["java/lang/RuntimeException", "java/lang/Exception"], w ∈ hy_T ∨ w ∈ hy_LN ∨ w ∈ hy_LX := by decide +kernel
set_option maxRecDepth 100000 in
theorem at_H_IS : ∀ w ∈ Bundle.ownAtoms "HyphenPatterns" 72 "java/lang/IllegalStateException" ["java/lang/RuntimeException", "java/lang/Exception"], w ∈ hy_T ∨ w ∈ hy_LN ∨ w ∈ hy_LX := by decide +kernel
set_option maxRecDepth 100000 in
theorem at_N_IA : ∀ w ∈ Bundle.ownAtoms "HyphenPatterns$Numbers" 34 "java/lang/IllegalArgumentException" ["java/lang/RuntimeException", "java/lang/Exception"], w ∈ hy_T ∨ w ∈ hy_LN ∨ w ∈ hy_LX := by decide +kernel
set_option maxRecDepth 100000 in
theorem at_N_IS : ∀ w ∈ Bundle.ownAtoms "HyphenPatterns$Numbers" 41 "java/lang/IllegalStateException" ["java/lang/RuntimeException", "java/lang/Exception"], w ∈ hy_T ∨ w ∈ hy_LN ∨ w ∈ hy_LX := by decide +kernel
section HYH
variable {p : Program} {l : Launch} {e : Env} {R : Room} {s : State} {m : MethodId} {args : Array Value} {below : List Frame} {meth : Method} {c : Code} {H : Heap} {locs : List Loc} {cells slots : Nat} {Q : State → Prop}
variable {own : String} {cc : ByteArray} {nL : Nat} {ret : Option FieldType} {hh : List (Nat × Nat × Nat × Nat)} {G : hy_G} {A : Nat → Prop} {ad0 ad : Nat → Nat} {n0 : Nat} {w0 w w' : hy_W} {pc : Nat} {ls : Array Slot} {rest : List Value} {k a : Nat}
theorem hy_castR (B : hy_B p l e R s m args below meth c own cc nL ret hh G A) : va_Nw (.castable "HyphenPatterns$Rule" "java/lang/Object") s := B.2.2.2.2.2.2.2.2.2.1.2.1 _ (by decide +kernel)
theorem hy_nm0 (B : hy_B p l e R s m args below meth c own cc nL ret hh G A) : s.vm.findClass "[I" = some (G.2.1 0) := (B.2.2.2.2.2.2.2.2.2.1.1.2 0 _ rfl).2
theorem hy_nm3 (B : hy_B p l e R s m args below meth c own cc nL ret hh G A) : s.vm.findClass "[Ljava/lang/Object;" = some (G.2.1 3) := va_nmO (B.2.2.2.2.2.2.2.2.2.1.1.2 3 _ rfl).2 (by decide +kernel)
theorem hy_isA (B : hy_B p l e R s m args below meth c own cc nL ret hh G A) (S : hy_S G A R s ad0 n0 ad w H locs cells slots) (ha : ad k = a) {es : List Value} (hr : w.1[k]? = some (.inr (3, es))) (hk : 1 < k) : ∃ cell : Cell, H[a]? = some cell ∧ cell.vm.isStatics = false ∧ s.vm.findClass "[Ljava/lang/Object;" = some cell.cls := by
  obtain ⟨q, -, hq⟩ := hy_place (G := G) (ad := ad) hk hr
  subst ha
  exact ⟨_, S.1.1 q _ hq, rfl, hy_nm3 B⟩
/-- an object is laid into an array of its own class -/
theorem hy_aastS (B : hy_B p l e R s m args below meth c own cc nL ret hh G A) (S : hy_S G A R s ad0 n0 ad w H locs cells slots) (ha : ad k = a) {t r b ci : Nat} (hb : ad r = b) {i : Int32} (hx : hy_pa w t k i (.ref r) = some w') {fs : List Value} (hr : w.1[r]? = some (.inl (ci, fs))) (hr1 : 1 < r) {C : String} {T : u_T} {N : Nat} (hc : hy_K[ci]? = some (C, T, N)) (ht1 : 1 < t) (ht : (hy_tys G.2.1)[t]? = some (G.2.1 t, .object C)) (hdg : decode cc pc = .ok (.aastore, 1))
    (kk : ∀ (H1 : Heap) (locs1 : List Loc), hy_S G A R s ad0 n0 ad w' H1 locs1 cells slots → w'.1.length = w.1.length → W p l e R s m args below meth c H1 locs1 cells slots Q (F0 m (pc + 1) ls rest)) : W p l e R s m args below meth c H locs cells slots Q (F0 m pc ls (.ref b :: .int i :: .ref a :: rest)) := by
  obtain ⟨es, hw, hi, hk, rfl⟩ := hy_pa_spec hx
  obtain ⟨q, e1, hq⟩ := hy_place (G := G) (ad := ad) hk hw
  obtain ⟨qr, -, hqr⟩ := hy_place (G := G) (ad := ad) hr1 hr
  subst ha hb
  rw [hy_e_q ht1] at hq
  refine va_astq (D := G.1) B.1 B.2.1 B.2.2.2.2.2.2.2.2.2.1.1 S.1.1 S.1.2.1 S.2.1 q t qr ci (r := (C, T, N)) hq ht hqr hc (hy_ix_in hi) hdg (fun H1 locs1 hP hD hS => kk H1 locs1 ?_ (List.length_set ..))
  have e2 : (hy_e G.2.1 ad (.inr (t, es.set i.toNatClampNeg (.ref r))) : va_E) = .inl (G.2.1 t, es.length, .inr (.inr (.inr (.inr (va_up (fun j => hy_or ad (es.getD j .null)) i.toNatClampNeg (some (ad r))))))) := by
    rw [hy_e_q ht1, List.length_set, hy_upq (hy_ix_lt hi)]
  refine S.put hk (c0 := .inr (t, es.set i.toNatClampNeg (.ref r))) (fun u hu => ?_) (by rw [e2, show k - 2 = q by omega]; exact hP) (by rw [e2, show k - 2 = q by omega]; exact hD) hS
  rcases List.mem_or_eq_of_mem_set hu with h | h
  · exact S.1.2.2.1 _ (List.mem_of_getElem? hw) u h
  · rw [h]; intro z hz; cases hz; exact (List.getElem?_eq_some_iff.mp hr).1
end HYH
theorem hy_sw5 {x : Int32} (h0 : ¬ x = (0 : Int32)) (h1 : ¬ x = (1 : Int32)) (h2 : ¬ x = (2 : Int32)) (h3 : ¬ x = (3 : Int32)) (h4 : ¬ x = (4 : Int32)) : x.toInt < 0 ∨ 4 < x.toInt := by
  have key : ∀ n : Int32, ¬ x = n → x.toInt ≠ n.toInt := fun n h e => h (Int32.toInt_inj.mp e)
  have a0 : x.toInt ≠ 0 := key 0 h0
  have a1 : x.toInt ≠ 1 := key 1 h1
  have a2 : x.toInt ≠ 2 := key 2 h2
  have a3 : x.toInt ≠ 3 := key 3 h3
  have a4 : x.toInt ≠ 4 := key 4 h4
  omega

