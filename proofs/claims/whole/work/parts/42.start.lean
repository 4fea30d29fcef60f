/-! THE START: what the Statement gives, in the words of the surroundings -/
theorem hy_str {args : Array Value} {s : State} {own tx : String} {k : Nat} (h1 : (Cond.stringRef own k tx).before args s = true) (h2 : (Cond.exactly (.string own k) "java/lang/String").before args s = true) : ∃ sa : Nat, vk_R own k tx sa s := by
  obtain ⟨a, c, cell, kk, q1, -⟩ := Cond.exactly_spec (args := args) (first := s) (o := none) (s := s) (idx := []) h2
  exact ⟨a, vk_R.of (A := args) h1 q1⟩
theorem hy_stat {args : Array Value} {s : State} {C n d : String} (hl : (Cond.laysStatic C n d).before args s = true) (hr : (Cond.isRef (.static C n d)).before args s = true) (B : Array Value) (V : State) (hW : s.WarmedH V.vm) (hq : ∀ q : Nat, q < s.heap.size → V.heap[q]? = s.heap[q]?) : (Cond.laysStatic C n d).before B V = true ∧ (Cond.isRef (.static C n d)).before B V = true := by
  obtain ⟨c, k, i, f, a, cell, hc, hi, hst, ha, hcell, hs, hcls, hlt, hty⟩ := Cond.laysStatic_spec hl
  obtain ⟨v, hv, hvr⟩ := Cond.isRef_spec hr
  obtain ⟨-, a', cell', ha', hcell', -, hslot⟩ := Term.static_spec hi hv
  cases ha.symm.trans ha'
  cases hcell.symm.trans hcell'
  obtain ⟨k', hi', he⟩ := State.fieldFound?_setVm hW.alike hi
  have hi2 : V.fieldFound? C n d = some (c, k', i, f) := hi'
  have hc2 : V.vm.findClass C = some c := by rw [hW.alike.findClass]; exact hc
  have hcell2 : V.heap[a]? = some cell := by rw [hq a (Array.getElem?_eq_some_iff.mp hcell).1]; exact hcell
  have ha2 : k'.statics = some a := by rw [he]; exact ha
  have hty2 : k'.staticTypes[f.slot]? = some f.type := by rw [he]; exact hty
  refine ⟨?_, ?_⟩
  · simp [Cond.before, Cond.holds, Cond.value, hc2, hi2, ha2, hcell2, hst, hs, hcls, hlt, hty2]
  · have hev : (Term.static C n d).eval B V none [] V = some v := by
      simp [Term.eval, State.fieldNamed?, hi2, hst, ha2, hcell2, hs, hslot]
    cases v with
    | null => simp [Cond.before, Cond.holds, Cond.value, hev]
    | ref t => simp [Cond.before, Cond.holds, Cond.value, hev]
    | _ => cases hvr

set_option maxHeartbeats 4000000 in
theorem hy_start_K {s : State} {args : Array Value} (hts : ∀ w ∈ hy_T, w.before args s = true) (hO1 : va_AO "HyphenPatterns$Language" s) (hO2 : va_AO "java/lang/Object" s) : ∃ (D : va_G) (dA : Nat → ClassId), va_K D hy_K (hy_tys dA) s := by
  obtain ⟨c0, s0, k0⟩ := u_known (C := R_0) (T := F_0) (N := 3) (n := 3) hts i_0 (hts _ tw_58)
  obtain ⟨c1, s1, k1⟩ := u_known (C := R_1) (T := F_1) (N := 8) (n := 8) hts i_1 (hts _ tw_98)
  obtain ⟨c2, s2, k2⟩ := u_known (C := R_2) (T := F_2) (N := 4) (n := 4) hts i_2 (hts _ tw_34)
  obtain ⟨c3, s3, k3⟩ := u_known (C := R_3) (T := F_3) (N := 5) (n := 5) hts i_3 (hts _ tw_76)
  obtain ⟨c4, s4, k4⟩ := u_known (C := R_4) (T := F_4) (N := 2) (n := 2) hts i_4 (hts _ tw_513)
  obtain ⟨c5, s5, k5⟩ := u_known (C := R_5) (T := F_5) (N := 6) (n := 6) hts i_5 (hts _ tw_24)
  obtain ⟨c6, s6, k6⟩ := u_known (C := R_6) (T := F_6) (N := 26) (n := 26) hts i_6 (hts _ tw_645)
  obtain ⟨c7, s7, k7⟩ := u_known (C := R_7) (T := F_7) (N := 3) (n := 3) hts i_7 (hts _ tw_104)
  obtain ⟨a0, q0, g0, e0, e1, e2⟩ := Cond.arrayClass_spec (hts _ tw_56)
  obtain ⟨a1, q1, g1, f0, f1, f2⟩ := Cond.arrayClass_spec (hts _ tw_906)
  obtain ⟨g2, a2, q2, z0, -, z1, z2, z3⟩ := Cond.arrayOver_spec (va_AO.use (A := args) hO1)
  obtain ⟨g3, a3, q3, y0, -, y1, y2, y3⟩ := Cond.arrayOver_spec (va_AO.use (A := args) hO2)
  refine ⟨(fun k => [c0, c1, c2, c3, c4, c5, c6, c7].getD k c0, fun k => [s0, s1, s2, s3, s4, s5, s6, s7].getD k s0), fun t => [a0, a1, a2, a3].getD t a0, fun k q hq => ?_, fun k q hq => ?_⟩
  · match k, hq with
    | 0, hq => cases hq; exact k0
    | 1, hq => cases hq; exact k1
    | 2, hq => cases hq; exact k2
    | 3, hq => cases hq; exact k3
    | 4, hq => cases hq; exact k4
    | 5, hq => cases hq; exact k5
    | 6, hq => cases hq; exact k6
    | 7, hq => cases hq; exact k7
    | k + 8, hq => simp [hy_K] at hq
  · match k, hq with
    | 0, hq => cases hq; exact ⟨fun n z => ⟨fun k h => (by cases h), q0, e1, g0, e2⟩, e0⟩
    | 1, hq => cases hq; exact ⟨fun n z => ⟨fun k h => (by cases h), q1, f1, g1, f2⟩, f0⟩
    | 2, hq => cases hq; exact ⟨fun n z => ⟨fun k h => (by cases h), q2, z1, g2, z2⟩, q2, g2, z1, z2, z0, z3⟩
    | 3, hq => cases hq; exact ⟨fun n z => ⟨fun k h => (by cases h), q3, y1, g3, y2⟩, q3, g3, y1, y2, y0, y3⟩
    | k + 4, hq => simp [hy_tys] at hq
theorem hy_LN_tab : ∀ w ∈ hy_LN, w ∈ lw_tbl := fun w h => by
  simp only [hy_LN, List.mem_cons, List.not_mem_nil, or_false] at h
  rcases h with rfl | rfl | rfl | rfl | rfl | rfl | rfl | rfl | rfl | rfl | rfl | rfl | rfl | rfl | rfl | rfl | rfl | rfl | rfl | rfl | rfl | rfl | rfl | rfl
  · exact List.mem_append_right _ (List.mem_of_getElem? (i := 59) (by decide +kernel))
  · exact List.mem_append_right _ (List.mem_of_getElem? (i := 77) (by decide +kernel))
  · exact List.mem_append_right _ (List.mem_of_getElem? (i := 99) (by decide +kernel))
  · exact List.mem_append_right _ (List.mem_of_getElem? (i := 254) (by decide +kernel))
  · exact List.mem_append_right _ (List.mem_of_getElem? (i := 317) (by decide +kernel))
  · exact List.mem_append_right _ (List.mem_of_getElem? (i := 398) (by decide +kernel))
  · exact List.mem_append_right _ (List.mem_of_getElem? (i := 415) (by decide +kernel))
  · exact List.mem_append_right _ (List.mem_of_getElem? (i := 522) (by decide +kernel))
  · exact List.mem_append_right _ (List.mem_of_getElem? (i := 908) (by decide +kernel))
  · exact List.mem_append_right _ (List.mem_of_getElem? (i := 912) (by decide +kernel))
  · exact List.mem_append_right _ (List.mem_of_getElem? (i := 913) (by decide +kernel))
  · exact List.mem_append_right _ (List.mem_of_getElem? (i := 914) (by decide +kernel))
  · exact List.mem_append_right _ (List.mem_of_getElem? (i := 915) (by decide +kernel))
  · exact List.mem_append_right _ (List.mem_of_getElem? (i := 916) (by decide +kernel))
  · exact List.mem_append_right _ (List.mem_of_getElem? (i := 917) (by decide +kernel))
  · exact List.mem_append_right _ (List.mem_of_getElem? (i := 918) (by decide +kernel))
  · exact List.mem_append_right _ (List.mem_of_getElem? (i := 919) (by decide +kernel))
  · exact List.mem_append_right _ (List.mem_of_getElem? (i := 318) (by decide +kernel))
  · exact List.mem_append_right _ (List.mem_of_getElem? (i := 319) (by decide +kernel))
  · exact List.mem_append_right _ (List.mem_of_getElem? (i := 320) (by decide +kernel))
  · exact List.mem_append_right _ (List.mem_of_getElem? (i := 321) (by decide +kernel))
  · exact List.mem_append_right _ (List.mem_of_getElem? (i := 322) (by decide +kernel))
  · exact List.mem_append_right _ (List.mem_of_getElem? (i := 323) (by decide +kernel))
  · exact List.mem_append_right _ (List.mem_of_getElem? (i := 911) (by decide +kernel))
theorem hy_LS_tab {args : Array Value} {s : State} (hts : ∀ w ∈ lw_tbl, w.before args s = true) (hgv : (Jvm.Cond.and given_1 narrow_1).before args s = true) : ∀ q ∈ hy_LS, ∃ sa : Nat, vk_R q.1 q.2.1 q.2.2 sa s := by
  intro q hq
  have hs := flat_of_before _ hgv
  simp only [hy_LS, List.mem_cons, List.not_mem_nil, or_false] at hq
  rcases hq with rfl | rfl | rfl | rfl | rfl | rfl | rfl | rfl | rfl | rfl | rfl
  · exact hy_str (hts (.stringRef "HyphenPatterns" 48 "there is no such language") (List.mem_append_right _ (List.mem_of_getElem? (i := 356) (by decide +kernel)))) (hs (.exactly (.string "HyphenPatterns" 48) "java/lang/String") (by decide +kernel))
  · exact hy_str (hts (.stringRef "HyphenPatterns" 59 "these are no bounds of a range") (List.mem_append_right _ (List.mem_of_getElem? (i := 405) (by decide +kernel)))) (hs (.exactly (.string "HyphenPatterns" 59) "java/lang/String") (by decide +kernel))
  · exact hy_str (hts (.stringRef "HyphenPatterns" 63 "these are no letters") (List.mem_append_right _ (List.mem_of_getElem? (i := 412) (by decide +kernel)))) (hs (.exactly (.string "HyphenPatterns" 63) "java/lang/String") (by decide +kernel))
  · exact hy_str (hts (.stringRef "HyphenPatterns" 70 "the language has all its ranges") (List.mem_append_right _ (List.mem_of_getElem? (i := 422) (by decide +kernel)))) (hs (.exactly (.string "HyphenPatterns" 70) "java/lang/String") (by decide +kernel))
  · exact hy_str (hts (.stringRef "HyphenPatterns" 77 "a least number is 1 to 20") (List.mem_append_right _ (List.mem_of_getElem? (i := 440) (by decide +kernel)))) (hs (.exactly (.string "HyphenPatterns" 77) "java/lang/String") (by decide +kernel))
  · exact hy_str (hts (.stringRef "HyphenPatterns$Numbers" 32 "one of the numbers can't stand here") (List.mem_append_right _ (List.mem_of_getElem? (i := 458) (by decide +kernel)))) (hs (.exactly (.string "HyphenPatterns$Numbers" 32) "java/lang/String") (by decide +kernel))
  · exact hy_str (hts (.stringRef "HyphenPatterns$Numbers" 39 "there is no room for so many") (List.mem_append_right _ (List.mem_of_getElem? (i := 461) (by decide +kernel)))) (hs (.exactly (.string "HyphenPatterns$Numbers" 39) "java/lang/String") (by decide +kernel))
  · exact hy_str (hts (.stringRef "HyphenPatterns" 97 "the telling is no pattern") (List.mem_append_right _ (List.mem_of_getElem? (i := 497) (by decide +kernel)))) (hs (.exactly (.string "HyphenPatterns" 97) "java/lang/String") (by decide +kernel))
  · exact hy_str (hts (.stringRef "HyphenPatterns" 175 "there is no room for one more") (List.mem_append_right _ (List.mem_of_getElem? (i := 507) (by decide +kernel)))) (hs (.exactly (.string "HyphenPatterns" 175) "java/lang/String") (by decide +kernel))
  · exact hy_str (hts (.stringRef "HyphenPatterns" 113 "the telling is no exception") (List.mem_append_right _ (List.mem_of_getElem? (i := 607) (by decide +kernel)))) (hs (.exactly (.string "HyphenPatterns" 113) "java/lang/String") (by decide +kernel))
  · exact hy_str (hts (.stringRef "HyphenPatterns" 131 "there is no such place") (List.mem_append_right _ (List.mem_of_getElem? (i := 626) (by decide +kernel)))) (hs (.exactly (.string "HyphenPatterns" 131) "java/lang/String") (by decide +kernel))
theorem hy_start_E {b : Nat} {s : State} (hts0 : ∀ w ∈ lw_tbl, w.before #[Value.ref b] s = true) (hgv : (Jvm.Cond.and given_1 narrow_1).before #[Value.ref b] s = true) : ∃ G : hy_G, hy_E G (fun q : Nat => s.heap.size ≤ q) s s.heap := by
  have hs := flat_of_before _ hgv
  have hts : ∀ w ∈ hy_T, w.before #[Value.ref b] s = true := fun w hw => hts0 w (List.mem_filter.mp hw).1
  have hA : ∀ a : Nat, a < s.heap.size → ¬ (fun q : Nat => s.heap.size ≤ q) a := fun a h => Nat.not_le.mpr h
  have tb : ∀ {w : Cond} (i : Nat), tables_1[i]? = some w → w.before #[Value.ref b] s = true := fun i h => hts0 _ (List.mem_append_right _ (List.mem_of_getElem? h))
  have hO1 : va_AO "HyphenPatterns$Language" s := va_AO.of (A := #[Value.ref b]) (tb 32 (by decide +kernel))
  have hO2 : va_AO "java/lang/Object" s := va_AO.of (A := #[Value.ref b]) (tb 588 (by decide +kernel))
  obtain ⟨D, dA, hK⟩ := hy_start_K hts hO1 hO2
  obtain ⟨mi, hmi⟩ := va_Mi.of (hs (.isRef (.mirror "[Ljava/lang/Object;")) (by decide +kernel))
  obtain ⟨t, ht, hT⟩ := va_Tof (args := #[Value.ref b]) (s := s) (tm := .static "java/util/ArrayList" "DEFAULTCAPACITY_EMPTY_ELEMENTDATA" "[Ljava/lang/Object;") (ty := .object "java/lang/Object") (N := 0) (f := fun _ => .null) (A := fun q : Nat => s.heap.size ≤ q) (by decide) (hs _ (by decide +kernel)) (va_eqt (hs (.eq (.length (.static "java/util/ArrayList" "DEFAULTCAPACITY_EMPTY_ELEMENTDATA" "[Ljava/lang/Object;")) (.int 0)) (by decide +kernel))) (fun j hj => absurd hj (Nat.not_lt_zero j)) hA
  have hZ := va_Zref (tb 116 (by decide +kernel)) (hts _ tw_8) ht hA
  refine ⟨(D, dA, t, mi), hK, fun w hw => va_Nw.of (hy_LN_on w hw) (hts0 w (hy_LN_tab w hw)), hy_LS_tab hts0 hgv, ⟨hO1, hO2⟩, va_Nc.of (hs (.not (.castable "java/lang/IllegalStateException" "java/lang/IllegalArgumentException")) (by decide +kernel)), hmi, hZ, hT, fun B V hW hq w hw => ?_⟩
  have hq' : ∀ q : Nat, q < s.heap.size → V.heap[q]? = s.heap[q]? := fun q h => hq q h (hA q h)
  obtain ⟨u1, u2⟩ := hy_stat (tb 342 (by decide +kernel)) (hs (.isRef (.static "java/lang/Throwable" "UNASSIGNED_STACK" "[Ljava/lang/StackTraceElement;")) (by decide +kernel)) B V hW hq'
  obtain ⟨u3, u4⟩ := hy_stat (tb 344 (by decide +kernel)) (hs (.isRef (.static "java/lang/Throwable" "SUPPRESSED_SENTINEL" "Ljava/util/List;")) (by decide +kernel)) B V hW hq'
  simp only [hy_LX, List.mem_cons, List.not_mem_nil, or_false] at hw
  rcases hw with rfl | rfl | rfl | rfl
  · exact u2
  · exact u4
  · exact u1
  · exact u3
/-- the world with which the law begins -/
def hy_w0 : hy_W := ([.inr (3, []), .inl (99, [])], 601024, 7293034)
/-- THE LAW, from its entry, where its function answers 1 -/
theorem whole_of {p : Program} {e : Env} {s : State} {m : MethodId} {below : List Frame} {meth : Method} {c : Code} {l : Launch} (hl9 : l.flags = flags0) {b L : Nat} {xs : Nat → Int32} (C0 : lw_At p s m meth c b L xs) (hex : c.exceptionTable.toList = []) (htr : e.platform.stackTraces = false) {w' : hy_W} (hf : f_X_law L xs hy_w0 = some (.inl (some (.int 1)), w')) :
    W p l e room_1 s m #[Value.ref b] below meth c s.heap [] 0 0 (lw_Z below #[Value.ref b] s) (entryFrame m ([Value.ref b] : List Value).toArray 7) := by
  obtain ⟨hx, hb, hr, hml, hown, hts0, hX, hbl, hlocks, hgv⟩ := C0
  obtain ⟨G, hE⟩ := hy_start_E hts0 hgv
  have hts : ∀ w ∈ hy_T, w.before #[Value.ref b] s = true := fun w hw => hts0 w (List.mem_filter.mp hw).1
  have B : hy_B p l e room_1 s m #[Value.ref b] below meth c "HyphenPatternsLaw" code 7 ret [] G (fun q : Nat => s.heap.size ≤ q) :=
    ⟨hx, hb, hml, hown, hts, hr, hlocks, by rw [hex]; rfl, fun _ h => h, hE, htr⟩
  obtain ⟨n, hn⟩ := hy_fx_iff.mp hf
  have S : hy_S G (fun q : Nat => s.heap.size ≤ q) room_1 s (fun k => if k = 0 then G.2.2.1 else G.2.2.2) 2 (fun k => if k = 0 then G.2.2.1 else G.2.2.2) hy_w0 s.heap [] 0 0 := by
    refine ⟨⟨fun k q h => ?_, ⟨fun i j p q h => ?_, fun k q h => ?_⟩, fun d hd => ?_, by decide, rfl, rfl, rfl⟩, va_S.rf, fun _ _ => rfl, Nat.le_refl _, rfl, rfl⟩
    · have : (hy_ws G.2.1 (fun k => if k = 0 then G.2.2.1 else G.2.2.2) hy_w0.1) = [] := rfl
      rw [this] at h; simp at h
    · have : (hy_ws G.2.1 (fun k => if k = 0 then G.2.2.1 else G.2.2.2) hy_w0.1) = [] := rfl
      rw [this] at h; simp at h
    · have : (hy_ws G.2.1 (fun k => if k = 0 then G.2.2.1 else G.2.2.2) hy_w0.1) = [] := rfl
      rw [this] at h; simp at h
    · simp only [hy_w0, List.mem_cons, List.not_mem_nil, or_false] at hd
      rcases hd with rfl | rfl
      · intro v hv; cases hv
      · intro v hv; cases hv
  have hl := lv_entry ([.ref b]) (n := 7) (Nat.le_of_ble_eq_true rfl)
  rw [lg_entry_eq]
  generalize (lg_sl ([.ref b]) ++ List.replicate (7 - (lg_sl ([.ref b])).length) Slot.unset).toArray = ls at hl ⊢
  have hl : lv_has ls 7 [(0, .ref b)] := hl
  exact hy_loopL (nk_X_law hl9 rfl hX hbl (Nat.not_le.mpr hbl) hr B) n _ hn _ _ _ _ _ ls S (fun _ h => nomatch h) hl
/-- THE CLAIM, where the law's function always answers 1 -/
def hy_Pure : Prop := ∀ (L : Nat) (xs : Nat → Int32), L ≤ 3072 → ∃ w' : hy_W, f_X_law L xs hy_w0 = some (.inl (some (.int 1)), w')
set_option maxHeartbeats 4000000 in
theorem lw_walk (hp : hy_Pure) {l : Launch} (hl9 : l.flags = flags0) (b : Addr) (xs : List Int32) : MetFree l x (headSpec (Jvm.Cond.code x code maxLocals ret :: tables_1) room_1) (lw_P b xs) (fun _ _ _ _ _ => True) lw_Q := by
  refine MetFree.of_bodyS (code := code) (maxLocals := maxLocals) (ret := ret) (by decide) ?_ ?_
  · intro args s m h hn
    obtain ⟨meth, c, h1, h2, h3, h4, h5, h6, -, -⟩ := Cond.code_spec hn (atoms_spec (ws := Jvm.Cond.code x code maxLocals ret :: tables_1) h _ List.mem_cons_self)
    exact ⟨meth, c, h1, h2, h3, h4, h5, h6⟩
  · intro p e s m args below meth c s₁ B hml0 hP _
    obtain ⟨rfl, hx, hbd, hgv⟩ := hP
    obtain ⟨scr, harrAt, hlist, hof, hsmall⟩ := hx
    obtain ⟨hcb, hkn, -, -⟩ := State.arrayAt?_spec harrAt
    have hown : s.vm.findClass R_law = some m.cls := findClass_of_methodNamed B.named
    have hts0 : ∀ c ∈ (Jvm.Cond.code x code maxLocals ret :: tables_1), c.before #[Value.ref b] s = true := atoms_spec (ws := Jvm.Cond.code x code maxLocals ret :: tables_1) B.pre
    have hts : ∀ w ∈ lw_tbl, w.before #[Value.ref b] s = true := k2_hts_sels lw_privs (fun w hw => hts0 w (List.mem_cons_of_mem _ hw)) lw_privs_ok
    have hml : c.maxLocals = 7 := B.maxLocals_eq (hts0 _ List.mem_cons_self)
    obtain ⟨meth', c', k1, k2, -, -, -, -, k7, -⟩ := Cond.code_spec B.named (hts0 _ List.mem_cons_self)
    cases B.method.symm.trans k1
    cases (Stand.of_body B).code.symm.trans k2
    have hex : c.exceptionTable.toList = [] := by simpa using k7
    have X₀ : Stand p l e room_1 s m #[Value.ref b] below meth c s₁ [] 0 0 := Stand.of_body B
    have hh0 : s₁.heap = s.heap := by rw [B.state]; rfl
    have hsz : scr.slots.size = xs.length := by rw [← Array.length_toList, hlist, List.length_map]
    have hval : ∀ j : Nat, j < xs.length → scr.slots[j]? = some (.int (xs.getD j 0)) := fun j hj => by
      rw [← Array.getElem?_toList, hlist]
      simp [hj]
    have hbl : b < s.heap.size := (Array.getElem?_eq_some_iff.mp hcb).1
    have hX : va_X b xs.length (fun j => xs.getD j 0) s s.heap := ⟨scr, hcb, hof, hkn, hsz, hval⟩
    obtain ⟨w', hw'⟩ := hp xs.length (fun j => xs.getD j 0) hbd
    have K : W p l e room_1 s m #[Value.ref b] below meth c s₁.heap [] 0 0 (lw_Z below #[Value.ref b] s) (entryFrame m ([Value.ref b] : List Value).toArray 7) := by
      rw [hh0]
      exact whole_of hl9 ⟨B.exec, B.bytes, B.returns, hml, hown, hts, hX, hbl, B.notSynchronized, hgv⟩ hex (Launch.traces_off hl9 B.admits) hw'
    obtain ⟨t, a1, o, b1, b2, b3⟩ := K s₁ rfl X₀
    exact ⟨t, o, a1, b1, b2, b3⟩
theorem lw_pre_spec {args : Array Value} {s : State} (h : (Jvm.Cond.and given_1 narrow_1).before args s = true) (hr : rest_1_c.before args s = true) : ∃ (b : Addr) (xs : List Int32), lw_P b xs args s := by
  have hs := flat_of_before _ h
  have hq := flat_of_before _ hr
  have hc : (Cond.count 1).before args s = true := hs _ (by decide +kernel)
  have harr : (Cond.arrayOf (.arg 0) .int).before args s = true := hs _ (by decide +kernel)
  have hle : (Cond.le (.length (.arg 0)) (.int 3072)).before args s = true := hs _ (by decide +kernel)
  have hlen : (Cond.isInt (.length (.arg 0))).before args s = true := hq _ (by decide +kernel)
  have hall : (Cond.all (.arg 0) (.isInt (.elem (.arg 0) (.index 0)))).before args s = true := hq _ (by decide +kernel)
  obtain ⟨b, xs, hb, hx⟩ := State.ints_of_pre rfl harr hlen hall
  have hsm : xs.length < 2 ^ 31 := hx.choose_spec.2.2.2
  have hev : (Term.length (.arg 0)).eval args s none [] s = some (.int xs.length.toInt32) := hx.length_eval hb
  have hv := Cond.le_ints hev (show (Term.int 3072).eval args s none [] s = some (.int 3072) from rfl)
  have hd : xs.length.toInt32 ≤ 3072 := by
    simpa [Cond.before, Cond.holds, hv] using hle
  have hN : xs.length ≤ 3072 := (Int32.ofNat_le_ofNat hsm (by decide)).mp (show Int32.ofNat xs.length ≤ Int32.ofNat 3072 from hd)
  exact ⟨b, xs, Cond.one_arg hc (show args[0]? = some (.ref b) from hb), hx, hN, h⟩
theorem lw_comes (hp : hy_Pure) {l : Launch} (hl9 : l.flags = flags0) : Comes l x (Jvm.Cond.code x code maxLocals ret :: tables_1) room_1 (fun tb e args s => Calls_1 tb e args s ∧ rest_1 tb e args s ∧ Pre_1 tb e args s)
    (fun _ _ args s o t => lw_Q args s o t) := by
  intro p e ha hc hk s m args below hf hfit hheap happ hpre
  obtain ⟨b, xs, hP⟩ := lw_pre_spec hpre.2.2 hpre.2.1
  obtain ⟨k, o, h1, h2, h3, hQ⟩ := lw_walk hp hl9 b xs p e ha hc hk s m args below hf ((Spec.applies_iff_loose hf).mp happ).1 hP trivial
  exact ⟨k, o, h1, h2, h3, hQ⟩
theorem lw_frame {s t : State} {o : Outcome} {args : Array Value} (h : Framed s o t [] 601024 7293034) :
    Framed s o t (fieldLocs frame_1_writes args s ++ arrayLocs frame_1_arrays args s ++ staticLocs frame_1_statics s) 601024 7293034 := h
theorem lw_limb (hp : hy_Pure) (L : Cond) (hL : ∀ (args : Array Value) (s t : State), L.after args s (.returned (some (.int 1))) t = true) :
    ArmFor flags0 classFile x code maxLocals ret World_1 tables_1 room_1 Calls_1 rest_1 Pre_1
      (fun tb e a s o t => postC L tb e a s o t ∧ Framed s o t (fieldLocs frame_1_writes a s ++ arrayLocs frame_1_arrays a s ++ staticLocs frame_1_statics s) 601024 7293034) := by
  intro l hl9 _ _ p e ha hc hk s m args below hf hfit hheap happ hpre
  obtain ⟨k, o, h1, h2, h3, rfl, hF⟩ := lw_comes hp hl9 p e ha hc hk s m args below hf hfit hheap happ hpre
  exact ⟨k, _, h1, h2, h3, hL args s _, lw_frame hF⟩
theorem i_of (hp : hy_Pure) : Claimed_1_1 ∧ Claimed_1_2 := ⟨lw_limb hp limb_1_1 (fun args s t => by simp [limb_1_1, Cond.after, Cond.holds, Cond.value]), lw_limb hp limb_1_2 (fun args s t => Cond.after_iff.mpr (by
  first | (rw [show limb_1_2 = Cond.eq .result (.int 1) from rfl, Cond.eq_ints (x := 1) (y := 1) rfl rfl]; simp; done) | (simp [limb_1_2, Cond.value, Term.eval]; done)))⟩

