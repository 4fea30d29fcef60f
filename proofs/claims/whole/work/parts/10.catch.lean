/-! ROWS: catching by a row of the method's own table; not caught -/
section HYX
variable {p : Program} {l : Launch} {e : Env} {R : Room} {s : State} {m : MethodId} {args : Array Value} {below : List Frame} {meth : Method} {c : Code} {H : Heap} {locs : List Loc} {cells slots : Nat} {Q : State → Prop}
variable {own : String} {cc : ByteArray} {nL : Nat} {ret : Option FieldType} {hh : List (Nat × Nat × Nat × Nat)} {G : hy_G} {A : Nat → Prop} {ad0 ad : Nat → Nat} {n0 : Nat} {w0 w w' : hy_W} {pc : Nat} {ls : Array Slot} {rest : List Value} {k a : Nat}
/-- looking at one row that names a class: the class is linked; does it take the object? -/
theorem hy_row {S : State} {f : JFrame} {x : ExceptionTableEntry} {xs : List ExceptionTableEntry} {cT : ClassId} {ce : Cell} (hx : covers x f.pc = true) (h0 : x.catchType ≠ 0) (hl : S.vm.ClassLinks e.platform f.method.cls x.catchType cT) (hce : S.heap[a]? = some ce) (hv : ce.vm = .none)
    (hk : ∃ k, S.vm.classes[ce.cls]? = some k) (hT : ∃ k, S.vm.classes[cT]? = some k) (E : CtlPost) (K : Handler → Pre) (d : Bool) (acts : List Action) :
    wp (findHandler.go f a (x :: xs)) K E e d acts S ↔ (if S.vm.assignable ce.cls cT = true then K (.found x.handlerPc) d acts (S.setVm (S.vm.noted f.method.cls x.catchType (.cls cT))) else wp (findHandler.go f a xs) K E e d acts (S.setVm (S.vm.noted f.method.cls x.catchType (.cls cT)))) := by
  simp only [covers] at hx
  have hal : S.vm.Alike (S.vm.noted f.method.cls x.catchType (.cls cT)) := (Vm.Alike.refl S.vm).noted _ _ _
  obtain ⟨r1, r2⟩ := (resolveClass_links e.toSetting hl).op (op := VmOp.resolveClass f.method.cls x.catchType) rfl
  obtain ⟨_, hk⟩ := hk
  obtain ⟨_, hT⟩ := hT
  obtain ⟨_, hk', -⟩ := hal.2.2 _ _ hk
  obtain ⟨_, hT', -⟩ := hal.2.2 _ _ hT
  have ho : ∀ k, ce.vm ≠ .statics k := fun k h => by rw [hv] at h; cases h
  by_cases hf : S.vm.assignable ce.cls cT = true
  · have hf' : (S.vm.noted f.method.cls x.catchType (.cls cT)).assignable ce.cls cT = true := by rw [hal.assignable]; exact hf
    simp [findHandler.go, hx, h0, r1, r2, hce, ho, hk', hT', hf, hf', VmOp.dirties, VmOp.acts]
  · have hf' : (S.vm.noted f.method.cls x.catchType (.cls cT)).assignable ce.cls cT = false := by rw [hal.assignable]; exact Bool.eq_false_iff.mpr hf
    simp [findHandler.go, hx, h0, r1, r2, hce, ho, hk', hT', hf, hf', VmOp.dirties, VmOp.acts]
/-- the search ends at a row: the walk goes on at its handler -/
theorem hy_into {T : State} {g : JFrame} {q : Addr} {hp : Nat} {vm1 : Vm} (X : Stand p l e R s m args below meth c T locs cells slots) (hg : g.method = m) (hW : s.WarmedH vm1)
    (hf : ∀ (K : Handler → Pre) (E : CtlPost) (d : Bool) (acts : List Action), wp (findHandler.go g q c.exceptionTable.toList) K E e d acts ((T.setTop g).pushFrame (.throwing q)) ↔ K (.found hp) d acts (((T.setTop g).pushFrame (.throwing q)).setVm vm1)) {target : State}
    (hrest : Steps p.tables e below ((T.setVm vm1).setTop { g with pc := hp, stack := [.ref q] }) target) : Steps p.tables e below ((T.setTop g).pushFrame (.throwing q)) target := by
  have h : At T g.method c below := by rw [hg]; exact X.here
  obtain ⟨hgo, hw⟩ := h.throwing q
  have hm' : ((T.setTop g).pushFrame (.throwing q)).vm.method? g.method = some meth := by rw [hg]; exact X.method'
  refine Steps.head hgo hw ?_
  obtain ⟨g0, hg0⟩ := Option.isSome_iff_exists.mp h.top
  obtain ⟨r, hr⟩ := State.topJava?_eq_some.mp hg0
  have hst : (stepThrowing e ((T.setTop g).pushFrame (.throwing q)) q (.java g :: T.frames.tail)).Is ((((T.setTop g).pushFrame (.throwing q)).setVm vm1).setFrames (.java { g with pc := hp, stack := [.ref q] } :: T.frames.tail)) [] := by
    simp only [stepThrowing, searchFrame, vmDo]
    generalize hres : Sem.go _ e false [] ((T.setTop g).pushFrame (.throwing q)) = res
    obtain ⟨as, rfl, ha⟩ := Sem.eq_ok_of hres (a := Handler.found hp) (s' := ((T.setTop g).pushFrame (.throwing q)).setVm vm1) (acts' := []) (by simp [Jvm.W.findHandler_eq hm' X.code, hf _ _ _ _])
    exact ⟨rfl, ha⟩
  rw [stepThread_throwing (frames_entered h.top _), hst.1]
  have hr' : (T.setVm vm1).frames = .java g0 :: r := hr
  have e1 : ∀ (u : State) (F F' : List Frame), ((u.setFrames F).setVm vm1).setFrames F' = (u.setVm vm1).setFrames F' := fun u F F' => by
    have z : (u.setFrames F).setVm vm1 = (u.setVm vm1).setFrames F := rfl
    rw [z, State.setFrames_setFrames]
  rw [State.setTop_of_frames _ hr'] at hrest
  rw [hr, List.tail_cons, State.pushFrame, e1, State.setTop_of_frames _ hr, e1]
  exact hrest
theorem hy_tab1 {x1 x2 x3 x4 : Nat} {L : List (Nat × Nat × Nat × Nat)} {es : List ExceptionTableEntry} (h : es.map (fun h => (h.startPc, h.endPc, h.handlerPc, h.catchType)) = (x1, x2, x3, x4) :: L) : ∃ ts, es = ⟨x1, x2, x3, x4⟩ :: ts ∧ ts.map (fun h => (h.startPc, h.endPc, h.handlerPc, h.catchType)) = L := by
  cases es with
  | nil => cases h
  | cons y ys =>
    rw [List.map_cons] at h
    obtain ⟨h1, h2⟩ := List.cons.inj h
    cases h1
    exact ⟨ys, rfl, h2⟩
/-- the first row takes it -/
theorem hy_catch1 {x1 x2 x3 x4 : Nat} {L : List (Nat × Nat × Nat × Nat)} (B : hy_B p l e R s m args below meth c own cc nL ret ((x1, x2, x3, x4) :: L) G A) {E name : String} {ce : Cell} {q : Addr} (h1 : x1 ≤ pc) (h2 : pc < x2) (h0 : x4 ≠ 0) (hlink : Cond.classLink own x4 name ∈ hy_T) (hcast : Cond.castable E name ∈ hy_LN) (hcell : H[q]? = some ce) (hv : ce.vm = .none) (hcl : s.vm.findClass E = some ce.cls)
    (kk : W p l e R s m args below meth c H locs cells slots Q (F0 m x3 ls [.ref q])) : hy_WT p l e R s m args below meth c H locs cells slots Q (F0 m pc ls rest) q := by
  intro T hT X
  have hpl : e.platform.magicAccessors = ({} : Platform).magicAccessors := by rw [X.admits.platform]
  obtain ⟨ts, hts, -⟩ := hy_tab1 B.2.2.2.2.2.2.2.1
  obtain ⟨c3, c4, hc3, hc4, hasg⟩ := Cond.castable_spec (va_Nw.use (A := args) rfl (B.2.2.2.2.2.2.2.2.2.1.2.1 _ hcast))
  cases hc3.symm.trans hcl
  obtain ⟨c5, hc5, hcl5⟩ := Cond.classLink_spec B.2.2.2.1 (B.2.2.2.2.1 _ hlink) e.platform hpl
  cases hc4.symm.trans hc5
  obtain ⟨dk, _, _, kt, hd, _, _, _, _, hkt, _, hopen⟩ := hcl5.here
  obtain ⟨k9, hk9, -⟩ := Vm.findClass_spec hcl
  obtain ⟨k9', hk9', -⟩ := X.warmed.alike.2.2 _ _ hk9
  obtain ⟨kt', hkt', -⟩ := X.warmed.alike.2.2 _ _ hkt
  have hW' : s.WarmedH (T.vm.noted m.cls x4 (.cls c4)) := X.warmed.noted hd hopen (State.rightAt_cls hcl5)
  obtain ⟨t, b1, b2⟩ := kk (T.setVm (T.vm.noted m.cls x4 (.cls c4))) hT (X.noted hW')
  refine ⟨t, hy_into X rfl hW' (fun K E9 d acts => ?_) b1, b2⟩
  rw [hts]
  have hvm : ((T.setTop (F0 m pc ls rest)).pushFrame (.throwing q)).vm = T.vm := Stand.throwing_vm T _ q
  have hhp : ((T.setTop (F0 m pc ls rest)).pushFrame (.throwing q)).heap = T.heap := Stand.throwing_heap T _ q
  rw [hy_row (x := ⟨x1, x2, x3, x4⟩) (cT := c4) (ce := ce) (by simp [covers, h1, h2]) h0 (by rw [hvm]; exact X.warmed.classLinks hcl5) (by rw [hhp, hT]; exact hcell) hv (by rw [hvm]; exact ⟨k9', hk9'⟩) (by rw [hvm]; exact ⟨kt', hkt'⟩), hvm, if_pos (by rw [X.warmed.alike.assignable]; exact hasg)]
/-- the first row names another class, the second takes it -/
theorem hy_catch2 {x1 x2 x3 x4 z1 z2 z3 z4 : Nat} {L : List (Nat × Nat × Nat × Nat)} (B : hy_B p l e R s m args below meth c own cc nL ret ((x1, x2, x3, x4) :: (z1, z2, z3, z4) :: L) G A) {E name nam0 : String} {ce : Cell} {q : Addr} (g1 : x1 ≤ pc) (g2 : pc < x2) (g0 : x4 ≠ 0) (hlink0 : Cond.classLink own x4 nam0 ∈ hy_T) (hno : va_Nc E nam0 s)
    (h1 : z1 ≤ pc) (h2 : pc < z2) (h0 : z4 ≠ 0) (hlink : Cond.classLink own z4 name ∈ hy_T) (hcast : Cond.castable E name ∈ hy_LN) (hcell : H[q]? = some ce) (hv : ce.vm = .none) (hcl : s.vm.findClass E = some ce.cls)
    (kk : W p l e R s m args below meth c H locs cells slots Q (F0 m z3 ls [.ref q])) : hy_WT p l e R s m args below meth c H locs cells slots Q (F0 m pc ls rest) q := by
  intro T hT X
  have hpl : e.platform.magicAccessors = ({} : Platform).magicAccessors := by rw [X.admits.platform]
  obtain ⟨ts, hts, htl⟩ := hy_tab1 B.2.2.2.2.2.2.2.1
  obtain ⟨us, hus, -⟩ := hy_tab1 htl
  obtain ⟨c3, c4, hc3, hc4, hasg⟩ := Cond.castable_spec (va_Nw.use (A := args) rfl (B.2.2.2.2.2.2.2.2.2.1.2.1 _ hcast))
  cases hc3.symm.trans hcl
  obtain ⟨n1, n2, hn1, hn2, hn3⟩ := hno
  cases hn1.symm.trans hcl
  obtain ⟨c5, hc5, hcl5⟩ := Cond.classLink_spec B.2.2.2.1 (B.2.2.2.2.1 _ hlink) e.platform hpl
  cases hc4.symm.trans hc5
  obtain ⟨c6, hc6, hcl6⟩ := Cond.classLink_spec B.2.2.2.1 (B.2.2.2.2.1 _ hlink0) e.platform hpl
  cases hn2.symm.trans hc6
  obtain ⟨dk, _, _, kt, hd, _, _, _, _, hkt, _, hopen⟩ := hcl5.here
  obtain ⟨dk6, _, _, kt6, hd6, _, _, _, _, hkt6, _, hopen6⟩ := hcl6.here
  obtain ⟨k9, hk9, -⟩ := Vm.findClass_spec hcl
  have hW1 : s.WarmedH (T.vm.noted m.cls x4 (.cls n2)) := X.warmed.noted hd6 hopen6 (State.rightAt_cls hcl6)
  have hW2 : s.WarmedH ((T.vm.noted m.cls x4 (.cls n2)).noted m.cls z4 (.cls c4)) := hW1.noted hd hopen (State.rightAt_cls hcl5)
  obtain ⟨k9', hk9', -⟩ := X.warmed.alike.2.2 _ _ hk9
  obtain ⟨kt6', hkt6', -⟩ := X.warmed.alike.2.2 _ _ hkt6
  obtain ⟨k9b, hk9b, -⟩ := hW1.alike.2.2 _ _ hk9
  obtain ⟨ktb, hktb, -⟩ := hW1.alike.2.2 _ _ hkt
  obtain ⟨t, b1, b2⟩ := kk (T.setVm ((T.vm.noted m.cls x4 (.cls n2)).noted m.cls z4 (.cls c4))) hT (X.noted hW2)
  refine ⟨t, hy_into X rfl hW2 (fun K E9 d acts => ?_) b1, b2⟩
  rw [hts, hus]
  have hvm : ((T.setTop (F0 m pc ls rest)).pushFrame (.throwing q)).vm = T.vm := Stand.throwing_vm T _ q
  have hhp : ((T.setTop (F0 m pc ls rest)).pushFrame (.throwing q)).heap = T.heap := Stand.throwing_heap T _ q
  rw [hy_row (x := ⟨x1, x2, x3, x4⟩) (cT := n2) (ce := ce) (by simp [covers, g1, g2]) g0 (by rw [hvm]; exact X.warmed.classLinks hcl6) (by rw [hhp, hT]; exact hcell) hv (by rw [hvm]; exact ⟨k9', hk9'⟩) (by rw [hvm]; exact ⟨kt6', hkt6'⟩), hvm, if_neg (by rw [X.warmed.alike.assignable, hn3]; decide)]
  exact hy_row (S := ((T.setTop (F0 m pc ls rest)).pushFrame (.throwing q)).setVm (T.vm.noted m.cls x4 (.cls n2))) (x := ⟨z1, z2, z3, z4⟩) (cT := c4) (ce := ce) (by simp [covers, h1, h2]) h0 (hW1.classLinks hcl5) (by show ((T.setTop (F0 m pc ls rest)).pushFrame (.throwing q)).heap[q]? = _; rw [hhp, hT]; exact hcell) hv ⟨k9b, hk9b⟩ ⟨ktb, hktb⟩ E9 K d acts |>.trans (by
    have hz : (((T.setTop (F0 m pc ls rest)).pushFrame (.throwing q)).setVm (T.vm.noted m.cls x4 (.cls n2))).vm.assignable ce.cls c4 = true := by
      show (T.vm.noted m.cls x4 (.cls n2)).assignable ce.cls c4 = true
      rw [hW1.alike.assignable]; exact hasg
    rw [if_pos hz]
    exact Iff.rfl)
/-- not caught here: it goes on to the caller -/
theorem hy_out {fr lo : Nat} {E : String} {ce : Cell} {q : Addr} (hA : hy_A G ad0 w0 s.heap.size = A) (B : hy_B p l e (hy_rm fr lo w0) s m args below meth c own cc nL ret [] G A) (S : hy_S G A (hy_rm fr lo w0) s ad0 w0.1.length ad w H locs cells slots) (hcell : H[q]? = some ce) (hv : ce.vm = .none) (hcl : s.vm.findClass E = some ce.cls) :
    hy_WT p l e (hy_rm fr lo w0) s m args below meth c H locs cells slots (hy_Q below G ad0 w0 (.inr E, w) args s) (F0 m pc ls rest) q := by
  intro T hT X
  have hout : c.exceptionTable.toList = [] := List.map_eq_nil_iff.mp B.2.2.2.2.2.2.2.1
  obtain ⟨z1, z2, z3, z4, z5⟩ := X.leaveThrown q (g := F0 m pc ls rest) rfl rfl rfl (by rw [hout]; intro x hx; cases hx) B.2.2.2.2.2.2.1
  have hh9 : (T.setFrames (.throwing q :: below)).heap = H := hT
  refine ⟨_, z1, .threw q, z2, z3, ad, locs, cells, slots, S.2.2.1, S.2.2.2.1, ?_, ?_, z4, z5, ?_, S.2.2.2.2.1, S.2.2.2.2.2, q, ce, rfl, by rw [hh9]; exact hcell, hv, hcl⟩
  · rw [hA, hh9]; exact S.1
  · rw [hA]; exact S.2.1.F hh9
  · rw [hA]; exact S.2.1.2.2
end HYX
