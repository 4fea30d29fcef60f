/-! ROWS: throwing, being thrown at, catching -/
section HYT
variable {p : Program} {l : Launch} {e : Env} {R : Room} {s : State} {m : MethodId} {args : Array Value} {below : List Frame} {meth : Method} {c : Code} {H : Heap} {locs : List Loc} {cells slots : Nat} {Q : State → Prop}
variable {own : String} {cc : ByteArray} {nL : Nat} {ret : Option FieldType} {hh : List (Nat × Nat × Nat × Nat)} {G : hy_G} {A : Nat → Prop} {ad0 ad : Nat → Nat} {n0 : Nat} {w0 w w' : hy_W} {pc : Nat} {ls : Array Slot} {rest : List Value} {k a : Nat}
theorem hy_same0 {t : State} {k' n' : Nat} (h : s.sameButNew t [] k' n') : s.heap.size ≤ t.heap.size ∧ ∀ q : Nat, q < s.heap.size → t.heap[q]? = s.heap[q]? := by
  obtain ⟨-, h1, -, -, -, h5⟩ := h
  refine ⟨h1, fun q hq => ?_⟩
  have e0 : s.heap[q]? = some s.heap[q] := Array.getElem?_eq_getElem hq
  obtain ⟨c', e1, e2, e3, e4⟩ := h5 q _ e0
  have hs : c'.slots = s.heap[q].slots := Array.ext_getElem? fun i => e4 i (by simp)
  rw [e1, e0, e2, hs]
/-- a throw from a frame that has done nothing yet -/
theorem hy_throw0 (hx : p.tables.exec = Jvm.exec) (hb : c.code = cc) (htr : e.platform.stackTraces = false) (hown : s.vm.findClass own = some m.cls) {cls text : String} {names : List String} {ik is ic sa : Nat} (hcls : Bundle.fit cls = true) (hnames : ∀ n ∈ names, Bundle.fit n = true)
    (hk : (Cond.classLink own ik cls).before args s = true) (hini : (Cond.initialized cls).before args s = true) (hstr : vk_R own is text sa s) (hat : ∀ w ∈ Bundle.ownAtoms own ic cls names, w.before args s = true) (hsz : ls.size = c.maxLocals) (hout : c.exceptionTable.toList = [])
    (d0 : decode cc pc = .ok (.new ik, 3)) (d3 : decode cc (pc + 3) = .ok (.dup, 1)) (d4 : decode cc (pc + 4) = .ok (.ldc is, 2)) (d6 : decode cc (pc + 6) = .ok (.invokespecial ic, 3)) (d9 : decode cc (pc + 9) = .ok (.athrow, 1))
    (hfr : names.length + 3 < R.frames) (hlo : (rest.map fun v => v.category).sum + (13 * (names.length + 1) + 43) ≤ R.locals) (hc : 1 ≤ R.cells) (hs : 6 ≤ R.slots) (hlocks : meth.locks = false) :
    W p l e R s m args below meth c s.heap [] 0 0 (fun U => ∃ (a : Addr) (ce : Cell), U.status = .running ∧ Ended U below (.threw a) ∧ s.WarmedH U.vm ∧ s.sameButNew ({ U with vm := s.vm } : State) [] 1 6 ∧ U.heap[a]? = some ce ∧ ce.vm = .none ∧ s.vm.findClass cls = some ce.cls) (F0 m pc ls rest) := by
  refine W.newc hx hb hown hk (hat (.instantiable cls 6) (by simp [Bundle.ownAtoms])) hini rfl d0 (by omega) (by omega) (fun cX kX h1 h2 h3 h4 => ?_)
  refine lv_dup hx hb d3 rfl ?_
  refine va_ldcS hx hb hown hstr d4 ?_
  intro T hT X
  obtain ⟨U, q1, q2, q3, q4, q5, ce, q6, q7⟩ := X.ctorThrowS hx htr (own := own) (cls := cls) (names := names) (ic := ic) hown hcls hnames hat (fun x hx => nomatch hx) h1 h2 (a := s.heap.size) (by rw [hT]; exact Array.getElem?_push_size) (Nat.le_refl _) (msg := .ref sa) rfl
    (g := F0 m (pc + 6) ls (.ref sa :: .ref s.heap.size :: .ref s.heap.size :: rest)) rfl hsz rfl rfl (rest := rest) rfl (by rw [hb]; exact d6) (by rw [hb]; exact d9) (by rw [hout]; intro x hx; cases hx) hfr (by show 2 * 0 + ((Value.ref s.heap.size :: rest).map fun v => v.category).sum + _ ≤ _; rw [List.map_cons, List.sum_cons]; show 2 * 0 + (1 + _) + _ ≤ _; omega) hlocks
  exact ⟨U, q1, _, ce, q2, q3, q4, q5, q6, q7.vm, q7.cls⟩
theorem hy_th_spec (h : hy_th w = some w') : 1 ≤ w.2.1 ∧ 6 ≤ w.2.2 ∧ w' = (w.1, w.2.1 - 1, w.2.2 - 6) := by
  unfold hy_th at h
  split at h
  · rename_i hc
    exact ⟨hc.1, hc.2, (Option.some.inj h).symm⟩
  · cases h
theorem hy_L.kept {H1 : Heap} (h : hy_L G ad A w H) (hq : ∀ q : Nat, q < H.size → H1[q]? = H[q]?) {x : Nat × Nat} : hy_L G ad A (w.1, x) H1 :=
  ⟨h.1.kept (fun k q hk => hq q.1 (h.1 k q hk).lt), h.2⟩
/-- 'throw new E("text")' -/
theorem hy_throw {fr lo : Nat} (hA : hy_A G ad0 w0 s.heap.size = A) (B : hy_B p l e (hy_rm fr lo w0) s m args below meth c own cc nL ret [] G A) (S : hy_S G A (hy_rm fr lo w0) s ad0 w0.1.length ad w H locs cells slots) (hx : hy_th w = some w') {cls text : String} {names : List String} {ik is ic : Nat} (hcls : Bundle.fit cls = true) (hnames : ∀ n ∈ names, Bundle.fit n = true)
    (hk : Cond.classLink own ik cls ∈ hy_T) (hini : Cond.initialized cls ∈ hy_T) (hstr : (own, is, text) ∈ hy_LS) (hat : ∀ w ∈ Bundle.ownAtoms own ic cls names, w ∈ hy_T ∨ w ∈ hy_LN ∨ w ∈ hy_LX) (hsz : ls.size = nL)
    (d0 : decode cc pc = .ok (.new ik, 3)) (d3 : decode cc (pc + 3) = .ok (.dup, 1)) (d4 : decode cc (pc + 4) = .ok (.ldc is, 2)) (d6 : decode cc (pc + 6) = .ok (.invokespecial ic, 3)) (d9 : decode cc (pc + 9) = .ok (.athrow, 1))
    (hfr : names.length + 3 < fr) (hlo : (rest.map fun v => v.category).sum + (13 * (names.length + 1) + 43) ≤ lo) :
    W p l e (hy_rm fr lo w0) s m args below meth c H locs cells slots (hy_Q below G ad0 w0 (.inr cls, w') args s) (F0 m pc ls rest) := by
  intro T hT X
  obtain ⟨x1, x2, rfl⟩ := hy_th_spec hx
  have k1 := S.2.2.2.2.1
  have k2 := S.2.2.2.2.2
  have Y := hy_anew X (c' := 1) (n' := 6) (by show cells + 1 ≤ w0.2.1; have : cells + w.2.1 = w0.2.1 := k1; omega) (by show slots + 6 ≤ w0.2.2; have : slots + w.2.2 = w0.2.2 := k2; omega)
  have hE := B.2.2.2.2.2.2.2.2.2.1
  generalize hs1 : (T.setVm s.vm).setFrames (.invoking m args :: below) = s1 at Y
  have hvm : s1.vm = s.vm := by rw [← hs1]; rfl
  have hhp : s1.heap = H := by rw [← hs1]; exact hT
  have hW : s.WarmedH s1.vm := by rw [hvm]; exact State.WarmedH.refl s
  have hw9 := hy_word (a' := args) hW B.2.2.2.2.1
  obtain ⟨sa, hsa⟩ := hE.2.2.1 _ hstr
  have hout : c.exceptionTable.toList = [] := List.map_eq_nil_iff.mp B.2.2.2.2.2.2.2.1
  have hat' : ∀ w ∈ Bundle.ownAtoms own ic cls names, w.before args s1 = true := by
    intro w9 hw
    rcases hat w9 hw with h | h | h
    · exact hw9 _ h
    · exact va_Nw.use (hy_LN_on _ h) (hy_LN_warm _ h s s1 hW (hE.2.1 _ h))
    · exact hE.2.2.2.2.2.2.2.2 args s1 hW (fun q a b => by rw [hhp]; exact S.2.1.2.1 q a b) w9 h
  have key := hy_throw0 (p := p) (l := l) (e := e) (R := { frames := fr, locals := lo, cells := 1, slots := 6 }) (s := s1) (m := m) (args := args) (below := below) (meth := meth) (ls := ls) (rest := rest) B.1 B.2.1 B.2.2.2.2.2.2.2.2.2.2 (by rw [hvm]; exact B.2.2.2.1) hcls hnames (hw9 _ hk) (hw9 _ hini) (vk_R.warm hW hsa) hat' (by rw [B.2.2.1]; exact hsz) hout d0 d3 d4 d6 d9 hfr hlo (Nat.le_refl _) (Nat.le_refl _) B.2.2.2.2.2.2.1
  obtain ⟨U, q0, a9, ce, q1, q2, q3, q4, q5, q6, q7⟩ := key T (by rw [hhp]; exact hT) Y
  have hW2 : s.WarmedH U.vm := State.WarmedH.trans hW q3
  have hsm : (T.setVm s.vm).sameButNew ({ U with vm := s.vm } : State) [] 1 6 := by
    rw [← hs1] at q4
    obtain ⟨e1, e2⟩ := q4
    rw [State.setFrames_setFrames] at e1
    exact ⟨e1, e2⟩
  obtain ⟨g1, g2⟩ := hy_same0 hsm
  have g1' : H.size ≤ U.heap.size := by rw [← hT]; exact g1
  have g2' : ∀ q : Nat, q < H.size → U.heap[q]? = H[q]? := by rw [← hT]; exact g2
  have hall := X.same.trans hsm
  rw [List.append_nil] at hall
  refine ⟨U, q0, .threw a9, q1, q2, ad, locs, cells + 1, slots + 6, S.2.2.1, S.2.2.2.1, ?_, ?_, hW2, hall, ?_, ?_, ?_, a9, ce, rfl, q5, q6, by rw [← hvm]; exact q7⟩
  · rw [hA]; exact S.1.kept g2'
  · rw [hA]
    exact ⟨Nat.le_trans S.2.1.1 g1', fun q h1 h2 => (g2' q (Nat.lt_of_lt_of_le h1 S.2.1.1)).trans (S.2.1.2.1 q h1 h2)⟩
  · rw [hA]; exact S.2.1.2.2
  · show cells + 1 + (w.2.1 - 1) = w0.2.1
    have : cells + w.2.1 = w0.2.1 := k1
    omega
  · show slots + 6 + (w.2.2 - 6) = w0.2.2
    have : slots + w.2.2 = w0.2.2 := k2
    omega
/-- the method's frame g, with q thrown over it -/
def hy_WT (p : Program) (l : Launch) (e : Env) (R : Room) (s : State) (m : MethodId) (args : Array Value) (below : List Frame) (meth : Method) (c : Code) (H : Heap) (locs : List Loc) (cells slots : Nat) (Q : State → Prop) (g : JFrame) (q : Addr) : Prop :=
  ∀ T : State, T.heap = H → Stand p l e R s m args below meth c T locs cells slots → ∃ t, Steps p.tables e below ((T.setTop g).pushFrame (.throwing q)) t ∧ Q t
variable {y : MethodName} {bytes : ByteArray} {maxL fr lo index n : Nat} {rt : Option FieldType} {av : List Value} {E : String}
/-- a call of an instance method that throws -/
theorem hy_callT (B : hy_B p l e R s m args below meth c own cc nL ret hh G A) (S : hy_S G A R s ad0 n0 ad w H locs cells slots) {r b : Nat} {av' As : List Value} (hav' : av = .ref r :: av') (hb : ad r = b) (hAs : av'.map (hy_v ad) = As) (hM : hy_M l y (Cond.code y bytes maxL rt :: hy_T) fr lo G ad av w (.inr E, w')) (hav : ∀ v ∈ av, hy_cv w.1.length v) (hcode : Cond.code y bytes maxL rt ∈ hy_T) (hini : Cond.initialized y.cls ∈ hy_T) (hlink : Cond.methodLink own index y ∈ hy_T) (hinst : Cond.instanceMethod y ∈ hy_T) (hsel : Cond.selects y.cls y y ∈ hy_T)
    (hy : y.cls ≠ "java/lang/invoke/MethodHandle" ∧ y.cls ≠ "java/lang/invoke/VarHandle") (hd : (parseMethodDescriptor y.desc).map (fun d => d.parameters.length) = some As.length) (hfr : fr + 1 ≤ R.frames) (hlo : 8 + (maxL + 11) + lo ≤ R.locals) {ci : Nat} {fs : List Value} (hr : w.1[r]? = some (.inl (ci, fs))) (hr1 : 1 < r) {T9 : u_T} {N9 : Nat} (hc : hy_K[ci]? = some (y.cls, T9, N9)) (hsz : ls.size = nL) (hst : (rest.map fun v => v.category).sum ≤ 8) (hdg : decode cc pc = .ok (.invokevirtual index, 3))
    (kk : ∀ (ad1 : Nat → Nat) (H1 : Heap) (locs1 : List Loc) (cells1 slots1 : Nat) (q : Addr) (ce : Cell), (∀ j, j < w.1.length → ad1 j = ad j) → w.1.length ≤ w'.1.length → hy_S G A R s ad0 n0 ad1 w' H1 locs1 cells1 slots1 → H1[q]? = some ce → ce.vm = .none → s.vm.findClass E = some ce.cls → hy_WT p l e R s m args below meth c H1 locs1 cells1 slots1 Q (F0 m pc ls rest) q) :
    W p l e R s m args below meth c H locs cells slots Q (F0 m pc ls (As.reverse ++ .ref b :: rest)) := by
  intro T hT X
  obtain ⟨q, -, hq⟩ := hy_place (G := G) (ad := ad) hr1 hr
  obtain ⟨cellB, g1, g2, g3⟩ := va_recv (q := (y.cls, T9, N9)) B.2.2.2.2.2.2.2.2.2.1.1 S.1.1 hc hq
  subst hb hAs hav'
  have hts := B.2.2.2.2.1
  obtain ⟨mk, methM, hnamed, hmethM, hstM, habM⟩ := Cond.instanceMethod_spec (hts _ hinst)
  obtain ⟨methM', cM, hmethM', hcM, -, hlM, -, -, -, hsigM⟩ := Cond.code_spec hnamed (hts _ hcode)
  cases hmethM.symm.trans hmethM'
  obtain ⟨c2, r2, m2, q1, q2, q3, q4, kP, hkP, hkPi⟩ := Cond.selects_spec (hts _ hsel)
  cases g3.symm.trans q1
  cases (State.methodFound?_of_named hnamed hy).symm.trans q2
  cases hnamed.symm.trans q3
  have hselP : selectMethod e.platform s.vm cellB.cls mk = .method mk := by rw [Launch.admits_selectMethod X.admits]; exact q4
  obtain ⟨vm1, X1, hstep1⟩ := X.invokevirtual B.1 B.2.2.2.1 (hts _ hlink) hnamed hmethM hstM hkP hkPi hy (a := ad r) (cell := cellB) (by rw [hT]; exact g1)
    (fun z h => by rw [h] at g2; cases g2) hselP hmethM habM hkP hkPi (g := F0 m pc ls ((av'.map (hy_v ad)).reverse ++ .ref (ad r) :: rest)) rfl (argsL := av'.map (hy_v ad)) (rest := rest) (by rw [hsigM] at hd; exact (Option.some.inj hd).symm) rfl (by rw [B.2.1]; exact hdg)
  -- the callee, at the point behind the linking
  generalize hU : T.setVm vm1 = U at X1
  have hUh : U.heap = H := by rw [← hU]; exact hT
  generalize hg : (F0 m pc ls rest : JFrame) = g
  have hgm : g.method = m := by rw [← hg]
  have hgl : g.locals.size = c.maxLocals := by rw [← hg, B.2.2.1]; exact hsz
  have hnU := X1.named hnamed
  have hw9 : ∀ (a' : Array Value), ∀ w ∈ hy_T, w.before a' U = true := fun a' => hy_word (a' := a') X1.warmed hts
  generalize ha : (Value.ref (ad r) :: av'.map (hy_v ad)).toArray = a'
  obtain ⟨methY, cY, hmY, hcY, -, hlY, -, -, -, -⟩ := Cond.code_spec hnU (hw9 a' _ hcode)
  obtain ⟨kY, hkY, -⟩ := className_of_methodNamed hnU
  have hinitY : kY.init = .initialized := Cond.initialized_spec (findClass_of_methodNamed hnU) hkY (hw9 a' _ hini)
  have h : At U g.method c below := by rw [hgm]; exact X1.here
  have hdg' : decode c.code g.pc = .ok (.invokevirtual index, 3) := by rw [B.2.1, ← hg]; exact hdg
  have hroom := X1.room_calling (g := g) (m' := mk) (args' := a') (R' := hy_rm fr lo w) hgl hmY hcY hfr (by rw [hlY, ← hg]; show 2 * 0 + (rest.map fun v => v.category).sum + _ + lo ≤ _; omega) (by show cells + w.2.1 ≤ _; have := S.2.2.2.2.1; omega) (by show slots + w.2.2 ≤ _; have := S.2.2.2.2.2; omega)
  have happ : (headSpec (Cond.code y bytes maxL rt :: hy_T) (hy_rm fr lo w)).appliesLoose y e.platform (U.calling g mk a') = true :=
    Spec.appliesLoose_calling (g := g) h hdg' hnU hkY hinitY hroom (atoms_intro fun w9 hw => by
      rcases List.mem_cons.mp hw with z | z
      · rw [z]; exact hw9 a' _ hcode
      · exact hw9 a' _ z)
  obtain ⟨mid, hmid⟩ := h.above
  have hfr2 : (U.setTop g).frames = (.java g :: mid) ++ below := by rw [State.frames_setTop' g h.top, hmid]; rfl
  obtain ⟨o, s2, hsteps, -, hend, hq2⟩ := Steps.callFree hM p X1.admits X1.cas X1.clock (acts := []) hfr2 happ (hy_pre_now B S hav (U := U.calling g mk a') hUh X1.warmed ha.symm) trivial
  have hq3 : hy_post G ad (.ref r :: av' |> fun _ => w) (.inr E, w') a' (U.calling g mk a') o s2 := hq2
  rw [State.frames_setTop' g h.top] at hend
  obtain ⟨ad1, L, k', n', h1, h2, h3, h4, h5, h6, h7, h8, h9, q9, ce, rfl, z2, z3, z4⟩ := hq3
  obtain ⟨e2, y2, y3, y4, y5, y6⟩ := id h6
  have e3 : s2 = ({ (U.calling g mk a').setFrames s2.frames with heap := s2.heap, slotsUsed := s2.slotsUsed } : State).setVm s2.vm := by
    have : s2 = ({ s2 with vm := (U.calling g mk a').vm } : State).setVm s2.vm := rfl
    rw [e2] at this
    exact this
  have hW' : U.WarmedH s2.vm := h5
  have hf2 : s2.frames = .throwing q9 :: .java g :: U.frames.tail := hend
  obtain ⟨g0, hg0⟩ := Option.isSome_iff_exists.mp h.top
  obtain ⟨r0, hr0⟩ := State.topJava?_eq_some.mp hg0
  have hs2 : s2 = ((({ U with heap := s2.heap, slotsUsed := s2.slotsUsed } : State).setVm s2.vm).setTop g).pushFrame (.throwing q9) := by
    have hr' : (({ U with heap := s2.heap, slotsUsed := s2.slotsUsed } : State).setVm s2.vm).frames = .java g0 :: r0 := hr0
    refine e3.trans ?_
    rw [hf2, State.calling_eq h.top, State.setFrames_setFrames, State.pushFrame, State.frames_setTop _ hr', State.setTop_of_frames _ hr', State.setFrames_setFrames, hr0]
    rfl
  have hsame : U.sameButNew ({ U with heap := s2.heap, slotsUsed := s2.slotsUsed } : State) L k' n' := by
    refine ⟨?_, y2, y3, y4, y5, y6⟩
    obtain ⟨t, ht, -⟩ := State.frames_cons hr0
    show ({ U with heap := s2.heap, slotsUsed := s2.slotsUsed } : State) = { U.setFrames U.frames with heap := s2.heap, slotsUsed := s2.slotsUsed }
    rw [State.setFrames_self ht]
  have hS1 := hy_behind B S (st := U.calling g mk a') (t := s2) hUh h1 h2 h3 h4 h7 h8 h9
  have X2 : Stand p l e R s m args below meth c (({ U with heap := s2.heap, slotsUsed := s2.slotsUsed } : State).setVm s2.vm) (locs ++ L) (cells + k') (slots + n') :=
    ⟨X1.admits, X1.cas, X1.clock, X1.frames, X1.room, X1.hears, X1.method, X1.code, (X1.here.setHeapUsed s2.heap s2.slotsUsed).setVm hW'.alike, X1.tail, State.WarmedH.trans X1.warmed hW', X1.limits, X1.bytes, X1.same.trans (hsame.setVm s.vm)⟩
  have hcl : s.vm.findClass E = some ce.cls := by
    have : U.vm.findClass E = some ce.cls := z4
    rw [X1.warmed.alike.findClass] at this
    exact this
  obtain ⟨t, b1, b2⟩ := kk ad1 s2.heap (locs ++ L) (cells + k') (slots + n') q9 ce h1 h2 hS1 z2 z3 hcl (({ U with heap := s2.heap, slotsUsed := s2.slotsUsed } : State).setVm s2.vm) rfl X2
  refine ⟨t, hstep1 t (fun acts => ?_), b2⟩
  rw [doInvoke_state]
  have hgg : ({ (F0 m pc ls ((av'.map (hy_v ad)).reverse ++ .ref (ad r) :: rest) : JFrame) with stack := rest } : JFrame) = g := hg
  rw [hgg, hU, ha]
  refine Steps.trans hsteps ?_
  rw [hs2, ← hg]
  exact b1
end HYT
