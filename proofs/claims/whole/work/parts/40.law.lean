/-! THE LAW: calls of its own methods with handlers; its script; its points -/
section HYLW
variable {p : Program} {l : Launch} {e : Env} {R : Room} {s : State} {m : MethodId} {args : Array Value} {below : List Frame} {meth : Method} {c : Code} {H : Heap} {locs : List Loc} {cells slots : Nat} {Q : State → Prop}
variable {own : String} {cc : ByteArray} {nL : Nat} {ret : Option FieldType} {hh : List (Nat × Nat × Nat × Nat)} {G : hy_G} {A : Nat → Prop} {ad0 ad : Nat → Nat} {n0 : Nat} {w w' : hy_W} {pc : Nat} {ls : Array Slot} {rest : List Value} {k a : Nat}
variable {y : MethodName} {bytes : ByteArray} {maxL fr lo index n : Nat} {rt : Option FieldType} {av : List Value} {vo : Option Value} {g : JFrame} {h9 : List (Nat × Nat × Nat × Nat)}
theorem hy_backW (B : hy_B p l e R s m args below meth c own cc nL ret hh G A) (S : hy_S G A R s ad0 n0 ad w H locs cells slots) (hM : hy_M l y (Cond.codeWith y bytes maxL rt h9 :: hy_T) fr lo G ad av w (.inl vo, w')) (hav : ∀ v ∈ av, hy_cv w.1.length v) (hcode : Cond.codeWith y bytes maxL rt h9 ∈ hy_T) (hini : Cond.initialized y.cls ∈ hy_T) (hfr : fr + 1 ≤ R.frames) (hlo : 8 + (maxL + 11) + lo ≤ R.locals) :
    Back l R p e below s args y 3 8 (fun X a' => X.U.heap = H ∧ X.locs = locs ∧ X.cells = cells ∧ X.slots = slots ∧ a' = (av.map (hy_v ad)).toArray) (fun _ _ v X => hy_Bk G R A s ad0 n0 ad w w' H vo v X) := by
  refine va_ofFreeW (bytes := bytes) (maxL := maxL) (ret := rt) (hh := h9) (E := fun a' st oc t L k' n' => ∃ ad1 : Nat → Nat, (∀ j, j < w.1.length → ad1 j = ad j) ∧ w.1.length ≤ w'.1.length ∧ hy_L G ad1 (hy_A G ad w st.heap.size) w' t.heap ∧ va_F (hy_A G ad w st.heap.size) st t ∧ (∀ q ∈ L, hy_A G ad w st.heap.size q.base) ∧ k' + w'.2.1 = w.2.1 ∧ n' + w'.2.2 = w.2.2 ∧ oc = .returned (vo.map (hy_v ad1)) ∧ ∀ u, vo = some u → hy_cv w'.1.length u) hM hfr hlo ?_ ?_ (fun _ _ _ _ _ _ _ _ _ => trivial) ?_ ?_
  · intro m' meth' c' X a' hX hp
    obtain ⟨q1, q2, q3, q4, q5⟩ := hp
    have hw9 := hy_word (a' := a') hX.warmed B.2.2.2.2.1
    refine ⟨atoms_intro fun w9 hw => ?_, hw9 _ hcode, hw9 _ hini, ?_, ?_⟩
    · rcases List.mem_cons.mp hw with h | h
      · rw [h]; exact hw9 _ hcode
      · exact hw9 _ h
    · show X.cells + w.2.1 ≤ _
      have := S.2.2.2.2.1; omega
    · show X.slots + w.2.2 ≤ _
      have := S.2.2.2.2.2; omega
  · intro m' meth' c' X a' g' mk hX hp
    exact hy_pre_now B S hav (U := X.U.calling g' mk a') hp.1 hX.warmed hp.2.2.2.2
  · intro a' st oc t h
    obtain ⟨ad1, L, k', n', h1, h2, h3, h4, h5, h6, h7, h8, h9, h10⟩ := h
    exact ⟨L, k', n', ⟨⟨_, h10.1⟩, h5, h6⟩, ad1, h1, h2, h3, h4, h7, h8, h9, h10.1, h10.2⟩
  · intro m' meth' c' X a' g' mk v t L k' n' hX hp hq hF hE
    obtain ⟨ad1, h1, h2, h3, h4, h5, h6, h7, h8, h9⟩ := hE
    obtain ⟨q1, q2, q3, q4, q5⟩ := hp
    refine ⟨ad1, h1, h2, ?_, Outcome.returned.inj h8, h9⟩
    show hy_S G A R s ad0 n0 ad1 w' t.heap (X.locs ++ L) (X.cells + k') (X.slots + n')
    rw [q2, q3, q4]
    exact hy_behind B S (st := X.U.calling g' mk a') q1 h1 h2 h3 h4 h5 h6 h7
theorem hy_runSW (B : hy_B p l e R s m args below meth c own cc nL ret hh G A) (S : hy_S G A R s ad0 n0 ad w H locs cells slots) {As : List Value} (hAs : av.map (hy_v ad) = As) (hM : hy_M l y (Cond.codeWith y bytes maxL rt h9 :: hy_T) fr lo G ad av w (.inl vo, w')) (hav : ∀ v ∈ av, hy_cv w.1.length v) (hcode : Cond.codeWith y bytes maxL rt h9 ∈ hy_T) (hini : Cond.initialized y.cls ∈ hy_T) (hlink : Cond.methodLink own index y ∈ hy_T) (hstat : Cond.static y ∈ hy_T)
    (hy : y.cls ≠ "java/lang/invoke/MethodHandle" ∧ y.cls ≠ "java/lang/invoke/VarHandle") (hd : (parseMethodDescriptor y.desc).map (fun d => d.parameters.length) = some As.length) (hfr : fr + 1 ≤ R.frames) (hlo : 8 + (maxL + 11) + lo ≤ R.locals) (hsz : ls.size = nL) (hst : (rest.map fun v => v.category).sum ≤ 8) (hdg : decode cc pc = .ok (.invokestatic index, 3)) :
    hy_Run p l e R s m args below meth c H locs cells slots (F0 m pc ls (As.reverse ++ rest)) rest (hy_Bk G R A s ad0 n0 ad w w' H vo) := by
  intro T hT X
  subst hAs
  obtain ⟨mk, methM, cM, hnamed, hmethM, -, -, -, -, -, -, hsigM⟩ := Cond.codeWith_spec (B.2.2.2.2.1 _ hcode)
  have hstatic : methM.isStatic = true := Cond.static_spec hnamed hmethM (B.2.2.2.2.1 _ hstat)
  obtain ⟨kP, hkP, -⟩ := className_of_methodNamed hnamed
  have hinitP : kP.init = .initialized := Cond.initialized_spec (findClass_of_methodNamed hnamed) hkP (B.2.2.2.2.1 _ hini)
  obtain ⟨vm1, X1, hstep1⟩ := X.invokestatic B.1 B.2.2.2.1 (B.2.2.2.2.1 _ hlink) hnamed hmethM hstatic hkP hinitP hy (g := F0 m pc ls ((av.map (hy_v ad)).reverse ++ rest)) rfl (argsL := av.map (hy_v ad)) (rest := rest) (by rw [hsigM] at hd; exact (Option.some.inj hd).symm) rfl (by rw [B.2.1]; exact hdg)
  obtain ⟨v, B1, X2, hpost, hsteps⟩ := hy_backW B S hM hav hcode hini hfr hlo m meth c ⟨T.setVm vm1, locs, cells, slots⟩ (F0 m pc ls rest) (.invokestatic index) mk (av.map (hy_v ad)).toArray X1 rfl (by rw [B.2.2.1]; exact hsz) (by rw [B.2.1]; exact hdg) (by show 2 * 0 + (rest.map fun v => v.category).sum ≤ 8; omega) (X1.named hnamed) ⟨hT, rfl, rfl, rfl, rfl⟩
  exact ⟨v, B1, X2, hpost, fun target h => hstep1 _ fun acts => by rw [doInvoke_state]; exact hsteps.trans h⟩
end HYLW
/-- an int of the script -/
def hy_sc (L : Nat) (xs : Nat → Int32) (i : Int32) : Option Int32 := if hy_ix i L = true then some (xs i.toNatClampNeg) else none
theorem hy_sld {p : Program} {l : Launch} {e : Env} {R : Room} {s : State} {m : MethodId} {args : Array Value} {below : List Frame} {meth : Method} {c : Code} {H : Heap} {locs : List Loc} {cells slots : Nat} {Q : State → Prop} {cc : ByteArray} {pc : Nat} {ls : Array Slot} {rest : List Value} {G : hy_G} {A : Nat → Prop} {ad0 ad : Nat → Nat} {n0 : Nat} {w : hy_W} {b L : Nat} {xs : Nat → Int32}
    (hx : p.tables.exec = Jvm.exec) (hb : c.code = cc) (hX : va_X b L xs s s.heap) (hbl : b < s.heap.size) (hbA : ¬ A b) (S : hy_S G A R s ad0 n0 ad w H locs cells slots) {i x : Int32} (h : hy_sc L xs i = some x) (hdg : decode cc pc = .ok (.iaload, 1))
    (kk : W p l e R s m args below meth c H locs cells slots Q (F0 m (pc + 1) ls (.int x :: rest))) : W p l e R s m args below meth c H locs cells slots Q (F0 m pc ls (.int i :: .ref b :: rest)) := by
  obtain ⟨h1, h2⟩ := hy_if h
  cases h2
  exact va_sld hx hb hX hbl hbA S.2.1 (hy_ix_in h1) hdg kk
theorem hy_ne1 (w : hy_W) : ¬ (((.inl (some (.int 0)), w) : hy_O).1 = .inl (some (.int 1))) := by
  show ¬ ((Sum.inl (some (Value.int 0)) : hy_R) = .inl (some (.int 1)))
  decide
def hy_AtL (lay : Nat → List Nat) (b : Nat) (p : Program) (l : Launch) (e : Env) (R : Room) (s : State) (m : MethodId) (args : Array Value) (below : List Frame) (meth : Method) (c : Code) (nL : Nat) (G : hy_G) (A : Nat → Prop) (ad0 : Nat → Nat) (n0 : Nat) (Q : State → Prop) (q : hy_P) : Prop :=
  ∀ (ad : Nat → Nat) (H : Heap) (locs : List Loc) (cells slots : Nat) (ls : Array Slot), hy_S G A R s ad0 n0 ad q.2.2 H locs cells slots → (∀ v ∈ q.2.1, hy_cv q.2.2.1.length v) → lv_has ls nL (hy_lv ad (lay q.1) q.2.1 ++ [(0, .ref b)]) →
    W p l e R s m args below meth c H locs cells slots Q (F0 m q.1 ls (hy_sk ad (lay q.1) q.2.1))
def hy_NxL (lay : Nat → List Nat) (b : Nat) (p : Program) (l : Launch) (e : Env) (R : Room) (s : State) (m : MethodId) (args : Array Value) (below : List Frame) (meth : Method) (c : Code) (nL : Nat) (G : hy_G) (A : Nat → Prop) (ad0 : Nat → Nat) (n0 : Nat) (Q : State → Prop) (o : hy_O) (nx : hy_N) : Prop := match nx with
  | .inl q => hy_AtL lay b p l e R s m args below meth c nL G A ad0 n0 Q q
  | .inr o' => o' = o
section HYLL
variable {lay : Nat → List Nat} {b : Nat} {p : Program} {l : Launch} {e : Env} {R : Room} {s : State} {m : MethodId} {args : Array Value} {below : List Frame} {meth : Method} {c : Code} {nL : Nat} {G : hy_G} {A : Nat → Prop} {ad0 : Nat → Nat} {n0 : Nat} {Q : State → Prop}
theorem hy_loopL {f : hy_P → Option hy_N} {o : hy_O} (hs : ∀ q nx, f q = some nx → hy_NxL lay b p l e R s m args below meth c nL G A ad0 n0 Q o nx → hy_AtL lay b p l e R s m args below meth c nL G A ad0 n0 Q q) : ∀ (n : Nat) (q : hy_P), hy_it f n q = some o → hy_AtL lay b p l e R s m args below meth c nL G A ad0 n0 Q q
  | 0, q, h => by cases h
  | n + 1, q, h => by
    rw [hy_it] at h
    cases hf : f q with
    | none => rw [hf] at h; cases h
    | some nx =>
      rw [hf] at h
      refine hs q nx hf ?_
      cases nx with
      | inl q' => exact hy_loopL hs n q' h
      | inr o' => exact Option.some.inj h
theorem hy_jumpL {ad : Nat → Nat} {w : hy_W} {H : Heap} {locs : List Loc} {cells slots pc : Nat} {ls : Array Slot} {L : List Value} {lv : List (Nat × Value)} {st : List Value} (K : hy_AtL lay b p l e R s m args below meth c nL G A ad0 n0 Q (pc, L, w)) (S : hy_S G A R s ad0 n0 ad w H locs cells slots) (hok : ∀ v ∈ L, hy_cv w.1.length v) (hl : lv_has ls nL lv) (e1 : hy_lv ad (lay pc) L ++ [(0, .ref b)] = lv) (e2 : hy_sk ad (lay pc) L = st) :
    W p l e R s m args below meth c H locs cells slots Q (F0 m pc ls st) := by
  subst e1 e2
  exact K ad H locs cells slots ls S hok hl
end HYLL
theorem hy_sw14 {x : Int32} (h0 : ¬ x = (0 : Int32)) (h1 : ¬ x = (1 : Int32)) (h2 : ¬ x = (2 : Int32)) (h3 : ¬ x = (3 : Int32)) (h4 : ¬ x = (4 : Int32)) (h5 : ¬ x = (5 : Int32)) (h6 : ¬ x = (6 : Int32)) (h7 : ¬ x = (7 : Int32)) (h8 : ¬ x = (8 : Int32)) (h9 : ¬ x = (9 : Int32)) (h10 : ¬ x = (10 : Int32)) (h11 : ¬ x = (11 : Int32)) (h12 : ¬ x = (12 : Int32)) (h13 : ¬ x = (13 : Int32)) : x.toInt < 0 ∨ 13 < x.toInt := by
  have key : ∀ n : Int32, ¬ x = n → x.toInt ≠ n.toInt := fun n h e => h (Int32.toInt_inj.mp e)
  have a0 : x.toInt ≠ 0 := key 0 h0
  have a1 : x.toInt ≠ 1 := key 1 h1
  have a2 : x.toInt ≠ 2 := key 2 h2
  have a3 : x.toInt ≠ 3 := key 3 h3
  have a4 : x.toInt ≠ 4 := key 4 h4
  have a5 : x.toInt ≠ 5 := key 5 h5
  have a6 : x.toInt ≠ 6 := key 6 h6
  have a7 : x.toInt ≠ 7 := key 7 h7
  have a8 : x.toInt ≠ 8 := key 8 h8
  have a9 : x.toInt ≠ 9 := key 9 h9
  have a10 : x.toInt ≠ 10 := key 10 h10
  have a11 : x.toInt ≠ 11 := key 11 h11
  have a12 : x.toInt ≠ 12 := key 12 h12
  have a13 : x.toInt ≠ 13 := key 13 h13
  omega
def R_law : String := "HyphenPatternsLaw"
def lw_P (b : Addr) (xs : List Int32) (args : Array Value) (s : State) : Prop := args = #[.ref b] ∧ s.IntsAt b xs ∧ xs.length ≤ 3072 ∧ (Jvm.Cond.and given_1 narrow_1).before args s = true
def lw_Q (_ : Array Value) (s : State) (o : Outcome) (t : State) : Prop := o = .returned (some (.int 1)) ∧ Framed s o t [] 601024 7293034
def lw_Z (below : List Frame) (a : Array Value) (s : State) : State → Prop := fun t => ∃ o, t.status = .running ∧ Ended t below o ∧ lw_Q a s o t
/-- the law's own end, with 1 on the stack, nothing written that was there before, its room as the claim has it -/
theorem lw_ret {p : Program} {l : Launch} {e : Env} {s : State} {m : MethodId} {below : List Frame} {meth : Method} {c : Code} {b : Nat} (hx : p.tables.exec = Jvm.exec) (hb : c.code = code) (hr : meth.sig.returnType = ret) (hlocks : meth.locks = false) {pc : Nat} {H : Heap} {ls : Array Slot} (hdg : decode code pc = .ok (.ireturn, 1)) : W p l e room_1 s m #[Value.ref b] below meth c H [] 601024 7293034 (lw_Z below #[Value.ref b] s) (F0 m pc ls [.int 1]) := by
  intro T hT X
  obtain ⟨fs, hret, hrun, hended, hW, hframe⟩ := X.leave (v := some (.int 1)) (hlocks := hlocks) (fun h => by rw [hr] at h; cases h)
  have hmeth' : T.vm.method? m = some meth := X.method'
  refine ⟨T.setFrames fs, ?_, .returned (some (.int 1)), hrun, hended, rfl, ⟨_, rfl⟩, hW, hframe⟩
  jvm_step X.here [X.here.top, hx, hb, hdg, hmeth', hr, ret, narrow_b1]
  (try refine ⟨rfl, ?_⟩); (try refine ⟨rfl, ?_⟩)
  first | (intro acts; rw [hret _ acts rfl rfl rfl]) | rw [hret _ _ rfl rfl rfl]
  exact Steps.refl _
/-- what holds at the law's entry: the machine, the code, the tables' words (any of lw_tbl by 'hts w (by decide +kernel)'), the script of L ints xs at the cell b, what the Statement gives of the start (any of its parts by flat_of_before) -/
def lw_At (p : Program) (s : State) (m : MethodId) (meth : Method) (c : Code) (b L : Nat) (xs : Nat → Int32) : Prop :=
  p.tables.exec = Jvm.exec ∧ c.code = code ∧ meth.sig.returnType = ret ∧ c.maxLocals = 7 ∧ s.vm.findClass R_law = some m.cls ∧ (∀ w ∈ lw_tbl, w.before #[Value.ref b] s = true) ∧ va_X b L xs s s.heap ∧ b < s.heap.size ∧ meth.locks = false ∧ (Jvm.Cond.and given_1 narrow_1).before #[Value.ref b] s = true
