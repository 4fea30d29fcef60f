/-! THE SURROUNDINGS: what of the tables and of old cells a method needs beside the good words -/
def hy_tys (dA : Nat → ClassId) : List (ClassId × FieldType) := [(dA 0, .int), (dA 1, .long), (dA 2, .object "HyphenPatterns$Language"), (dA 3, .object "java/lang/Object")]
def hy_LN : List Cond := [(Jvm.Cond.methodLinkNest "HyphenPatterns" (29 : Nat) ({ cls := "HyphenPatterns$Draft", name := "<init>", desc := "()V" } : Jvm.MethodName) "HyphenPatterns"), (Jvm.Cond.methodLinkNest "HyphenPatterns" (36 : Nat) ({ cls := "HyphenPatterns$Reading", name := "<init>", desc := "()V" } : Jvm.MethodName) "HyphenPatterns"), (Jvm.Cond.methodLinkNest "HyphenPatterns" (45 : Nat) ({ cls := "HyphenPatterns$Language", name := "<init>", desc := "()V" } : Jvm.MethodName) "HyphenPatterns"), (Jvm.Cond.methodLinkNest "HyphenPatterns$Reading" (44 : Nat) ({ cls := "HyphenPatterns", name := "indexOfRule", desc := "(Ljava/util/ArrayList;[III)I" } : Jvm.MethodName) "HyphenPatterns"), (Jvm.Cond.castable "java/lang/IndexOutOfBoundsException" "java/lang/IndexOutOfBoundsException"), (Jvm.Cond.castable "java/lang/IllegalArgumentException" "java/lang/IllegalArgumentException"), (Jvm.Cond.castable "java/lang/IllegalStateException" "java/lang/IllegalStateException"), (Jvm.Cond.castable "[I" "java/lang/Cloneable"), (Jvm.Cond.castable "HyphenPatterns$Rule" "HyphenPatterns$Rule"), (Jvm.Cond.castable "HyphenPatterns" "java/lang/Object"), (Jvm.Cond.castable "HyphenPatterns$Numbers" "java/lang/Object"), (Jvm.Cond.castable "HyphenPatterns$Draft" "java/lang/Object"), (Jvm.Cond.castable "HyphenPatterns$Reading" "java/lang/Object"), (Jvm.Cond.castable "HyphenPatterns$Language" "java/lang/Object"), (Jvm.Cond.castable "HyphenPatternsModel" "java/lang/Object"), (Jvm.Cond.castable "HyphenPatterns$Rule" "java/lang/Object"), (Jvm.Cond.castable "java/lang/String" "java/lang/Object"), (Jvm.Cond.declares ({ cls := "java/lang/RuntimeException", name := "<init>", desc := "()V" } : Jvm.MethodName)), (Jvm.Cond.declares ({ cls := "java/lang/RuntimeException", name := "<init>", desc := "(Ljava/lang/String;)V" } : Jvm.MethodName)), (Jvm.Cond.declares ({ cls := "java/lang/Exception", name := "<init>", desc := "()V" } : Jvm.MethodName)), (Jvm.Cond.declares ({ cls := "java/lang/Exception", name := "<init>", desc := "(Ljava/lang/String;)V" } : Jvm.MethodName)), (Jvm.Cond.declares ({ cls := "java/lang/Throwable", name := "<init>", desc := "()V" } : Jvm.MethodName)), (Jvm.Cond.declares ({ cls := "java/lang/Throwable", name := "<init>", desc := "(Ljava/lang/String;)V" } : Jvm.MethodName)), (Jvm.Cond.declares ({ cls := "java/lang/Object", name := "getClass", desc := "()Ljava/lang/Class;" } : Jvm.MethodName))]
theorem hy_LN_warm : ∀ w ∈ hy_LN, ∀ (s U : State), s.WarmedH U.vm → va_Nw w s → va_Nw w U := (List.forall_mem_cons.mpr ⟨fun _ _ hW h => va_Nw.warmM hW h, (List.forall_mem_cons.mpr ⟨fun _ _ hW h => va_Nw.warmM hW h, (List.forall_mem_cons.mpr ⟨fun _ _ hW h => va_Nw.warmM hW h, (List.forall_mem_cons.mpr ⟨fun _ _ hW h => va_Nw.warmM hW h, (List.forall_mem_cons.mpr ⟨fun _ _ hW h => va_Nw.warmC hW h, (List.forall_mem_cons.mpr ⟨fun _ _ hW h => va_Nw.warmC hW h, (List.forall_mem_cons.mpr ⟨fun _ _ hW h => va_Nw.warmC hW h, (List.forall_mem_cons.mpr ⟨fun _ _ hW h => va_Nw.warmC hW h, (List.forall_mem_cons.mpr ⟨fun _ _ hW h => va_Nw.warmC hW h, (List.forall_mem_cons.mpr ⟨fun _ _ hW h => va_Nw.warmC hW h, (List.forall_mem_cons.mpr ⟨fun _ _ hW h => va_Nw.warmC hW h, (List.forall_mem_cons.mpr ⟨fun _ _ hW h => va_Nw.warmC hW h, (List.forall_mem_cons.mpr ⟨fun _ _ hW h => va_Nw.warmC hW h, (List.forall_mem_cons.mpr ⟨fun _ _ hW h => va_Nw.warmC hW h, (List.forall_mem_cons.mpr ⟨fun _ _ hW h => va_Nw.warmC hW h, (List.forall_mem_cons.mpr ⟨fun _ _ hW h => va_Nw.warmC hW h, (List.forall_mem_cons.mpr ⟨fun _ _ hW h => va_Nw.warmC hW h, (List.forall_mem_cons.mpr ⟨fun _ _ hW h => va_Nw.warmD hW h, (List.forall_mem_cons.mpr ⟨fun _ _ hW h => va_Nw.warmD hW h, (List.forall_mem_cons.mpr ⟨fun _ _ hW h => va_Nw.warmD hW h, (List.forall_mem_cons.mpr ⟨fun _ _ hW h => va_Nw.warmD hW h, (List.forall_mem_cons.mpr ⟨fun _ _ hW h => va_Nw.warmD hW h, (List.forall_mem_cons.mpr ⟨fun _ _ hW h => va_Nw.warmD hW h, (List.forall_mem_cons.mpr ⟨fun _ _ hW h => va_Nw.warmD hW h, (fun _ h => absurd h List.not_mem_nil)⟩)⟩)⟩)⟩)⟩)⟩)⟩)⟩)⟩)⟩)⟩)⟩)⟩)⟩)⟩)⟩)⟩)⟩)⟩)⟩)⟩)⟩)⟩)⟩)
theorem hy_LN_on : ∀ w ∈ hy_LN, w.onTables = true := by decide +kernel
def hy_LS : List (String × Nat × String) := [("HyphenPatterns", 48, "there is no such language"), ("HyphenPatterns", 59, "these are no bounds of a range"), ("HyphenPatterns", 63, "these are no letters"), ("HyphenPatterns", 70, "the language has all its ranges"), ("HyphenPatterns", 77, "a least number is 1 to 20"), ("HyphenPatterns$Numbers", 32, "one of the numbers can't stand here"), ("HyphenPatterns$Numbers", 39, "there is no room for so many"), ("HyphenPatterns", 97, "the telling is no pattern"), ("HyphenPatterns", 175, "there is no room for one more"), ("HyphenPatterns", 113, "the telling is no exception"), ("HyphenPatterns", 131, "there is no such place")]
def hy_LX : List Cond := [.isRef (.static Jvm.Bundle.tN "UNASSIGNED_STACK" Jvm.Bundle.steD), .isRef (.static Jvm.Bundle.tN "SUPPRESSED_SENTINEL" Jvm.Bundle.listD), .laysStatic Jvm.Bundle.tN "UNASSIGNED_STACK" Jvm.Bundle.steD, .laysStatic Jvm.Bundle.tN "SUPPRESSED_SENTINEL" Jvm.Bundle.listD]
/-- the words on Throwable's statics hold here, and wherever no old cell outside A has changed -/
def hy_X (A : Nat → Prop) (U : State) (H : Heap) : Prop := ∀ (B : Array Value) (V : State), U.WarmedH V.vm → (∀ q : Nat, q < H.size → ¬ A q → V.heap[q]? = H[q]?) → ∀ w ∈ hy_LX, w.before B V = true
/-- classes and slots, array classes, the empty array's address, the class object's -/
abbrev hy_G : Type := va_G × (Nat → ClassId) × Nat × Nat
def hy_E (G : hy_G) (A : Nat → Prop) (U : State) (H : Heap) : Prop :=
  va_K G.1 hy_K (hy_tys G.2.1) U ∧ (∀ w ∈ hy_LN, va_Nw w U) ∧ (∀ q ∈ hy_LS, ∃ sa : Nat, vk_R q.1 q.2.1 q.2.2 sa U) ∧ (va_AO "HyphenPatterns$Language" U ∧ va_AO "java/lang/Object" U) ∧
  va_Nc "java/lang/IllegalStateException" "java/lang/IllegalArgumentException" U ∧ va_Mi "[Ljava/lang/Object;" G.2.2.2 U ∧
  va_Z "java/util/ArrayList" "DEFAULTCAPACITY_EMPTY_ELEMENTDATA" "[Ljava/lang/Object;" (.ref G.2.2.1) A U H ∧ va_T (.object "java/lang/Object") G.2.2.1 0 (fun _ => .null) A U H ∧ hy_X A U H
theorem hy_E.moved {G : hy_G} {A : Nat → Prop} {u U : State} {H : Heap} (hW : u.WarmedH U.vm) (h : hy_E G A u H) : hy_E G A U H := by
  obtain ⟨h1, h2, h3, h4, h5, h6, h7, h8, h9⟩ := h
  exact ⟨va_K.moved hW.alike h1, fun w hw => hy_LN_warm w hw u U hW (h2 w hw), fun q hq => (h3 q hq).imp fun sa hs => vk_R.warm hW hs, ⟨va_AO.moved hW.alike h4.1, va_AO.moved hW.alike h4.2⟩, va_Nc.moved hW.alike h5, va_Mi.moved hW.alike h6, va_Z.moved hW.alike h7, va_T.moved hW.alike h8,
    fun B V hV hq w hw => h9 B V (State.WarmedH.trans hW hV) hq w hw⟩
theorem hy_E.kept {G : hy_G} {A : Nat → Prop} {U : State} {H H1 : Heap} (h : hy_E G A U H) (hz : H.size ≤ H1.size) (hq : ∀ a : Nat, a < H.size → ¬ A a → H1[a]? = H[a]?) : hy_E G A U H1 := by
  obtain ⟨h1, h2, h3, h4, h5, h6, h7, h8, h9⟩ := h
  exact ⟨h1, h2, h3, h4, h5, h6, h7.kept hq, h8.kept hq, fun B V hV hv w hw => h9 B V hV (fun q a b => (hv q (Nat.lt_of_lt_of_le a hz) b).trans (hq q a b)) w hw⟩
theorem hy_E.narrow {G : hy_G} {A B : Nat → Prop} {U : State} {H : Heap} (h : hy_E G A U H) (hAB : ∀ q, B q → A q) : hy_E G B U H := by
  obtain ⟨h1, h2, h3, h4, h5, h6, h7, h8, h9⟩ := h
  exact ⟨h1, h2, h3, h4, h5, h6, h7.narrow hAB, h8.narrow hAB, fun B' V hV hv w hw => h9 B' V hV (fun q a b => hv q a (fun z => b (hAB q z))) w hw⟩
-- the contract of a method
def hy_A (G : hy_G) (ad : Nat → Nat) (w : hy_W) (sz : Nat) : Nat → Prop := va_A (hy_ws G.2.1 ad w.1) sz
/-- the world w lies in the heap H, at the addresses ad, all of them in A -/
def hy_L (G : hy_G) (ad : Nat → Nat) (A : Nat → Prop) (w : hy_W) (H : Heap) : Prop :=
  va_P G.1 hy_K (hy_ws G.2.1 ad w.1) H ∧ va_D A (hy_ws G.2.1 ad w.1) ∧ hy_cl w.1 ∧ 1 < w.1.length ∧ ad 0 = G.2.2.1 ∧ ad 1 = G.2.2.2 ∧ w.1[0]? = some (.inr (3, []))
def hy_pre (G : hy_G) (ad : Nat → Nat) (av : List Value) (w : hy_W) : Array Value → State → Prop := fun a U =>
  a = (av.map (hy_v ad)).toArray ∧ (∀ v ∈ av, hy_cv w.1.length v) ∧ hy_E G (hy_A G ad w U.heap.size) U U.heap ∧ hy_L G ad (fun _ => True) w U.heap
/-- the end of a method: its answer, or what it has thrown -/
def hy_oc (ad : Nat → Nat) (n : Nat) (st t : State) (r : hy_R) (oc : Outcome) : Prop := match r with
  | .inl v => oc = .returned (v.map (hy_v ad)) ∧ ∀ u, v = some u → hy_cv n u
  | .inr E => ∃ (q : Addr) (ce : Cell), oc = .threw q ∧ t.heap[q]? = some ce ∧ ce.vm = .none ∧ st.vm.findClass E = some ce.cls
def hy_post (G : hy_G) (ad : Nat → Nat) (w : hy_W) (o : hy_O) : Array Value → State → Outcome → State → Prop := fun _ st oc t =>
  ∃ (ad' : Nat → Nat) (L : List Loc) (k n : Nat), (∀ j, j < w.1.length → ad' j = ad j) ∧ w.1.length ≤ o.2.1.length ∧ hy_L G ad' (hy_A G ad w st.heap.size) o.2 t.heap ∧ va_F (hy_A G ad w st.heap.size) st t ∧
    st.WarmedH t.vm ∧ st.sameButNew ({ t with vm := st.vm } : State) L k n ∧ (∀ q ∈ L, hy_A G ad w st.heap.size q.base) ∧ k + o.2.2.1 = w.2.1 ∧ n + o.2.2.2 = w.2.2 ∧ hy_oc ad' o.2.1.length st t o.1 oc
def hy_rm (fr lo : Nat) (w : hy_W) : Room := { frames := fr, locals := lo, cells := w.2.1, slots := w.2.2 }
def hy_M (l : Launch) (y : MethodName) (ws : List Cond) (fr lo : Nat) (G : hy_G) (ad : Nat → Nat) (av : List Value) (w : hy_W) (o : hy_O) : Prop :=
  MetFree l y (headSpec ws (hy_rm fr lo w)) (hy_pre G ad av w) (fun _ _ _ _ _ => True) (hy_post G ad w o)
/-- what a body owes at its end -/
def hy_Q (below : List Frame) (G : hy_G) (ad : Nat → Nat) (w : hy_W) (o : hy_O) (args : Array Value) (s : State) : State → Prop := fun t => ∃ oc, t.status = .running ∧ Ended t below oc ∧ hy_post G ad w o args s oc t
/-- where a body stands: the machine, the method, its surroundings -/
def hy_B (p : Program) (l : Launch) (e : Env) (R : Room) (s : State) (m : MethodId) (args : Array Value) (below : List Frame) (meth : Method) (c : Code) (own : String) (cc : ByteArray) (nL : Nat) (ret : Option FieldType) (hh : List (Nat × Nat × Nat × Nat)) (G : hy_G) (A : Nat → Prop) : Prop :=
  p.tables.exec = Jvm.exec ∧ c.code = cc ∧ c.maxLocals = nL ∧ s.vm.findClass own = some m.cls ∧ (∀ w ∈ hy_T, w.before args s = true) ∧ meth.sig.returnType = ret ∧ meth.locks = false ∧ c.exceptionTable.toList.map (fun h => (h.startPc, h.endPc, h.handlerPc, h.catchType)) = hh ∧ (∀ q, s.heap.size ≤ q → A q) ∧ hy_E G A s s.heap ∧ e.platform.stackTraces = false
/-- the world in a body: cells made so far and those left are the room -/
def hy_S (G : hy_G) (A : Nat → Prop) (R : Room) (s : State) (ad0 : Nat → Nat) (n0 : Nat) (ad : Nat → Nat) (w : hy_W) (H : Heap) (locs : List Loc) (cells slots : Nat) : Prop :=
  hy_L G ad A w H ∧ va_S A s.heap H locs ∧ (∀ j, j < n0 → ad j = ad0 j) ∧ n0 ≤ w.1.length ∧ cells + w.2.1 = R.cells ∧ slots + w.2.2 = R.slots
theorem hy_word {args a' : Array Value} {s U : State} (hW : s.WarmedH U.vm) (hts : ∀ w ∈ hy_T, w.before args s = true) : ∀ w ∈ hy_T, w.before a' U = true :=
  fun w hw => word_at hW (good_of_word (List.mem_filter.mp hw).2) (hts w hw)
theorem hy_ofW {l : Launch} {y : MethodName} {cc : ByteArray} {maxL : Nat} {ret : Option FieldType} {fr lo : Nat} {G : hy_G} {ad : Nat → Nat} {av : List Value} {w : hy_W} {o : hy_O} (hl : l.flags = flags0) (hy : plainFor y = true) (hn : (lg_sl (av.map (hy_v ad))).length ≤ maxL)
    (body : ∀ (p : Program) (e : Env) (s : State) (m : MethodId) (args : Array Value) (below : List Frame) (meth : Method) (c : Code) (A : Nat → Prop), hy_A G ad w s.heap.size = A → (y.name = "<init>" → meth.name = "<init>") →
      hy_B p l e (hy_rm fr lo w) s m args below meth c y.cls cc maxL ret [] G A → hy_S G A (hy_rm fr lo w) s ad w.1.length ad w s.heap [] 0 0 → (∀ v ∈ av, hy_cv w.1.length v) →
      ∀ ls : Array Slot, lv_has ls maxL (lv_args 0 (av.map (hy_v ad))) → W p l e (hy_rm fr lo w) s m args below meth c s.heap [] 0 0 (hy_Q below G ad w o args s) (F0 m 0 ls [])) :
    hy_M l y (Cond.code y cc maxL ret :: hy_T) fr lo G ad av w o := by
  refine MetFree.of_bodySF (code := cc) (maxLocals := maxL) (ret := ret) hy ?_ ?_
  · intro args s m h hn
    obtain ⟨meth, c, h1, h2, h3, h4, h5, h6, -, -⟩ := Cond.code_spec hn (atoms_spec (ws := Cond.code y cc maxL ret :: hy_T) h _ List.mem_cons_self)
    exact ⟨meth, c, h1, h2, h3, h4, h5, h6⟩
  · intro p e s m args below meth c s₁ B hml hP _
    have hh0 : s₁.heap = s.heap := by rw [B.state]; rfl
    obtain ⟨ha, hv, hE, hL⟩ := hP
    have hts : ∀ w' ∈ Cond.code y cc maxL ret :: hy_T, w'.before args s = true := atoms_spec (ws := Cond.code y cc maxL ret :: hy_T) B.pre
    obtain ⟨meth', c', k1, k2, k3, k4, k5, k6, k7, -⟩ := Cond.code_spec B.named (hts _ List.mem_cons_self)
    cases B.method.symm.trans k1
    cases (Stand.of_body B).code.symm.trans k2
    have hex : c.exceptionTable.toList = [] := by simpa using k7
    have key := body p e s m args below meth c _ rfl (fun q => by rw [(name_of_methodNamed B.named B.method).1]; exact q) ⟨B.exec, B.bytes, hml, findClass_of_methodNamed B.named, fun w' hw => hts w' (List.mem_cons_of_mem _ hw), B.returns, B.notSynchronized, by rw [hex]; rfl, fun q hq => Or.inr hq, hE, Launch.traces_off hl B.admits⟩
      ⟨⟨hL.1, hL.2.1.self, hL.2.2⟩, va_S.rf, fun _ _ => rfl, Nat.le_refl _, Nat.zero_add _, Nat.zero_add _⟩ hv _ (lv_entry (av.map (hy_v ad)) (n := maxL) hn)
    rw [← lg_entry_eq, ← ha] at key
    obtain ⟨t, a1, oc, b1, b2, b3⟩ := key s₁ hh0 (Stand.of_body B)
    exact ⟨t, oc, a1, b1, b2, b3⟩
theorem hy_ofWW {l : Launch} {y : MethodName} {cc : ByteArray} {maxL : Nat} {ret : Option FieldType} {hh : List (Nat × Nat × Nat × Nat)} {fr lo : Nat} {G : hy_G} {ad : Nat → Nat} {av : List Value} {w : hy_W} {o : hy_O} (hl : l.flags = flags0) (hy : plainName y.cls = true) (hn : (lg_sl (av.map (hy_v ad))).length ≤ maxL)
    (body : ∀ (p : Program) (e : Env) (s : State) (m : MethodId) (args : Array Value) (below : List Frame) (meth : Method) (c : Code) (A : Nat → Prop), hy_A G ad w s.heap.size = A →
      hy_B p l e (hy_rm fr lo w) s m args below meth c y.cls cc maxL ret hh G A → hy_S G A (hy_rm fr lo w) s ad w.1.length ad w s.heap [] 0 0 → (∀ v ∈ av, hy_cv w.1.length v) →
      ∀ ls : Array Slot, lv_has ls maxL (lv_args 0 (av.map (hy_v ad))) → W p l e (hy_rm fr lo w) s m args below meth c s.heap [] 0 0 (hy_Q below G ad w o args s) (F0 m 0 ls [])) :
    hy_M l y (Cond.codeWith y cc maxL ret hh :: hy_T) fr lo G ad av w o := by
  refine MetFree.of_bodyS (code := cc) (maxLocals := maxL) (ret := ret) hy ?_ ?_
  · intro args s m h hn
    obtain ⟨m9, meth, c, hn9, h1, h2, h3, h4, -, h5, h6, -⟩ := Cond.codeWith_spec (atoms_spec (ws := Cond.codeWith y cc maxL ret hh :: hy_T) h _ List.mem_cons_self)
    cases hn.symm.trans hn9
    exact ⟨meth, c, h1, h2, h3, h4, h5, h6⟩
  · intro p e s m args below meth c s₁ B hml hP _
    have hh0 : s₁.heap = s.heap := by rw [B.state]; rfl
    obtain ⟨ha, hv, hE, hL⟩ := hP
    have hts : ∀ w' ∈ Cond.codeWith y cc maxL ret hh :: hy_T, w'.before args s = true := atoms_spec (ws := Cond.codeWith y cc maxL ret hh :: hy_T) B.pre
    obtain ⟨m9, meth', c', hn9, k1, k2, k3, k4, k5, k6, k7, -⟩ := Cond.codeWith_spec (hts _ List.mem_cons_self)
    cases B.named.symm.trans hn9
    cases B.method.symm.trans k1
    cases (Stand.of_body B).code.symm.trans k2
    have key := body p e s m args below meth c _ rfl ⟨B.exec, B.bytes, hml, findClass_of_methodNamed B.named, fun w' hw => hts w' (List.mem_cons_of_mem _ hw), B.returns, B.notSynchronized, k5, fun q hq => Or.inr hq, hE, Launch.traces_off hl B.admits⟩
      ⟨⟨hL.1, hL.2.1.self, hL.2.2⟩, va_S.rf, fun _ _ => rfl, Nat.le_refl _, Nat.zero_add _, Nat.zero_add _⟩ hv _ (lv_entry (av.map (hy_v ad)) (n := maxL) hn)
    rw [← lg_entry_eq, ← ha] at key
    obtain ⟨t, a1, oc, b1, b2, b3⟩ := key s₁ hh0 (Stand.of_body B)
    exact ⟨t, oc, a1, b1, b2, b3⟩

