/-! ROWS: calls of methods by their contracts -/
section HYC
variable {p : Program} {l : Launch} {e : Env} {R : Room} {s : State} {m : MethodId} {args : Array Value} {below : List Frame} {meth : Method} {c : Code} {H : Heap} {locs : List Loc} {cells slots : Nat} {Q : State → Prop}
variable {own : String} {cc : ByteArray} {nL : Nat} {ret : Option FieldType} {hh : List (Nat × Nat × Nat × Nat)} {G : hy_G} {A : Nat → Prop} {ad0 ad : Nat → Nat} {n0 : Nat} {w w' : hy_W} {pc : Nat} {ls : Array Slot} {rest : List Value} {k a : Nat}
variable {y : MethodName} {bytes : ByteArray} {maxL fr lo index n : Nat} {rt : Option FieldType} {av : List Value} {vo : Option Value} {g : JFrame}
/-- the cells that a callee may change are the caller's -/
theorem hy_A_in (B : hy_B p l e R s m args below meth c own cc nL ret hh G A) (S : hy_S G A R s ad0 n0 ad w H locs cells slots) : ∀ q, hy_A G ad w H.size q → A q := by
  intro q hq
  rcases hq with ⟨j, E, hj⟩ | hq
  · exact S.1.2.1.2 j _ hj
  · exact B.2.2.2.2.2.2.2.2.1 q (Nat.le_trans S.2.1.1 hq)
/-- the surroundings, here and now -/
theorem hy_E_now (B : hy_B p l e R s m args below meth c own cc nL ret hh G A) (S : hy_S G A R s ad0 n0 ad w H locs cells slots) {U : State} (hU : U.heap = H) (hW : s.WarmedH U.vm) : hy_E G (hy_A G ad w U.heap.size) U U.heap := by
  rw [hU]
  exact ((B.2.2.2.2.2.2.2.2.2.1.kept S.2.1.1 S.2.1.2.1).narrow (hy_A_in B S)).moved hW
theorem hy_pre_now (B : hy_B p l e R s m args below meth c own cc nL ret hh G A) (S : hy_S G A R s ad0 n0 ad w H locs cells slots) (hav : ∀ v ∈ av, hy_cv w.1.length v) {U : State} (hU : U.heap = H) (hW : s.WarmedH U.vm) {a' : Array Value} (ha : a' = (av.map (hy_v ad)).toArray) : hy_pre G ad av w a' U := by
  refine ⟨ha, hav, hy_E_now B S hU hW, ?_, S.1.2.1.weaken (fun _ _ _ _ => trivial), S.1.2.2⟩
  rw [hU]
  exact S.1.1
/-- behind a call that came back -/
def hy_Bk (G : hy_G) (R : Room) (A : Nat → Prop) (s : State) (ad0 : Nat → Nat) (n0 : Nat) (ad : Nat → Nat) (w w' : hy_W) (H : Heap) (vo : Option Value) (v : Option Value) (B : Pt) : Prop :=
  ∃ ad1 : Nat → Nat, (∀ j, j < w.1.length → ad1 j = ad j) ∧ w.1.length ≤ w'.1.length ∧ hy_S G A R s ad0 n0 ad1 w' B.U.heap B.locs B.cells B.slots ∧ v = vo.map (hy_v ad1) ∧ ∀ u, vo = some u → hy_cv w'.1.length u
theorem hy_behind (B : hy_B p l e R s m args below meth c own cc nL ret hh G A) (S : hy_S G A R s ad0 n0 ad w H locs cells slots) {ad1 : Nat → Nat} {L : List Loc} {k' n' : Nat} {st t : State} {w1 : hy_W} (hst : st.heap = H) (h1 : ∀ j, j < w.1.length → ad1 j = ad j) (h2 : w.1.length ≤ w1.1.length) (h3 : hy_L G ad1 (hy_A G ad w st.heap.size) w1 t.heap) (h4 : va_F (hy_A G ad w st.heap.size) st t)
    (h5 : ∀ q ∈ L, hy_A G ad w st.heap.size q.base) (h6 : k' + w1.2.1 = w.2.1) (h7 : n' + w1.2.2 = w.2.2) : hy_S G A R s ad0 n0 ad1 w1 t.heap (locs ++ L) (cells + k') (slots + n') := by
  have hA := hy_A_in B S
  rw [hst] at h3 h5
  obtain ⟨g1, g2⟩ := h4
  rw [hst] at g1 g2
  refine ⟨⟨h3.1, h3.2.1.weaken (fun _ _ _ hq => hA _ hq), h3.2.2⟩, ⟨Nat.le_trans S.2.1.1 g1, fun q hq hn => ?_, fun q hq => ?_⟩, fun j hj => (h1 j (by have := S.2.2.2.1; omega)).trans (S.2.2.1 j hj), Nat.le_trans S.2.2.2.1 h2, ?_, ?_⟩
  · rw [g2 q (Nat.lt_of_lt_of_le hq S.2.1.1) (fun z => hn (hA q z))]
    exact S.2.1.2.1 q hq hn
  · rcases List.mem_append.mp hq with h | h
    · exact S.2.1.2.2 q h
    · exact hA _ (h5 q h)
  · have := S.2.2.2.2.1; omega
  · have := S.2.2.2.2.2; omega
theorem hy_back (B : hy_B p l e R s m args below meth c own cc nL ret hh G A) (S : hy_S G A R s ad0 n0 ad w H locs cells slots) (hM : hy_M l y (Cond.code y bytes maxL rt :: hy_T) fr lo G ad av w (.inl vo, w')) (hav : ∀ v ∈ av, hy_cv w.1.length v) (hcode : Cond.code y bytes maxL rt ∈ hy_T) (hini : Cond.initialized y.cls ∈ hy_T) (hfr : fr + 1 ≤ R.frames) (hlo : 8 + (maxL + 11) + lo ≤ R.locals) :
    Back l R p e below s args y 3 8 (fun X a' => X.U.heap = H ∧ X.locs = locs ∧ X.cells = cells ∧ X.slots = slots ∧ a' = (av.map (hy_v ad)).toArray) (fun _ _ v X => hy_Bk G R A s ad0 n0 ad w w' H vo v X) := by
  refine Back.of_free (bytes := bytes) (maxL := maxL) (ret := rt) (E := fun a' st oc t L k' n' => ∃ ad1 : Nat → Nat, (∀ j, j < w.1.length → ad1 j = ad j) ∧ w.1.length ≤ w'.1.length ∧ hy_L G ad1 (hy_A G ad w st.heap.size) w' t.heap ∧ va_F (hy_A G ad w st.heap.size) st t ∧ (∀ q ∈ L, hy_A G ad w st.heap.size q.base) ∧ k' + w'.2.1 = w.2.1 ∧ n' + w'.2.2 = w.2.2 ∧ oc = .returned (vo.map (hy_v ad1)) ∧ ∀ u, vo = some u → hy_cv w'.1.length u) hM hfr hlo ?_ ?_ (fun _ _ _ _ _ _ _ _ _ => trivial) ?_ ?_
  · intro m' meth' c' X a' hX hp
    obtain ⟨q1, q2, q3, q4, q5⟩ := hp
    have hw9 := hy_word (a' := a') hX.warmed B.2.2.2.2.1
    refine ⟨atoms_intro fun w9 hw => ?_, hw9 _ hcode, hw9 _ hini, ?_, ?_⟩
    · rcases List.mem_cons.mp hw with h | h
      · rw [h]; exact hw9 _ hcode
      · exact hw9 _ h
    · show X.cells + w.2.1 ≤ _
      have := S.2.2.2.2.1; omega
    · show X.slots + w.2.2 ≤ _
      have := S.2.2.2.2.2; omega
  · intro m' meth' c' X a' g' mk hX hp
    exact hy_pre_now B S hav (U := X.U.calling g' mk a') hp.1 hX.warmed hp.2.2.2.2
  · intro a' st oc t h
    obtain ⟨ad1, L, k', n', h1, h2, h3, h4, h5, h6, h7, h8, h9, h10⟩ := h
    exact ⟨L, k', n', ⟨⟨_, h10.1⟩, h5, h6⟩, ad1, h1, h2, h3, h4, h7, h8, h9, h10.1, h10.2⟩
  · intro m' meth' c' X a' g' mk v t L k' n' hX hp hq hF hE
    obtain ⟨ad1, h1, h2, h3, h4, h5, h6, h7, h8, h9⟩ := hE
    obtain ⟨q1, q2, q3, q4, q5⟩ := hp
    refine ⟨ad1, h1, h2, ?_, Outcome.returned.inj h8, h9⟩
    show hy_S G A R s ad0 n0 ad1 w' t.heap (X.locs ++ L) (X.cells + k') (X.slots + n')
    rw [q2, q3, q4]
    exact hy_behind B S (st := X.U.calling g' mk a') q1 h1 h2 h3 h4 h5 h6 h7
def hy_Run (p : Program) (l : Launch) (e : Env) (R : Room) (s : State) (m : MethodId) (args : Array Value) (below : List Frame) (meth : Method) (c : Code) (H : Heap) (locs : List Loc) (cells slots : Nat) (g : JFrame) (rest : List Value) (P : Option Value → Pt → Prop) : Prop :=
  ∀ T : State, T.heap = H → Stand p l e R s m args below meth c T locs cells slots → ∃ (v : Option Value) (X : Pt), Stand p l e R s m args below meth c X.U X.locs X.cells X.slots ∧ P v X ∧ Goes p e below T g X.U { g with pc := g.pc + 3, stack := v.toList ++ rest }
/-- a call of an instance method -/
theorem hy_runV (B : hy_B p l e R s m args below meth c own cc nL ret hh G A) (S : hy_S G A R s ad0 n0 ad w H locs cells slots) {r b : Nat} {av' As : List Value} (hav' : av = .ref r :: av') (hb : ad r = b) (hAs : av'.map (hy_v ad) = As) (hM : hy_M l y (Cond.code y bytes maxL rt :: hy_T) fr lo G ad av w (.inl vo, w')) (hav : ∀ v ∈ av, hy_cv w.1.length v) (hcode : Cond.code y bytes maxL rt ∈ hy_T) (hini : Cond.initialized y.cls ∈ hy_T) (hlink : Cond.methodLink own index y ∈ hy_T) (hinst : Cond.instanceMethod y ∈ hy_T) (hsel : Cond.selects y.cls y y ∈ hy_T)
    (hy : y.cls ≠ "java/lang/invoke/MethodHandle" ∧ y.cls ≠ "java/lang/invoke/VarHandle") (hd : (parseMethodDescriptor y.desc).map (fun d => d.parameters.length) = some As.length) (hfr : fr + 1 ≤ R.frames) (hlo : 8 + (maxL + 11) + lo ≤ R.locals) {ci : Nat} {fs : List Value} (hr : w.1[r]? = some (.inl (ci, fs))) (hr1 : 1 < r) {T9 : u_T} {N9 : Nat} (hc : hy_K[ci]? = some (y.cls, T9, N9)) (hsz : ls.size = nL) (hst : (rest.map fun v => v.category).sum ≤ 8) (hdg : decode cc pc = .ok (.invokevirtual index, 3)) :
    hy_Run p l e R s m args below meth c H locs cells slots (F0 m pc ls (As.reverse ++ .ref b :: rest)) rest (hy_Bk G R A s ad0 n0 ad w w' H vo) := by
  intro T hT X
  obtain ⟨q, -, hq⟩ := hy_place (G := G) (ad := ad) hr1 hr
  obtain ⟨cell, g1, g2, g3⟩ := va_recv (q := (y.cls, T9, N9)) B.2.2.2.2.2.2.2.2.2.1.1 S.1.1 hc hq
  subst hb hAs hav'
  obtain ⟨v, vm1, X1, hW1, hX1, hP1, hS1⟩ := callV X B.1 (own := own) (C := y.cls) (index := index) (y := y) (bytes := bytes) (maxL := maxL) (ret := rt) B.2.2.2.1 (B.2.2.2.2.1 _ hlink) (B.2.2.2.2.1 _ hinst) (B.2.2.2.2.1 _ hsel) (B.2.2.2.2.1 _ hcode) hy (hy_back B S hM hav hcode hini hfr hlo)
    (by rw [hT]; exact g1) g2 g3 (g := F0 m pc ls ((av'.map (hy_v ad)).reverse ++ .ref (ad r) :: rest)) rfl (by rw [B.2.2.1]; exact hsz) (argsL := av'.map (hy_v ad)) (rest := rest) (fun sig hs => by rw [hs] at hd; exact (Option.some.inj hd).symm) rfl (by show 2 * 0 + _ ≤ 8; omega) (by rw [B.2.1]; exact hdg) (fun vm2 _ => ⟨hT, rfl, rfl, rfl, rfl⟩)
  exact ⟨v, X1, hX1, hP1, hS1⟩
/-- a call of a static method -/
theorem hy_runS (B : hy_B p l e R s m args below meth c own cc nL ret hh G A) (S : hy_S G A R s ad0 n0 ad w H locs cells slots) {As : List Value} (hAs : av.map (hy_v ad) = As) (hM : hy_M l y (Cond.code y bytes maxL rt :: hy_T) fr lo G ad av w (.inl vo, w')) (hav : ∀ v ∈ av, hy_cv w.1.length v) (hcode : Cond.code y bytes maxL rt ∈ hy_T) (hini : Cond.initialized y.cls ∈ hy_T) (hlink : Cond.methodLink own index y ∈ hy_T) (hstat : Cond.static y ∈ hy_T)
    (hy : y.cls ≠ "java/lang/invoke/MethodHandle" ∧ y.cls ≠ "java/lang/invoke/VarHandle") (hd : (parseMethodDescriptor y.desc).map (fun d => d.parameters.length) = some As.length) (hfr : fr + 1 ≤ R.frames) (hlo : 8 + (maxL + 11) + lo ≤ R.locals) (hsz : ls.size = nL) (hst : (rest.map fun v => v.category).sum ≤ 8) (hdg : decode cc pc = .ok (.invokestatic index, 3)) :
    hy_Run p l e R s m args below meth c H locs cells slots (F0 m pc ls (As.reverse ++ rest)) rest (hy_Bk G R A s ad0 n0 ad w w' H vo) := by
  intro T hT X
  subst hAs
  obtain ⟨v, vm1, X1, hW1, hX1, hP1, hS1⟩ := callS X B.1 (own := own) (index := index) (y := y) (bytes := bytes) (maxL := maxL) (ret := rt) B.2.2.2.1 (B.2.2.2.2.1 _ hlink) (B.2.2.2.2.1 _ hstat) (B.2.2.2.2.1 _ hini) (B.2.2.2.2.1 _ hcode) hy (hy_back B S hM hav hcode hini hfr hlo)
    (g := F0 m pc ls ((av.map (hy_v ad)).reverse ++ rest)) rfl (by rw [B.2.2.1]; exact hsz) (argsL := av.map (hy_v ad)) (rest := rest) (fun sig hs => by rw [hs] at hd; exact (Option.some.inj hd).symm) rfl (by show 2 * 0 + _ ≤ 8; omega) (by rw [B.2.1]; exact hdg) (fun vm2 _ => ⟨hT, rfl, rfl, rfl, rfl⟩)
  exact ⟨v, X1, hX1, hP1, hS1⟩
/-- .. of a nest mate's -/
theorem hy_runSN (B : hy_B p l e R s m args below meth c own cc nL ret hh G A) (S : hy_S G A R s ad0 n0 ad w H locs cells slots) {As : List Value} (hAs : av.map (hy_v ad) = As) (hM : hy_M l y (Cond.code y bytes maxL rt :: hy_T) fr lo G ad av w (.inl vo, w')) (hav : ∀ v ∈ av, hy_cv w.1.length v) (hcode : Cond.code y bytes maxL rt ∈ hy_T) (hini : Cond.initialized y.cls ∈ hy_T) {host : String} (hlink : Cond.methodLinkNest own index y host ∈ hy_LN) (hstat : Cond.static y ∈ hy_T)
    (hy : y.cls ≠ "java/lang/invoke/MethodHandle" ∧ y.cls ≠ "java/lang/invoke/VarHandle") (hd : (parseMethodDescriptor y.desc).map (fun d => d.parameters.length) = some As.length) (hfr : fr + 1 ≤ R.frames) (hlo : 8 + (maxL + 11) + lo ≤ R.locals) (hsz : ls.size = nL) (hst : (rest.map fun v => v.category).sum ≤ 8) (hdg : decode cc pc = .ok (.invokestatic index, 3)) :
    hy_Run p l e R s m args below meth c H locs cells slots (F0 m pc ls (As.reverse ++ rest)) rest (hy_Bk G R A s ad0 n0 ad w w' H vo) := by
  intro T hT X
  subst hAs
  obtain ⟨v, vm1, X1, hW1, hX1, hP1, hS1⟩ := va_callSN X B.1 (own := own) (index := index) (y := y) (bytes := bytes) (maxL := maxL) (ret := rt) B.2.2.2.1 (va_Nw.use rfl (B.2.2.2.2.2.2.2.2.2.1.2.1 _ hlink)) (B.2.2.2.2.1 _ hstat) (B.2.2.2.2.1 _ hini) (B.2.2.2.2.1 _ hcode) hy (hy_back B S hM hav hcode hini hfr hlo)
    (g := F0 m pc ls ((av.map (hy_v ad)).reverse ++ rest)) rfl (by rw [B.2.2.1]; exact hsz) (argsL := av.map (hy_v ad)) (rest := rest) (fun sig hs => by rw [hs] at hd; exact (Option.some.inj hd).symm) rfl (by show 2 * 0 + _ ≤ 8; omega) (by rw [B.2.1]; exact hdg) (fun vm2 _ => ⟨hT, rfl, rfl, rfl, rfl⟩)
  exact ⟨v, X1, hX1, hP1, hS1⟩
/-- a call of a constructor -/
theorem hy_runI (B : hy_B p l e R s m args below meth c own cc nL ret hh G A) (S : hy_S G A R s ad0 n0 ad w H locs cells slots) {r b : Nat} {av' As : List Value} (hav' : av = .ref r :: av') (hb : ad r = b) (hAs : av'.map (hy_v ad) = As) (hM : hy_M l y (Cond.code y bytes maxL none :: hy_T) fr lo G ad av w (.inl vo, w')) (hav : ∀ v ∈ av, hy_cv w.1.length v) (hcode : Cond.code y bytes maxL none ∈ hy_T) (hini : Cond.initialized y.cls ∈ hy_T) (hlink : Cond.methodLink own index y ∈ hy_T) (hinst : Cond.instanceMethod y ∈ hy_T) (hy1 : y.name = "<init>")
    (hy : y.cls ≠ "java/lang/invoke/MethodHandle" ∧ y.cls ≠ "java/lang/invoke/VarHandle") (hd : (parseMethodDescriptor y.desc).map (fun d => d.parameters.length) = some As.length) (hfr : fr + 1 ≤ R.frames) (hlo : 8 + (maxL + 11) + lo ≤ R.locals) (hsz : ls.size = nL) (hst : (rest.map fun v => v.category).sum ≤ 8) (hdg : decode cc pc = .ok (.invokespecial index, 3)) :
    hy_Run p l e R s m args below meth c H locs cells slots (F0 m pc ls (As.reverse ++ .ref b :: rest)) rest (hy_Bk G R A s ad0 n0 ad w w' H vo) := by
  intro T hT X
  subst hb hAs hav'
  obtain ⟨v, vm1, X1, hW1, hX1, hP1, hS1⟩ := callI X B.1 (own := own) (index := index) (y := y) (bytes := bytes) (maxL := maxL) B.2.2.2.1 hy1 (B.2.2.2.2.1 _ hlink) (B.2.2.2.2.1 _ hinst) (B.2.2.2.2.1 _ hcode) hy (hy_back B S hM hav hcode hini hfr hlo)
    (g := F0 m pc ls ((av'.map (hy_v ad)).reverse ++ .ref (ad r) :: rest)) rfl (by rw [B.2.2.1]; exact hsz) (argsL := av'.map (hy_v ad)) (rest := rest) (fun sig hs => by rw [hs] at hd; exact (Option.some.inj hd).symm) rfl (by show 2 * 0 + _ ≤ 8; omega) (by rw [B.2.1]; exact hdg) (fun vm2 _ => ⟨hT, rfl, rfl, rfl, rfl⟩)
  exact ⟨v, X1, hX1, hP1, hS1⟩
/-- .. of a nest mate -/
theorem hy_runIN (B : hy_B p l e R s m args below meth c own cc nL ret hh G A) (S : hy_S G A R s ad0 n0 ad w H locs cells slots) {r b : Nat} {av' As : List Value} (hav' : av = .ref r :: av') (hb : ad r = b) (hAs : av'.map (hy_v ad) = As) (hM : hy_M l y (Cond.code y bytes maxL none :: hy_T) fr lo G ad av w (.inl vo, w')) (hav : ∀ v ∈ av, hy_cv w.1.length v) (hcode : Cond.code y bytes maxL none ∈ hy_T) (hini : Cond.initialized y.cls ∈ hy_T) {host : String} (hlink : Cond.methodLinkNest own index y host ∈ hy_LN) (hinst : Cond.instanceMethod y ∈ hy_T) (hy1 : y.name = "<init>")
    (hy : y.cls ≠ "java/lang/invoke/MethodHandle" ∧ y.cls ≠ "java/lang/invoke/VarHandle") (hd : (parseMethodDescriptor y.desc).map (fun d => d.parameters.length) = some As.length) (hfr : fr + 1 ≤ R.frames) (hlo : 8 + (maxL + 11) + lo ≤ R.locals) (hsz : ls.size = nL) (hst : (rest.map fun v => v.category).sum ≤ 8) (hdg : decode cc pc = .ok (.invokespecial index, 3)) :
    hy_Run p l e R s m args below meth c H locs cells slots (F0 m pc ls (As.reverse ++ .ref b :: rest)) rest (hy_Bk G R A s ad0 n0 ad w w' H vo) := by
  intro T hT X
  subst hb hAs hav'
  obtain ⟨v, vm1, X1, hW1, hX1, hP1, hS1⟩ := va_callIN X B.1 (own := own) (index := index) (y := y) (bytes := bytes) (maxL := maxL) B.2.2.2.1 hy1 (va_Nw.use rfl (B.2.2.2.2.2.2.2.2.2.1.2.1 _ hlink)) (B.2.2.2.2.1 _ hinst) (B.2.2.2.2.1 _ hcode) hy (hy_back B S hM hav hcode hini hfr hlo)
    (g := F0 m pc ls ((av'.map (hy_v ad)).reverse ++ .ref (ad r) :: rest)) rfl (by rw [B.2.2.1]; exact hsz) (argsL := av'.map (hy_v ad)) (rest := rest) (fun sig hs => by rw [hs] at hd; exact (Option.some.inj hd).symm) rfl (by show 2 * 0 + _ ≤ 8; omega) (by rw [B.2.1]; exact hdg) (fun vm2 _ => ⟨hT, rfl, rfl, rfl, rfl⟩)
  exact ⟨v, X1, hX1, hP1, hS1⟩
/-- behind the call: an int, a reference, nothing -/
theorem hy_calli {x : Int32} {st0 : List Value} (hr : hy_Run p l e R s m args below meth c H locs cells slots (F0 m pc ls st0) rest (hy_Bk G R A s ad0 n0 ad w w' H (some (.int x))))
    (kk : ∀ (ad1 : Nat → Nat) (H1 : Heap) (locs1 : List Loc) (cells1 slots1 : Nat), (∀ j, j < w.1.length → ad1 j = ad j) → w.1.length ≤ w'.1.length → hy_S G A R s ad0 n0 ad1 w' H1 locs1 cells1 slots1 → W p l e R s m args below meth c H1 locs1 cells1 slots1 Q (F0 m (pc + 3) ls (.int x :: rest))) : W p l e R s m args below meth c H locs cells slots Q (F0 m pc ls st0) := by
  intro T hT X
  obtain ⟨v, X1, hX1, ⟨ad1, h1, h2, h3, rfl, h5⟩, hS1⟩ := hr T hT X
  obtain ⟨t, q1, q2⟩ := kk ad1 X1.U.heap X1.locs X1.cells X1.slots h1 h2 h3 X1.U rfl hX1
  exact ⟨t, hS1 t q1, q2⟩
theorem hy_callr {r : Nat} {st0 : List Value} (hr : hy_Run p l e R s m args below meth c H locs cells slots (F0 m pc ls st0) rest (hy_Bk G R A s ad0 n0 ad w w' H (some (.ref r))))
    (kk : ∀ (ad1 : Nat → Nat) (H1 : Heap) (locs1 : List Loc) (cells1 slots1 : Nat), (∀ j, j < w.1.length → ad1 j = ad j) → w.1.length ≤ w'.1.length → hy_S G A R s ad0 n0 ad1 w' H1 locs1 cells1 slots1 → ∀ b : Nat, ad1 r = b → r < w'.1.length → W p l e R s m args below meth c H1 locs1 cells1 slots1 Q (F0 m (pc + 3) ls (.ref b :: rest))) : W p l e R s m args below meth c H locs cells slots Q (F0 m pc ls st0) := by
  intro T hT X
  obtain ⟨v, X1, hX1, ⟨ad1, h1, h2, h3, rfl, h5⟩, hS1⟩ := hr T hT X
  obtain ⟨t, q1, q2⟩ := kk ad1 X1.U.heap X1.locs X1.cells X1.slots h1 h2 h3 (ad1 r) rfl (h5 _ rfl r rfl) X1.U rfl hX1
  exact ⟨t, hS1 t q1, q2⟩
theorem hy_callv {st0 : List Value} (hr : hy_Run p l e R s m args below meth c H locs cells slots (F0 m pc ls st0) rest (hy_Bk G R A s ad0 n0 ad w w' H none))
    (kk : ∀ (ad1 : Nat → Nat) (H1 : Heap) (locs1 : List Loc) (cells1 slots1 : Nat), (∀ j, j < w.1.length → ad1 j = ad j) → w.1.length ≤ w'.1.length → hy_S G A R s ad0 n0 ad1 w' H1 locs1 cells1 slots1 → W p l e R s m args below meth c H1 locs1 cells1 slots1 Q (F0 m (pc + 3) ls rest)) : W p l e R s m args below meth c H locs cells slots Q (F0 m pc ls st0) := by
  intro T hT X
  obtain ⟨v, X1, hX1, ⟨ad1, h1, h2, h3, rfl, h5⟩, hS1⟩ := hr T hT X
  obtain ⟨t, q1, q2⟩ := kk ad1 X1.U.heap X1.locs X1.cells X1.slots h1 h2 h3 X1.U rfl hX1
  exact ⟨t, hS1 t q1, q2⟩
end HYC
