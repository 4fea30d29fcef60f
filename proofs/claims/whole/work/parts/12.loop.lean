/-! POINTS: a body walks from point to point; answers of calls -/
def hy_ob (w : hy_W) (r ci : Nat) : Bool := match w.1[r]? with
  | some (.inl (c, _)) => decide (c = ci ∧ 1 < r)
  | _ => false
theorem hy_ob_spec {w : hy_W} {r ci : Nat} (h : hy_ob w r ci = true) : ∃ fs, w.1[r]? = some (.inl (ci, fs)) ∧ 1 < r := by
  unfold hy_ob at h
  split at h
  · rename_i c fs hw
    obtain ⟨rfl, h2⟩ := of_decide_eq_true h
    exact ⟨fs, hw, h2⟩
  · cases h
def hy_ar0 (w : hy_W) (r t : Nat) : Bool := match w.1[r]? with
  | some (.inr (u, _)) => decide (u = t ∧ 1 < r)
  | _ => false
theorem hy_ar0_spec {w : hy_W} {r t : Nat} (h : hy_ar0 w r t = true) : ∃ es, w.1[r]? = some (.inr (t, es)) ∧ 1 < r := by
  unfold hy_ar0 at h
  split at h
  · rename_i c fs hw
    obtain ⟨rfl, h2⟩ := of_decide_eq_true h
    exact ⟨fs, hw, h2⟩
  · cases h
/-- what a call answers: an int, a reference, nothing -/
def hy_bi {β : Type} (o : Option hy_O) (f : Int32 → hy_W → Option β) : Option β := match o with
  | some (.inl (some (.int x)), w) => f x w
  | _ => none
def hy_br {β : Type} (o : Option hy_O) (f : Nat → hy_W → Option β) : Option β := match o with
  | some (.inl (some (.ref x)), w) => f x w
  | _ => none
def hy_bv {β : Type} (o : Option hy_O) (f : hy_W → Option β) : Option β := match o with
  | some (.inl none, w) => f w
  | _ => none
theorem hy_bi_spec {β : Type} {o : Option hy_O} {f : Int32 → hy_W → Option β} {b : β} (h : hy_bi o f = some b) : ∃ x w, o = some (.inl (some (.int x)), w) ∧ f x w = some b := by
  unfold hy_bi at h
  split at h
  · exact ⟨_, _, rfl, h⟩
  · cases h
theorem hy_br_spec {β : Type} {o : Option hy_O} {f : Nat → hy_W → Option β} {b : β} (h : hy_br o f = some b) : ∃ x w, o = some (.inl (some (.ref x)), w) ∧ f x w = some b := by
  unfold hy_br at h
  split at h
  · exact ⟨_, _, rfl, h⟩
  · cases h
theorem hy_bv_spec {β : Type} {o : Option hy_O} {f : hy_W → Option β} {b : β} (h : hy_bv o f = some b) : ∃ w, o = some (.inl none, w) ∧ f w = some b := by
  unfold hy_bv at h
  split at h
  · exact ⟨_, rfl, h⟩
  · cases h
theorem hy_if {β : Type} {c : Prop} [Decidable c] {x : Option β} {b : β} (h : (if c then x else none) = some b) : c ∧ x = some b := by
  split at h
  · rename_i hc; exact ⟨hc, h⟩
  · cases h
/-- .. where it may throw -/
def hy_xi (o : Option hy_O) (f : Int32 → hy_W → Option hy_N) (g : String → hy_W → Option hy_N) : Option hy_N := match o with
  | some (.inl (some (.int x)), w) => f x w
  | some (.inr E, w) => g E w
  | _ => none
def hy_xv (o : Option hy_O) (f : hy_W → Option hy_N) (g : String → hy_W → Option hy_N) : Option hy_N := match o with
  | some (.inl none, w) => f w
  | some (.inr E, w) => g E w
  | _ => none
theorem hy_xi_spec {o : Option hy_O} {f : Int32 → hy_W → Option hy_N} {g : String → hy_W → Option hy_N} {n : hy_N} (h : hy_xi o f g = some n) : (∃ x w, o = some (.inl (some (.int x)), w) ∧ f x w = some n) ∨ ∃ E w, o = some (.inr E, w) ∧ g E w = some n := by
  unfold hy_xi at h
  split at h
  · exact Or.inl ⟨_, _, rfl, h⟩
  · exact Or.inr ⟨_, _, rfl, h⟩
  · cases h
theorem hy_xv_spec {o : Option hy_O} {f : hy_W → Option hy_N} {g : String → hy_W → Option hy_N} {n : hy_N} (h : hy_xv o f g = some n) : (∃ w, o = some (.inl none, w) ∧ f w = some n) ∨ ∃ E w, o = some (.inr E, w) ∧ g E w = some n := by
  unfold hy_xv at h
  split at h
  · exact Or.inl ⟨_, rfl, h⟩
  · exact Or.inr ⟨_, _, rfl, h⟩
  · cases h
theorem hy_bd {α β : Type} {o : Option α} {f : α → Option β} {b : β} (h : o.bind f = some b) : ∃ a, o = some a ∧ f a = some b := Option.bind_eq_some_iff.mp h
-- all references lead into the world
theorem hy_ok0 {n : Nat} : ∀ v ∈ ([] : List Value), hy_cv n v := fun _ h => nomatch h
theorem hy_oki {n : Nat} {x : Int32} {L : List Value} (h : ∀ v ∈ L, hy_cv n v) : ∀ v ∈ Value.int x :: L, hy_cv n v := by
  intro v hv
  rcases List.mem_cons.mp hv with rfl | hv
  · intro k e; cases e
  · exact h v hv
theorem hy_okl {n : Nat} {x : Int64} {L : List Value} (h : ∀ v ∈ L, hy_cv n v) : ∀ v ∈ Value.long x :: L, hy_cv n v := by
  intro v hv
  rcases List.mem_cons.mp hv with rfl | hv
  · intro k e; cases e
  · exact h v hv
theorem hy_okn {n : Nat} {L : List Value} (h : ∀ v ∈ L, hy_cv n v) : ∀ v ∈ Value.null :: L, hy_cv n v := by
  intro v hv
  rcases List.mem_cons.mp hv with rfl | hv
  · intro k e; cases e
  · exact h v hv
theorem hy_okr {n r : Nat} {L : List Value} (hr : r < n) (h : ∀ v ∈ L, hy_cv n v) : ∀ v ∈ Value.ref r :: L, hy_cv n v := by
  intro v hv
  rcases List.mem_cons.mp hv with rfl | hv
  · intro k e; cases e; exact hr
  · exact h v hv
theorem hy_cvi {n : Nat} {x : Int32} : hy_cv n (.int x) := fun _ e => nomatch e
theorem hy_cvr {n r : Nat} (h : r < n) : hy_cv n (.ref r) := fun _ e => by cases e; exact h
-- points
def hy_lv (ad : Nat → Nat) (sl : List Nat) (L : List Value) : List (Nat × Value) := (sl.zip L).map fun q => (q.1, hy_v ad q.2)
def hy_sk (ad : Nat → Nat) (sl : List Nat) (L : List Value) : List Value := (L.drop sl.length).map (hy_v ad)
def hy_At (lay : Nat → List Nat) (p : Program) (l : Launch) (e : Env) (R : Room) (s : State) (m : MethodId) (args : Array Value) (below : List Frame) (meth : Method) (c : Code) (nL : Nat) (G : hy_G) (A : Nat → Prop) (ad0 : Nat → Nat) (n0 : Nat) (Q : State → Prop) (q : hy_P) : Prop :=
  ∀ (ad : Nat → Nat) (H : Heap) (locs : List Loc) (cells slots : Nat) (ls : Array Slot), hy_S G A R s ad0 n0 ad q.2.2 H locs cells slots → (∀ v ∈ q.2.1, hy_cv q.2.2.1.length v) → lv_has ls nL (hy_lv ad (lay q.1) q.2.1) →
    W p l e R s m args below meth c H locs cells slots Q (F0 m q.1 ls (hy_sk ad (lay q.1) q.2.1))
/-- where a step leads, the rest goes through -/
def hy_Nx (lay : Nat → List Nat) (p : Program) (l : Launch) (e : Env) (R : Room) (s : State) (m : MethodId) (args : Array Value) (below : List Frame) (meth : Method) (c : Code) (nL : Nat) (G : hy_G) (A : Nat → Prop) (ad0 : Nat → Nat) (n0 : Nat) (Q : State → Prop) (o : hy_O) (nx : hy_N) : Prop := match nx with
  | .inl q => hy_At lay p l e R s m args below meth c nL G A ad0 n0 Q q
  | .inr o' => o' = o
section HYL
variable {lay : Nat → List Nat} {p : Program} {l : Launch} {e : Env} {R : Room} {s : State} {m : MethodId} {args : Array Value} {below : List Frame} {meth : Method} {c : Code} {nL : Nat} {G : hy_G} {A : Nat → Prop} {ad0 : Nat → Nat} {n0 : Nat} {Q : State → Prop}
theorem hy_loop {f : hy_P → Option hy_N} {o : hy_O} (hs : ∀ q nx, f q = some nx → hy_Nx lay p l e R s m args below meth c nL G A ad0 n0 Q o nx → hy_At lay p l e R s m args below meth c nL G A ad0 n0 Q q) : ∀ (n : Nat) (q : hy_P), hy_it f n q = some o → hy_At lay p l e R s m args below meth c nL G A ad0 n0 Q q
  | 0, q, h => by cases h
  | n + 1, q, h => by
    rw [hy_it] at h
    cases hf : f q with
    | none => rw [hf] at h; cases h
    | some nx =>
      rw [hf] at h
      refine hs q nx hf ?_
      cases nx with
      | inl q' => exact hy_loop hs n q' h
      | inr o' => exact Option.some.inj h
theorem hy_jump {ad : Nat → Nat} {w : hy_W} {H : Heap} {locs : List Loc} {cells slots pc : Nat} {ls : Array Slot} {L : List Value} {lv : List (Nat × Value)} {st : List Value} (K : hy_At lay p l e R s m args below meth c nL G A ad0 n0 Q (pc, L, w)) (S : hy_S G A R s ad0 n0 ad w H locs cells slots) (hok : ∀ v ∈ L, hy_cv w.1.length v) (hl : lv_has ls nL lv) (e1 : hy_lv ad (lay pc) L = lv) (e2 : hy_sk ad (lay pc) L = st) :
    W p l e R s m args below meth c H locs cells slots Q (F0 m pc ls st) := by
  subst e1 e2
  exact K ad H locs cells slots ls S hok hl
end HYL
