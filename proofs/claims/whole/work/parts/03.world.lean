/-! THE PLAIN MACHINE: worlds as lists, references as places in them; a method is a function from points to next points; how a world lies in the heap. -/
/-- a cell: an object (class number, fields) or an array (kind number, places); a reference in it is a place in the list -/
abbrev hy_C : Type := (Nat × List Value) ⊕ (Nat × List Value)
/-- a world: its cells (place 0 is the JDK's own empty array, place 1 the class object of Object[]), how many cells and slots may still be made -/
abbrev hy_W : Type := List hy_C × Nat × Nat
/-- how a method ends: with an answer, or with a thrown object of that class -/
abbrev hy_R : Type := Option Value ⊕ String
abbrev hy_O : Type := hy_R × hy_W
/-- a point: the pc, the values of the locals and of the stack (top first), the world -/
abbrev hy_P : Type := Nat × List Value × hy_W
abbrev hy_N : Type := hy_P ⊕ hy_O
def hy_it (f : hy_P → Option hy_N) : Nat → hy_P → Option hy_O
  | 0, _ => none
  | n + 1, q => match f q with
    | none => none
    | some (.inl q') => hy_it f n q'
    | some (.inr o) => some o
theorem hy_it_succ {f : hy_P → Option hy_N} {o : hy_O} : ∀ {n : Nat} {q : hy_P}, hy_it f n q = some o → hy_it f (n + 1) q = some o
  | 0, q, h => by cases h
  | n + 1, q, h => by
    rw [hy_it] at h ⊢
    cases hf : f q with
    | none => rw [hf] at h; cases h
    | some x =>
      rw [hf] at h
      cases x with
      | inl q' => exact hy_it_succ (n := n) h
      | inr o' => exact h
theorem hy_it_le {f : hy_P → Option hy_N} {o : hy_O} {n m : Nat} {q : hy_P} (h : hy_it f n q = some o) (hm : n ≤ m) : hy_it f m q = some o := by
  induction hm with
  | refl => exact h
  | step _ ih => exact hy_it_succ ih
theorem hy_it_det {f : hy_P → Option hy_N} {o o' : hy_O} {n m : Nat} {q : hy_P} (h : hy_it f n q = some o) (h' : hy_it f m q = some o') : o = o' :=
  Option.some.inj ((hy_it_le h (Nat.le_max_left n m)).symm.trans (hy_it_le h' (Nat.le_max_right n m)))
/-- where the points lead in the end -/
noncomputable def hy_fx (f : hy_P → Option hy_N) (q : hy_P) : Option hy_O :=
  @dite _ (∃ o n, hy_it f n q = some o) (Classical.propDecidable _) (fun h => some h.choose) (fun _ => none)
theorem hy_fx_iff {f : hy_P → Option hy_N} {q : hy_P} {o : hy_O} : hy_fx f q = some o ↔ ∃ n, hy_it f n q = some o := by
  unfold hy_fx
  constructor
  · intro h
    split at h
    · rename_i hq
      obtain ⟨n, hn⟩ := hq.choose_spec
      exact ⟨n, by rw [hn]; exact h⟩
    · cases h
  · rintro ⟨n, hn⟩
    have hq : ∃ o n, hy_it f n q = some o := ⟨o, n, hn⟩
    rw [dif_pos hq]
    obtain ⟨n', hn'⟩ := hq.choose_spec
    rw [hy_it_det hn' hn]
theorem hy_fx_to {f : hy_P → Option hy_N} {q q' : hy_P} (h : f q = some (.inl q')) : hy_fx f q = hy_fx f q' := by
  apply Option.ext
  intro o
  rw [hy_fx_iff, hy_fx_iff]
  constructor
  · rintro ⟨n, hn⟩
    cases n with
    | zero => cases hn
    | succ n =>
      rw [hy_it, h] at hn
      exact ⟨n, hn⟩
  · rintro ⟨n, hn⟩
    refine ⟨n + 1, ?_⟩
    rw [hy_it, h]
    exact hn
theorem hy_fx_end {f : hy_P → Option hy_N} {q : hy_P} {o : hy_O} (h : f q = some (.inr o)) : hy_fx f q = some o :=
  hy_fx_iff.mpr ⟨1, by rw [hy_it, h]⟩
-- reading and writing
def hy_gi (w : hy_W) (k ci j : Nat) : Option Int32 := match w.1[k]? with
  | some (.inl (c, fs)) => if c = ci ∧ 1 < k then (match fs[j]? with
    | some (.int x) => some x
    | _ => none) else none
  | _ => none
def hy_gr (w : hy_W) (k ci j : Nat) : Option Nat := match w.1[k]? with
  | some (.inl (c, fs)) => if c = ci ∧ 1 < k then (match fs[j]? with
    | some (.ref x) => some x
    | _ => none) else none
  | _ => none
/-- a field is written: an int, or a reference to a cell of the world -/
def hy_pf (w : hy_W) (k ci j : Nat) (v : Value) : Option hy_W := match w.1[k]? with
  | some (.inl (c, fs)) => if c = ci ∧ j < fs.length ∧ 1 < k then some (w.1.set k (.inl (c, fs.set j v)), w.2) else none
  | _ => none
/-- an index into n places -/
def hy_ix (i : Int32) (n : Nat) : Bool := decide (0 ≤ i) && decide (i.toNatClampNeg < n)
def hy_ai (w : hy_W) (k : Nat) (i : Int32) : Option Int32 := match w.1[k]? with
  | some (.inr (0, es)) => if hy_ix i es.length = true ∧ 1 < k then (match es[i.toNatClampNeg]? with
    | some (.int x) => some x
    | _ => none) else none
  | _ => none
def hy_al (w : hy_W) (k : Nat) (i : Int32) : Option Int64 := match w.1[k]? with
  | some (.inr (1, es)) => if hy_ix i es.length = true ∧ 1 < k then (match es[i.toNatClampNeg]? with
    | some (.long x) => some x
    | _ => none) else none
  | _ => none
/-- a reference out of an array of references (kinds 2 and 3) -/
def hy_ar (w : hy_W) (t k : Nat) (i : Int32) : Option Nat := match w.1[k]? with
  | some (.inr (u, es)) => if u = t ∧ hy_ix i es.length = true ∧ 1 < k then (match es[i.toNatClampNeg]? with
    | some (.ref x) => some x
    | _ => none) else none
  | _ => none
/-- a place of an array of kind t is written -/
def hy_pa (w : hy_W) (t k : Nat) (i : Int32) (v : Value) : Option hy_W := match w.1[k]? with
  | some (.inr (u, es)) => if u = t ∧ hy_ix i es.length = true ∧ 1 < k then some (w.1.set k (.inr (u, es.set i.toNatClampNeg v)), w.2) else none
  | _ => none
def hy_ln (w : hy_W) (t k : Nat) : Option Nat := match w.1[k]? with
  | some (.inr (u, es)) => if u = t then some es.length else none
  | _ => none
/-- a new cell of n slots -/
def hy_nw (w : hy_W) (c : hy_C) (n : Nat) : Option hy_W := if 1 ≤ w.2.1 ∧ n ≤ w.2.2 then some (w.1 ++ [c], w.2.1 - 1, w.2.2 - n) else none
/-- a thrown object -/
def hy_th (w : hy_W) : Option hy_W := if 1 ≤ w.2.1 ∧ 6 ≤ w.2.2 then some (w.1, w.2.1 - 1, w.2.2 - 6) else none
-- how a world lies in the heap
def hy_v (ad : Nat → Nat) (v : Value) : Value := match v with
  | .ref k => .ref (ad k)
  | u => u
theorem hy_v_int (ad : Nat → Nat) (x : Int32) : hy_v ad (.int x) = .int x := rfl
theorem hy_v_ref (ad : Nat → Nat) (k : Nat) : hy_v ad (.ref k) = .ref (ad k) := rfl
theorem hy_v_long (ad : Nat → Nat) (x : Int64) : hy_v ad (.long x) = .long x := rfl
def hy_oi (v : Value) : Int32 := match v with
  | .int x => x
  | _ => 0
def hy_ol (v : Value) : Int64 := match v with
  | .long x => x
  | _ => 0
def hy_or (ad : Nat → Nat) (v : Value) : Option Nat := match v with
  | .ref k => some (ad k)
  | _ => none
def hy_a (ad : Nat → Nat) (t : Nat) (es : List Value) : (Nat → Int32) ⊕ (Nat → Int64) ⊕ (Nat → UInt32) ⊕ (Nat → UInt64) ⊕ (Nat → Option Nat) := match t with
  | 0 => .inl (fun j => hy_oi (es.getD j .null))
  | 1 => .inr (.inl (fun j => hy_ol (es.getD j .null)))
  | _ => .inr (.inr (.inr (.inr (fun j => hy_or ad (es.getD j .null)))))
def hy_e (dA : Nat → ClassId) (ad : Nat → Nat) (c : hy_C) : va_E := match c with
  | .inl (ci, fs) => .inr (ci, fs.map (hy_v ad))
  | .inr (t, es) => .inl (dA t, es.length, hy_a ad t es)
/-- the cells behind places 0 and 1, each at its address -/
def hy_ws (dA : Nat → ClassId) (ad : Nat → Nat) (cs : List hy_C) : va_W := (cs.mapIdx (fun k c => (ad k, hy_e dA ad c))).drop 2
theorem hy_ws_get {dA : Nat → ClassId} {ad : Nat → Nat} {cs : List hy_C} {k : Nat} {c : hy_C} (h : cs[k + 2]? = some c) : (hy_ws dA ad cs)[k]? = some (ad (k + 2), hy_e dA ad c) := by
  rw [hy_ws, List.getElem?_drop, List.getElem?_mapIdx, Nat.add_comm 2 k, h]
  rfl
theorem hy_ws_of {dA : Nat → ClassId} {ad : Nat → Nat} {cs : List hy_C} {k : Nat} {q : Nat × va_E} (h : (hy_ws dA ad cs)[k]? = some q) : ∃ c, cs[k + 2]? = some c ∧ q = (ad (k + 2), hy_e dA ad c) := by
  rw [hy_ws, List.getElem?_drop, List.getElem?_mapIdx, Nat.add_comm 2 k] at h
  cases hc : cs[k + 2]? with
  | none => rw [hc] at h; cases h
  | some c =>
    rw [hc] at h
    exact ⟨c, rfl, (Option.some.inj h).symm⟩
theorem hy_ws_ext {a b : va_W} (h : ∀ k : Nat, a[k]? = b[k]?) : a = b := List.ext_getElem? h
theorem hy_ws_none {dA : Nat → ClassId} {ad : Nat → Nat} {cs : List hy_C} {k : Nat} (h : cs[k + 2]? = none) : (hy_ws dA ad cs)[k]? = none := by
  rw [hy_ws, List.getElem?_drop, List.getElem?_mapIdx, Nat.add_comm 2 k, h]
  rfl
theorem hy_ws_set {dA : Nat → ClassId} {ad : Nat → Nat} {cs : List hy_C} {k : Nat} (c : hy_C) : hy_ws dA ad (cs.set (k + 2) c) = (hy_ws dA ad cs).set k (ad (k + 2), hy_e dA ad c) := by
  refine hy_ws_ext fun j => ?_
  rw [List.getElem?_set]
  by_cases hj : k = j
  · subst hj
    rw [if_pos rfl]
    by_cases hl : k + 2 < cs.length
    · rw [hy_ws_get (c := c) (by rw [List.getElem?_set, if_pos rfl, if_pos hl]), if_pos]
      rw [hy_ws, List.length_drop, List.length_mapIdx]
      omega
    · rw [hy_ws_none (by rw [List.getElem?_set, if_pos rfl, if_neg hl]), if_neg]
      rw [hy_ws, List.length_drop, List.length_mapIdx]
      omega
  · rw [if_neg hj]
    cases hc : cs[j + 2]? with
    | none => rw [hy_ws_none hc, hy_ws_none (by rw [List.getElem?_set, if_neg (by omega)]; exact hc)]
    | some d => rw [hy_ws_get hc, hy_ws_get (by rw [List.getElem?_set, if_neg (by omega)]; exact hc)]
theorem hy_ws_push {dA : Nat → ClassId} {ad : Nat → Nat} {cs : List hy_C} (hc : 1 < cs.length) (c : hy_C) : hy_ws dA ad (cs ++ [c]) = hy_ws dA ad cs ++ [(ad cs.length, hy_e dA ad c)] := by
  refine hy_ws_ext fun j => ?_
  have hl : (hy_ws dA ad cs).length = cs.length - 2 := by rw [hy_ws, List.length_drop, List.length_mapIdx]
  rw [List.getElem?_append]
  by_cases h1 : j < cs.length - 2
  · rw [if_pos (by omega)]
    have hj : j + 2 < cs.length := by omega
    have e1 : cs[j + 2]? = some cs[j + 2] := List.getElem?_eq_getElem hj
    rw [hy_ws_get e1, hy_ws_get (c := cs[j + 2]) (by rw [List.getElem?_append, if_pos hj]; exact e1)]
  · rw [if_neg (by omega), hl]
    by_cases h2 : j + 2 = cs.length
    · rw [hy_ws_get (c := c) (by rw [List.getElem?_append, if_neg (by omega), h2]; simp), show j - (cs.length - 2) = 0 by omega, ← h2]
      rfl
    · rw [hy_ws_none (by rw [List.getElem?_append, if_neg (by omega)]; rw [List.getElem?_eq_none]; simp; omega), List.getElem?_eq_none]
      simp; omega
/-- all references of a world lead into it -/
def hy_cv (n : Nat) (v : Value) : Prop := ∀ k, v = .ref k → k < n
def hy_cc (n : Nat) (c : hy_C) : Prop := match c with
  | .inl (_, fs) => ∀ v ∈ fs, hy_cv n v
  | .inr (_, es) => ∀ v ∈ es, hy_cv n v
def hy_cl (cs : List hy_C) : Prop := ∀ c ∈ cs, hy_cc cs.length c
theorem hy_v_eq {ad ad' : Nat → Nat} {n : Nat} (h : ∀ j, j < n → ad' j = ad j) {v : Value} (hv : hy_cv n v) : hy_v ad' v = hy_v ad v := by
  cases v with
  | ref k => rw [hy_v_ref, hy_v_ref, h k (hv k rfl)]
  | _ => rfl
theorem hy_e_eq {dA : Nat → ClassId} {ad ad' : Nat → Nat} {n : Nat} (h : ∀ j, j < n → ad' j = ad j) {c : hy_C} (hc : hy_cc n c) : hy_e dA ad' c = hy_e dA ad c := by
  cases c with
  | inl o =>
    obtain ⟨ci, fs⟩ := o
    show (Sum.inr (ci, fs.map (hy_v ad')) : va_E) = _
    rw [List.map_congr_left fun v hv => hy_v_eq h (hc v hv)]
    rfl
  | inr o =>
    obtain ⟨t, es⟩ := o
    have ho : ∀ j, hy_or ad' (es.getD j .null) = hy_or ad (es.getD j .null) := by
      intro j
      rw [List.getD_eq_getElem?_getD]
      cases hj : es[j]? with
      | none => rfl
      | some v =>
        have := hc v (List.mem_of_getElem? hj)
        cases v with
        | ref k => simp [hy_or, h k (this k rfl)]
        | _ => rfl
    match t with
    | 0 => rfl
    | 1 => rfl
    | t + 2 => simp only [hy_e, hy_a, ho]
theorem hy_ws_eq {dA : Nat → ClassId} {ad ad' : Nat → Nat} {cs : List hy_C} {n : Nat} (h : ∀ j, j < n → ad' j = ad j) (hn : cs.length ≤ n) (hc : ∀ c ∈ cs, hy_cc n c) : hy_ws dA ad' cs = hy_ws dA ad cs := by
  refine hy_ws_ext fun j => ?_
  cases hj : cs[j + 2]? with
  | none => rw [hy_ws_none hj, hy_ws_none hj]
  | some c =>
    have hl := (List.getElem?_eq_some_iff.mp hj).1
    rw [hy_ws_get hj, hy_ws_get hj, hy_e_eq h (hc c (List.mem_of_getElem? hj)), h (j + 2) (by omega)]
theorem hy_cc_le {n m : Nat} (h : n ≤ m) {c : hy_C} (hc : hy_cc n c) : hy_cc m c := by
  cases c with
  | inl o => exact fun v hv k e => Nat.lt_of_lt_of_le (hc v hv k e) h
  | inr o => exact fun v hv k e => Nat.lt_of_lt_of_le (hc v hv k e) h
