/-! ROWS: new arrays, statics, comparisons of references, copies, casts -/
def hy_d (t : Nat) : Value := match t with
  | 0 => .int 0
  | 1 => .long 0
  | _ => .null
/-- a new array of kind t with i places -/
def hy_na (w : hy_W) (t : Nat) (i : Int32) : Option hy_W := if 0 ≤ i ∧ i.toNatClampNeg ≤ 65536 then hy_nw w (.inr (t, List.replicate i.toNatClampNeg (hy_d t))) i.toNatClampNeg else none
/-- the clone of an array of ints -/
def hy_cn (w : hy_W) (k : Nat) : Option hy_W := match w.1[k]? with
  | some (.inr (0, es)) => if 1 < k then hy_nw w (.inr (0, es)) es.length else none
  | _ => none
def hy_cp (es fs : List Value) (a b n : Nat) : List Value := fs.take b ++ ((es.drop a).take n ++ fs.drop (b + n))
/-- every element is null or a Rule -/
def hy_ru (w : hy_W) (es : List Value) : Bool := es.all fun v => match v with
  | .null => true
  | .ref r => (match w.1[r]? with
    | some (.inl (4, _)) => decide (1 < r)
    | _ => false)
  | _ => false
/-- System.arraycopy between two arrays of kind t (0, or 3 with Rules in it) -/
def hy_ac (w : hy_W) (t k1 k2 : Nat) (sp dp n : Int32) : Option hy_W := match w.1[k1]?, w.1[k2]? with
  | some (.inr (t1, es)), some (.inr (t2, fs)) =>
    if t1 = t ∧ t2 = t ∧ 1 < k1 ∧ 1 < k2 ∧ 0 ≤ sp ∧ 0 ≤ dp ∧ 0 ≤ n ∧ sp.toNatClampNeg + n.toNatClampNeg ≤ es.length ∧ dp.toNatClampNeg + n.toNatClampNeg ≤ fs.length ∧ (t = 3 → hy_ru w es = true) then some (w.1.set k2 (.inr (t, hy_cp es fs sp.toNatClampNeg dp.toNatClampNeg n.toNatClampNeg)), w.2) else none
  | _, _ => none
theorem hy_cp_len {es fs : List Value} {a b n : Nat} (h1 : a + n ≤ es.length) (h2 : b + n ≤ fs.length) : (hy_cp es fs a b n).length = fs.length := by
  simp [hy_cp]; omega
theorem hy_cp_get {α : Type} (g : Value → α) {es fs : List Value} {a b n : Nat} (h1 : a + n ≤ es.length) (h2 : b + n ≤ fs.length) : (fun j => g ((hy_cp es fs a b n).getD j .null)) = va_cpy (fun j => g (es.getD j .null)) (fun j => g (fs.getD j .null)) a b n := by
  funext j
  unfold va_cpy
  by_cases c1 : j < b
  · rw [if_neg (by omega)]
    congr 1
    rw [List.getD_eq_getElem?_getD, List.getD_eq_getElem?_getD, hy_cp, List.getElem?_append_left (by simp; omega), List.getElem?_take, if_pos c1]
  · by_cases c2 : j < b + n
    · rw [if_pos ⟨by omega, c2⟩]
      congr 1
      have e1 : (fs.take b).length = b := by simp; omega
      have e2 : ((es.drop a).take n).length = n := by simp; omega
      rw [List.getD_eq_getElem?_getD, List.getD_eq_getElem?_getD, hy_cp, List.getElem?_append_right (by omega), e1, List.getElem?_append_left (by omega), List.getElem?_take, if_pos (by omega), List.getElem?_drop]
    · rw [if_neg (by omega)]
      congr 1
      have e1 : (fs.take b).length = b := by simp; omega
      have e2 : ((es.drop a).take n).length = n := by simp; omega
      rw [List.getD_eq_getElem?_getD, List.getD_eq_getElem?_getD, hy_cp, List.getElem?_append_right (by omega), e1, List.getElem?_append_right (by omega), e2, List.getElem?_drop, show b + n + (j - b - n) = j by omega]
section HYM
variable {p : Program} {l : Launch} {e : Env} {R : Room} {s : State} {m : MethodId} {args : Array Value} {below : List Frame} {meth : Method} {c : Code} {H : Heap} {locs : List Loc} {cells slots : Nat} {Q : State → Prop}
variable {own : String} {cc : ByteArray} {nL : Nat} {ret : Option FieldType} {hh : List (Nat × Nat × Nat × Nat)} {G : hy_G} {A : Nat → Prop} {ad0 ad : Nat → Nat} {n0 : Nat} {w0 w w' : hy_W} {pc : Nat} {ls : Array Slot} {rest : List Value} {k a : Nat}
theorem hy_na_spec {t : Nat} {i : Int32} (h : hy_na w t i = some w') : 0 ≤ i ∧ i.toNatClampNeg ≤ 65536 ∧ hy_nw w (.inr (t, List.replicate i.toNatClampNeg (hy_d t))) i.toNatClampNeg = some w' := by
  unfold hy_na at h
  split at h
  · rename_i hc
    exact ⟨hc.1, hc.2, h⟩
  · cases h
theorem hy_rep (n : Nat) (v : Value) (j : Nat) : (List.replicate n v).getD j .null = v ∨ (List.replicate n v).getD j .null = .null := by
  rw [List.getD_eq_getElem?_getD, List.getElem?_replicate]
  split
  · exact Or.inl rfl
  · exact Or.inr rfl
theorem hy_newi (B : hy_B p l e R s m args below meth c own cc nL ret hh G A) (S : hy_S G A R s ad0 n0 ad w H locs cells slots) {i : Int32} (hx : hy_na w 0 i = some w') (hdg : decode cc pc = .ok (.newarray .int, 2))
    (kk : ∀ (ad1 : Nat → Nat) (q : Nat) (H1 : Heap) (slots1 : Nat), (∀ j, j < w.1.length → ad1 j = ad j) → ad1 w.1.length = q → hy_S G A R s ad0 n0 ad1 w' H1 locs (cells + 1) slots1 → w'.1.length = w.1.length + 1 → W p l e R s m args below meth c H1 locs (cells + 1) slots1 Q (F0 m (pc + 2) ls (.ref q :: rest))) : W p l e R s m args below meth c H locs cells slots Q (F0 m pc ls (.int i :: rest)) := by
  obtain ⟨y1, y2, hn⟩ := hy_na_spec hx
  obtain ⟨x1, x2, e0⟩ := hy_nw_spec hn
  have hK := B.2.2.2.2.2.2.2.2.2.1.1
  have hz : ∀ j, hy_oi ((List.replicate i.toNatClampNeg (hy_d 0)).getD j .null) = 0 := fun j => by rcases hy_rep i.toNatClampNeg (hy_d 0) j with h | h <;> rw [h] <;> rfl
  refine va_newa (D := G.1) (atype := .int) (a0 := (i.toNatClampNeg, .inl (fun j => hy_oi ((List.replicate i.toNatClampNeg (hy_d 0)).getD j .null)))) B.1 B.2.1 (B.2.2.2.2.1 _ tw_56) rfl hK S.1.1 S.1.2.1 S.2.1 B.2.2.2.2.2.2.2.2.1 (N' := i.toNatClampNeg) (fun cA => by rw [vp_cell_i]; simp only [hz]; rfl) (Int32.not_lt.mpr y1) rfl (by show i.toNatClampNeg * 4 ≤ _; omega) (by have := S.2.2.2.2.1; omega) (by have := S.2.2.2.2.2; omega) hdg (fun q cA H1 hK1 hP hD hS => ?_)
  have ec : cA = G.2.1 0 := by
    have h1 : s.vm.findClass ("[" ++ FieldType.int.toString) = some cA := (hK1.2 4 _ rfl).2
    have h2 : s.vm.findClass ("[" ++ FieldType.int.toString) = some (G.2.1 0) := (hK.2 0 _ rfl).2
    exact Option.some.inj (h1.symm.trans h2)
  subst ec
  exact kk (va_up ad w.1.length q) q H1 _ (fun j hj => va_up_ne ad q (by omega)) (va_up_self ad _ q) (S.push hn (fun v hv k e => by rw [List.eq_of_mem_replicate hv] at e; cases e) (by show (Sum.inl (G.2.1 0, (List.replicate _ _).length, _) : va_E) = _; rw [List.length_replicate]; rfl) hP hD hS) (by rw [e0]; simp)
theorem hy_newl (B : hy_B p l e R s m args below meth c own cc nL ret hh G A) (S : hy_S G A R s ad0 n0 ad w H locs cells slots) {i : Int32} (hx : hy_na w 1 i = some w') (hdg : decode cc pc = .ok (.newarray .long, 2))
    (kk : ∀ (ad1 : Nat → Nat) (q : Nat) (H1 : Heap) (slots1 : Nat), (∀ j, j < w.1.length → ad1 j = ad j) → ad1 w.1.length = q → hy_S G A R s ad0 n0 ad1 w' H1 locs (cells + 1) slots1 → w'.1.length = w.1.length + 1 → W p l e R s m args below meth c H1 locs (cells + 1) slots1 Q (F0 m (pc + 2) ls (.ref q :: rest))) : W p l e R s m args below meth c H locs cells slots Q (F0 m pc ls (.int i :: rest)) := by
  obtain ⟨y1, y2, hn⟩ := hy_na_spec hx
  obtain ⟨x1, x2, e0⟩ := hy_nw_spec hn
  have hK := B.2.2.2.2.2.2.2.2.2.1.1
  have hz : ∀ j, hy_ol ((List.replicate i.toNatClampNeg (hy_d 1)).getD j .null) = 0 := fun j => by rcases hy_rep i.toNatClampNeg (hy_d 1) j with h | h <;> rw [h] <;> rfl
  refine va_newa (D := G.1) (atype := .long) (a0 := (i.toNatClampNeg, .inr (.inl (fun j => hy_ol ((List.replicate i.toNatClampNeg (hy_d 1)).getD j .null))))) B.1 B.2.1 (B.2.2.2.2.1 _ tw_906) rfl hK S.1.1 S.1.2.1 S.2.1 B.2.2.2.2.2.2.2.2.1 (N' := i.toNatClampNeg) (fun cA => by rw [vp_cell_l]; simp only [hz]; rfl) (Int32.not_lt.mpr y1) rfl (by show i.toNatClampNeg * 8 ≤ _; omega) (by have := S.2.2.2.2.1; omega) (by have := S.2.2.2.2.2; omega) hdg (fun q cA H1 hK1 hP hD hS => ?_)
  have ec : cA = G.2.1 1 := by
    have h1 : s.vm.findClass ("[" ++ FieldType.long.toString) = some cA := (hK1.2 4 _ rfl).2
    have h2 : s.vm.findClass ("[" ++ FieldType.long.toString) = some (G.2.1 1) := (hK.2 1 _ rfl).2
    exact Option.some.inj (h1.symm.trans h2)
  subst ec
  exact kk (va_up ad w.1.length q) q H1 _ (fun j hj => va_up_ne ad q (by omega)) (va_up_self ad _ q) (S.push hn (fun v hv k e => by rw [List.eq_of_mem_replicate hv] at e; cases e) (by show (Sum.inl (G.2.1 1, (List.replicate _ _).length, _) : va_E) = _; rw [List.length_replicate]; rfl) hP hD hS) (by rw [e0]; simp)
theorem hy_newq (B : hy_B p l e R s m args below meth c own cc nL ret hh G A) (S : hy_S G A R s ad0 n0 ad w H locs cells slots) {t : Nat} {i : Int32} (hx : hy_na w t i = some w') {C : String} {index : Nat} (ht1 : 1 < t) (ht : (hy_tys G.2.1)[t]? = some (G.2.1 t, .object C)) (hcl : Cond.classLink own index C ∈ hy_T) (hao : va_AO C s) (hdg : decode cc pc = .ok (.anewarray index, 3))
    (kk : ∀ (ad1 : Nat → Nat) (q : Nat) (H1 : Heap) (slots1 : Nat), (∀ j, j < w.1.length → ad1 j = ad j) → ad1 w.1.length = q → hy_S G A R s ad0 n0 ad1 w' H1 locs (cells + 1) slots1 → w'.1.length = w.1.length + 1 → W p l e R s m args below meth c H1 locs (cells + 1) slots1 Q (F0 m (pc + 3) ls (.ref q :: rest))) : W p l e R s m args below meth c H locs cells slots Q (F0 m pc ls (.int i :: rest)) := by
  obtain ⟨y1, y2, hn⟩ := hy_na_spec hx
  obtain ⟨x1, x2, e0⟩ := hy_nw_spec hn
  have hK := B.2.2.2.2.2.2.2.2.2.1.1
  have hd : hy_d t = .null := by
    match t, ht1 with
    | t + 2, _ => rfl
  have hz : ∀ (f : Nat → Nat) (j : Nat), hy_or f ((List.replicate i.toNatClampNeg (hy_d t)).getD j .null) = none := fun f j => by rw [hd]; rcases hy_rep i.toNatClampNeg .null j with h | h <;> rw [h] <;> rfl
  refine va_newq (D := G.1) B.1 B.2.1 B.2.2.2.1 (B.2.2.2.2.1 _ hcl) hao hK S.1.1 S.1.2.1 S.2.1 B.2.2.2.2.2.2.2.2.1 (N' := i.toNatClampNeg) (Int32.not_lt.mpr y1) rfl (by omega) (by have := S.2.2.2.2.1; omega) (by have := S.2.2.2.2.2; omega) hdg (fun q cA H1 hK1 hP hD hS => ?_)
  have ec : cA = G.2.1 t := by
    obtain ⟨-, -, -, -, -, h1⟩ := (hK1.2 4 _ rfl).2
    obtain ⟨-, -, -, -, -, h2⟩ := (hK.2 t _ ht).2
    exact Option.some.inj (h1.symm.trans h2)
  subst ec
  exact kk (va_up ad w.1.length q) q H1 _ (fun j hj => va_up_ne ad q (by omega)) (va_up_self ad _ q) (S.push hn (fun v hv k e => by rw [List.eq_of_mem_replicate hv, hd] at e; cases e) (by rw [hy_e_q ht1, List.length_replicate]; simp only [hz]) hP hD hS) (by rw [e0]; simp)
/-- ArrayList's own empty array -/
theorem hy_gets (B : hy_B p l e R s m args below meth c own cc nL ret hh G A) (S : hy_S G A R s ad0 n0 ad w H locs cells slots) {index : Nat} (hlink : Cond.fieldLink own index "java/util/ArrayList" "DEFAULTCAPACITY_EMPTY_ELEMENTDATA" "[Ljava/lang/Object;" ∈ hy_T) (hdg : decode cc pc = .ok (.getstatic index, 3))
    (kk : ∀ b : Nat, ad 0 = b → 0 < w.1.length → W p l e R s m args below meth c H locs cells slots Q (F0 m (pc + 3) ls (.ref b :: rest))) : W p l e R s m args below meth c H locs cells slots Q (F0 m pc ls rest) :=
  va_gets B.1 B.2.1 B.2.2.2.2.2.2.2.2.2.1.2.2.2.2.2.2.1 S.2.1 B.2.2.2.1 (B.2.2.2.2.1 _ hlink) (fun _ h => h) hdg (kk _ S.1.2.2.2.2.1 (by have := S.1.2.2.2.1; omega))
/-- places and addresses -/
theorem hy_inj (B : hy_B p l e R s m args below meth c own cc nL ret hh G A) (S : hy_S G A R s ad0 n0 ad w H locs cells slots) {r1 r2 : Nat} (h1 : r1 < w.1.length) (h2 : r2 < w.1.length) (n1 : r1 ≠ 1) (n2 : r2 ≠ 1) (he : ad r1 = ad r2) : r1 = r2 := by
  have key : ∀ r, r < w.1.length → 1 < r → ∃ q c0, r = q + 2 ∧ (hy_ws G.2.1 ad w.1)[q]? = some (ad r, c0) := fun r hr hr1 => by
    obtain ⟨q, e1, hq⟩ := hy_place (G := G) (ad := ad) (c0 := w.1[r]) hr1 (List.getElem?_eq_getElem hr)
    exact ⟨q, _, e1, hq⟩
  have hout : ¬ A (ad 0) := by rw [S.1.2.2.2.2.1]; exact B.2.2.2.2.2.2.2.2.2.1.2.2.2.2.2.2.2.1.out
  by_cases z1 : r1 = 0
  · by_cases z2 : r2 = 0
    · omega
    · obtain ⟨q, c0, e1, hq⟩ := key r2 h2 (by omega)
      exact absurd (by rw [← z1, he]; exact S.1.2.1.2 q _ hq) hout
  · obtain ⟨q, c0, e1, hq⟩ := key r1 h1 (by omega)
    by_cases z2 : r2 = 0
    · exact absurd (by rw [← z2, ← he]; exact S.1.2.1.2 q _ hq) hout
    · obtain ⟨q', c0', e1', hq'⟩ := key r2 h2 (by omega)
      have := S.1.2.1.1 q q' _ _ hq hq' he
      omega
theorem hy_acmp_eq (B : hy_B p l e R s m args below meth c own cc nL ret hh G A) (S : hy_S G A R s ad0 n0 ad w H locs cells slots) {r1 r2 a1 a2 : Nat} (e1 : ad r1 = a1) (e2 : ad r2 = a2) (l1 : r1 < w.1.length) (l2 : r2 < w.1.length) (hn : r1 = r2 ∨ (r1 ≠ 1 ∧ r2 ≠ 1)) {off : Int} {tgt : Nat} (hdg : decode cc pc = .ok (.if_acmp .eq off, 3)) (ht : (pc : Int) + off = (tgt : Int))
    (kt : r1 = r2 → W p l e R s m args below meth c H locs cells slots Q (F0 m tgt ls rest)) (kf : ¬ r1 = r2 → W p l e R s m args below meth c H locs cells slots Q (F0 m (pc + 3) ls rest)) : W p l e R s m args below meth c H locs cells slots Q (F0 m pc ls (.ref a2 :: .ref a1 :: rest)) := by
  subst e1 e2
  refine lv_acmp_eq (rx := some (ad r1)) (ry := some (ad r2)) B.1 B.2.1 hdg ht (fun h => kt ?_) (fun h => kf (fun z => h (by rw [z])))
  rcases hn with h' | h'
  · exact h'
  · exact hy_inj B S l1 l2 h'.1 h'.2 (Option.some.inj h)
theorem hy_acmp_ne (B : hy_B p l e R s m args below meth c own cc nL ret hh G A) (S : hy_S G A R s ad0 n0 ad w H locs cells slots) {r1 r2 a1 a2 : Nat} (e1 : ad r1 = a1) (e2 : ad r2 = a2) (l1 : r1 < w.1.length) (l2 : r2 < w.1.length) (hn : r1 = r2 ∨ (r1 ≠ 1 ∧ r2 ≠ 1)) {off : Int} {tgt : Nat} (hdg : decode cc pc = .ok (.if_acmp .ne off, 3)) (ht : (pc : Int) + off = (tgt : Int))
    (kt : ¬ r1 = r2 → W p l e R s m args below meth c H locs cells slots Q (F0 m tgt ls rest)) (kf : r1 = r2 → W p l e R s m args below meth c H locs cells slots Q (F0 m (pc + 3) ls rest)) : W p l e R s m args below meth c H locs cells slots Q (F0 m pc ls (.ref a2 :: .ref a1 :: rest)) := by
  subst e1 e2
  refine lv_acmp_ne (rx := some (ad r1)) (ry := some (ad r2)) B.1 B.2.1 hdg ht (fun h => kt (fun z => h (by rw [z]))) (fun h => kf ?_)
  rcases hn with h' | h'
  · exact h'
  · exact hy_inj B S l1 l2 h'.1 h'.2 (Option.some.inj h)
theorem hy_cn_spec (h : hy_cn w k = some w') : ∃ es, w.1[k]? = some (.inr (0, es)) ∧ 1 < k ∧ hy_nw w (.inr (0, es)) es.length = some w' := by
  unfold hy_cn at h
  split at h
  · rename_i es hw
    split at h
    · rename_i hc
      exact ⟨es, hw, hc, h⟩
    · cases h
  · cases h
theorem hy_fit0 (f : Nat → Int32) (cA : ClassId) (n : Nat) : ∀ (i : Nat) (v : Value), (vp_cell cA (n, .inl f)).slots[i]? = some v → fits .int v = true := by
  intro i v h
  rw [vp_cell_i] at h
  have hi : i < n := by
    have := (Array.getElem?_eq_some_iff.mp h).1
    rwa [arrV_size] at this
  have e1 : (arrV cA n (fun j => Value.int (f j))).slots[i]? = some (.int (f i)) := by simp [arrV, hi]
  rw [e1] at h
  cases h
  rfl
theorem hy_clone (B : hy_B p l e R s m args below meth c own cc nL ret hh G A) (S : hy_S G A R s ad0 n0 ad w H locs cells slots) (ha : ad k = a) (hx : hy_cn w k = some w') {index : Nat} (hlink : Cond.methodLink own index ⟨"[I", "clone", "()Ljava/lang/Object;"⟩ ∈ hy_T) (hsame : Cond.sameMethod "[I" "java/lang/Object" "clone" "()Ljava/lang/Object;" ∈ hy_T) (hnat : Cond.native ⟨"java/lang/Object", "clone", "()Ljava/lang/Object;"⟩ ∈ hy_T) (hinst : Cond.instanceMethod ⟨"java/lang/Object", "clone", "()Ljava/lang/Object;"⟩ ∈ hy_T)
    (hsel : Cond.selects "[I" ⟨"[I", "clone", "()Ljava/lang/Object;"⟩ ⟨"java/lang/Object", "clone", "()Ljava/lang/Object;"⟩ ∈ hy_T) (hcl : Cond.castable "[I" "java/lang/Cloneable" ∈ hy_LN) (hsz : ls.size = nL) (hfr : 1 ≤ R.frames) (hlo : (rest.map fun v => v.category).sum + 14 ≤ R.locals) (hdg : decode cc pc = .ok (.invokevirtual index, 3))
    (kk : ∀ (ad1 : Nat → Nat) (q : Nat) (H1 : Heap) (slots1 : Nat), (∀ j, j < w.1.length → ad1 j = ad j) → ad1 w.1.length = q → hy_S G A R s ad0 n0 ad1 w' H1 locs (cells + 1) slots1 → w'.1.length = w.1.length + 1 → W p l e R s m args below meth c H1 locs (cells + 1) slots1 Q (F0 m (pc + 3) ls (.ref q :: rest))) : W p l e R s m args below meth c H locs cells slots Q (F0 m pc ls (.ref a :: rest)) := by
  obtain ⟨es, hw, hk, hn⟩ := hy_cn_spec hx
  obtain ⟨x1, x2, e0⟩ := hy_nw_spec hn
  obtain ⟨q0, -, hq⟩ := hy_place (G := G) (ad := ad) hk hw
  subst ha
  have hK := B.2.2.2.2.2.2.2.2.2.1.1
  have hnm : s.vm.findClass "[I" = some (G.2.1 0) := (hK.2 0 _ rfl).2
  have hcc : hy_cc (w.1.length + 1) (.inr (0, es)) := hy_cc_le (Nat.le_succ _) (S.1.2.2.1 _ (List.mem_of_getElem? hw))
  refine va_clone (D := G.1) B.1 B.2.1 (by rw [B.2.2.1, hsz]) B.2.2.2.1 (B.2.2.2.2.1 _ hlink) (B.2.2.2.2.1 _ hsame) (B.2.2.2.2.1 _ hnat) (B.2.2.2.2.1 _ hinst) (B.2.2.2.2.1 _ hsel) (B.2.2.2.2.2.2.2.2.2.1.2.1 _ hcl) hK S.1.1 S.1.2.1 S.2.1 B.2.2.2.2.2.2.2.2.1 q0 0 hq rfl hnm (hy_fit0 _ _ _) hfr hlo (by have := S.2.2.2.2.1; omega) (by have := S.2.2.2.2.2; show slots + es.length ≤ _; omega) hdg (fun q H1 hK1 hP hD hS => ?_)
  exact kk (va_up ad w.1.length q) q H1 _ (fun j hj => va_up_ne ad q (by omega)) (va_up_self ad _ q) (S.push hn hcc rfl hP hD hS) (by rw [e0]; simp)
theorem hy_ac_spec {t k1 k2 : Nat} {sp dp n : Int32} (h : hy_ac w t k1 k2 sp dp n = some w') : ∃ es fs, w.1[k1]? = some (.inr (t, es)) ∧ w.1[k2]? = some (.inr (t, fs)) ∧ 1 < k1 ∧ 1 < k2 ∧ 0 ≤ sp ∧ 0 ≤ dp ∧ 0 ≤ n ∧ sp.toNatClampNeg + n.toNatClampNeg ≤ es.length ∧ dp.toNatClampNeg + n.toNatClampNeg ≤ fs.length ∧ (t = 3 → hy_ru w es = true) ∧ w' = (w.1.set k2 (.inr (t, hy_cp es fs sp.toNatClampNeg dp.toNatClampNeg n.toNatClampNeg)), w.2) := by
  unfold hy_ac at h
  split at h
  · rename_i t1 es t2 fs hw1 hw2
    split at h
    · rename_i hc
      obtain ⟨rfl, rfl, h3, h4, h5, h6, h7, h8, h9, h10⟩ := hc
      exact ⟨es, fs, hw1, hw2, h3, h4, h5, h6, h7, h8, h9, h10, (Option.some.inj h).symm⟩
    · cases h
  · cases h
theorem hy_cp_cv {es fs : List Value} {a b n N : Nat} (h1 : ∀ v ∈ es, hy_cv N v) (h2 : ∀ v ∈ fs, hy_cv N v) : ∀ v ∈ hy_cp es fs a b n, hy_cv N v := by
  intro v hv
  simp only [hy_cp, List.mem_append] at hv
  rcases hv with h | h | h
  · exact h2 v (List.mem_of_mem_take h)
  · exact h1 v (List.mem_of_mem_drop (List.mem_of_mem_take h))
  · exact h2 v (List.mem_of_mem_drop h)
theorem hy_copyi (B : hy_B p l e R s m args below meth c own cc nL ret hh G A) (S : hy_S G A R s ad0 n0 ad w H locs cells slots) {k1 k2 a1 a2 : Nat} (e1 : ad k1 = a1) (e2 : ad k2 = a2) {sp dp n : Int32} (hx : hy_ac w 0 k1 k2 sp dp n = some w') {index : Nat} (hlink : Cond.methodLink own index arraycopyName ∈ hy_T) (hnat : Cond.native arraycopyName ∈ hy_T) (hstat : Cond.static arraycopyName ∈ hy_T) (hini : Cond.initialized "java/lang/System" ∈ hy_T)
    (hsz : ls.size = nL) (hfr : 1 ≤ R.frames) (hlo : (rest.map fun v => v.category).sum + (nativeFrameWords "java/lang/System" "arraycopy" 5 + 11) ≤ R.locals) (hdg : decode cc pc = .ok (.invokestatic index, 3))
    (kk : ∀ (H1 : Heap) (locs1 : List Loc), hy_S G A R s ad0 n0 ad w' H1 locs1 cells slots → w'.1.length = w.1.length → W p l e R s m args below meth c H1 locs1 cells slots Q (F0 m (pc + 3) ls rest)) : W p l e R s m args below meth c H locs cells slots Q (F0 m pc ls (.int n :: .int dp :: .ref a2 :: .int sp :: .ref a1 :: rest)) := by
  obtain ⟨es, fs, hw1, hw2, h3, h4, h5, h6, h7, h8, h9, -, rfl⟩ := hy_ac_spec hx
  obtain ⟨q1, -, hq1⟩ := hy_place (G := G) (ad := ad) h3 hw1
  obtain ⟨q2, e3, hq2⟩ := hy_place (G := G) (ad := ad) h4 hw2
  subst e1 e2
  refine va_copyi (D := G.1) B.1 B.2.1 (by rw [B.2.2.1, hsz]) B.2.2.2.1 (B.2.2.2.2.1 _ hlink) (B.2.2.2.2.1 _ hnat) (B.2.2.2.2.1 _ hstat) (B.2.2.2.2.1 _ hini) B.2.2.2.2.2.2.2.2.2.1.1 S.1.1 S.1.2.1 S.2.1 q1 q2 0 0 hq1 hq2 rfl rfl rfl (Int32.not_lt.mpr h5) (Int32.not_lt.mpr h6) (Int32.not_lt.mpr h7) h8 h9 (fun _ _ => rfl) hfr hlo hdg (fun H1 locs1 hP hD hS => kk H1 locs1 ?_ (List.length_set ..))
  have e4 : (hy_e G.2.1 ad (.inr (0, hy_cp es fs sp.toNatClampNeg dp.toNatClampNeg n.toNatClampNeg)) : va_E) = .inl (G.2.1 0, fs.length, .inl (va_cpy (fun j => hy_oi (es.getD j .null)) (fun j => hy_oi (fs.getD j .null)) sp.toNatClampNeg dp.toNatClampNeg n.toNatClampNeg)) := by
    rw [← hy_cp_get hy_oi h8 h9, ← hy_cp_len h8 h9]
    rfl
  exact S.put h4 (hy_cp_cv (S.1.2.2.1 _ (List.mem_of_getElem? hw1)) (S.1.2.2.1 _ (List.mem_of_getElem? hw2))) (by rw [e4, show k2 - 2 = q2 by omega]; exact hP) (by rw [e4, show k2 - 2 = q2 by omega]; exact hD) hS
theorem hy_copyq (B : hy_B p l e R s m args below meth c own cc nL ret hh G A) (S : hy_S G A R s ad0 n0 ad w H locs cells slots) {k1 k2 a1 a2 : Nat} (e1 : ad k1 = a1) (e2 : ad k2 = a2) {sp dp n : Int32} (hx : hy_ac w 3 k1 k2 sp dp n = some w') {index : Nat} (hlink : Cond.methodLink own index arraycopyName ∈ hy_T) (hnat : Cond.native arraycopyName ∈ hy_T) (hstat : Cond.static arraycopyName ∈ hy_T) (hini : Cond.initialized "java/lang/System" ∈ hy_T) (hca : Cond.castable R_4 "java/lang/Object" ∈ hy_LN)
    (hsz : ls.size = nL) (hfr : 1 ≤ R.frames) (hlo : (rest.map fun v => v.category).sum + (nativeFrameWords "java/lang/System" "arraycopy" 5 + 11) ≤ R.locals) (hdg : decode cc pc = .ok (.invokestatic index, 3))
    (kk : ∀ (H1 : Heap) (locs1 : List Loc), hy_S G A R s ad0 n0 ad w' H1 locs1 cells slots → w'.1.length = w.1.length → W p l e R s m args below meth c H1 locs1 cells slots Q (F0 m (pc + 3) ls rest)) : W p l e R s m args below meth c H locs cells slots Q (F0 m pc ls (.int n :: .int dp :: .ref a2 :: .int sp :: .ref a1 :: rest)) := by
  obtain ⟨es, fs, hw1, hw2, h3, h4, h5, h6, h7, h8, h9, h10, rfl⟩ := hy_ac_spec hx
  obtain ⟨q1, -, hq1⟩ := hy_place (G := G) (ad := ad) h3 hw1
  obtain ⟨q2, e3, hq2⟩ := hy_place (G := G) (ad := ad) h4 hw2
  subst e1 e2
  have hK := B.2.2.2.2.2.2.2.2.2.1.1
  have hru := h10 rfl
  rw [hy_e_q (by omega)] at hq1 hq2
  refine va_copyq (D := G.1) (C := R_4) B.1 B.2.1 (by rw [B.2.2.1, hsz]) B.2.2.2.1 (B.2.2.2.2.1 _ hlink) (B.2.2.2.2.1 _ hnat) (B.2.2.2.2.1 _ hstat) (B.2.2.2.2.1 _ hini) hK S.1.1 S.1.2.1 S.2.1 q1 q2 3 3 hq1 hq2 rfl rfl (Int32.not_lt.mpr h5) (Int32.not_lt.mpr h6) (Int32.not_lt.mpr h7) h8 h9 (fun i hi y hy => ?_) (fun comp c0 g1 g2 => ?_) hfr hlo hdg (fun H1 locs1 hP hD hS => kk H1 locs1 ?_ (List.length_set ..))
  · rw [List.getD_eq_getElem?_getD] at hy
    cases hv : es[sp.toNatClampNeg + i]? with
    | none => rw [hv] at hy; cases hy
    | some v =>
      rw [hv] at hy
      have hall := List.all_eq_true.mp hru v (List.mem_of_getElem? hv)
      cases v with
      | ref r =>
        have hyr : ad r = y := Option.some.inj hy
        subst hyr
        simp only at hall
        split at hall
        · rename_i fs4 hr
          obtain ⟨qr, -, hqr⟩ := hy_place (G := G) (ad := ad) (of_decide_eq_true hall) hr
          exact va_recv (q := (R_4, F_4, 2)) hK S.1.1 rfl hqr
        · cases hall
      | _ => cases hy
  · obtain ⟨c1, t1, f1, f2, f3⟩ := Cond.castable_spec (va_Nw.use (A := args) rfl (B.2.2.2.2.2.2.2.2.2.1.2.1 _ hca))
    cases f1.symm.trans g2
    cases f2.symm.trans g1
    exact f3
  · have e4 : (hy_e G.2.1 ad (.inr (3, hy_cp es fs sp.toNatClampNeg dp.toNatClampNeg n.toNatClampNeg)) : va_E) = .inl (G.2.1 3, fs.length, .inr (.inr (.inr (.inr (va_cpy (fun j => hy_or ad (es.getD j .null)) (fun j => hy_or ad (fs.getD j .null)) sp.toNatClampNeg dp.toNatClampNeg n.toNatClampNeg))))) := by
      rw [← hy_cp_get (hy_or ad) h8 h9, ← hy_cp_len h8 h9]
      rfl
    exact S.put h4 (hy_cp_cv (S.1.2.2.1 _ (List.mem_of_getElem? hw1)) (S.1.2.2.1 _ (List.mem_of_getElem? hw2))) (by rw [e4, show k2 - 2 = q2 by omega]; exact hP) (by rw [e4, show k2 - 2 = q2 by omega]; exact hD) hS
/-- a cast to the object's own class; to an array's own class -/
theorem hy_cast (B : hy_B p l e R s m args below meth c own cc nL ret hh G A) (S : hy_S G A R s ad0 n0 ad w H locs cells slots) (ha : ad k = a) {ci : Nat} {fs : List Value} (hr : w.1[k]? = some (.inl (ci, fs))) (hk : 1 < k) {C : String} {T : u_T} {N : Nat} (hc : hy_K[ci]? = some (C, T, N)) {index : Nat} (hlink : Cond.classLink own index C ∈ hy_T) (hdg : decode cc pc = .ok (.checkcast index, 3))
    (kk : W p l e R s m args below meth c H locs cells slots Q (F0 m (pc + 3) ls (.ref a :: rest))) : W p l e R s m args below meth c H locs cells slots Q (F0 m pc ls (.ref a :: rest)) := by
  obtain ⟨q, -, hq⟩ := hy_place (G := G) (ad := ad) hk hr
  subst ha
  have hK := B.2.2.2.2.2.2.2.2.2.1.1
  exact va_castS B.1 B.2.1 B.2.2.2.1 (B.2.2.2.2.1 _ hlink) (hK.1 ci _ hc).2 (va_recv (q := (C, T, N)) hK S.1.1 hc hq) hdg kk
theorem hy_castA (B : hy_B p l e R s m args below meth c own cc nL ret hh G A) (S : hy_S G A R s ad0 n0 ad w H locs cells slots) (ha : ad k = a) {t : Nat} {es : List Value} (hr : w.1[k]? = some (.inr (t, es))) (hk : 1 < k) {nm : String} (hnm : s.vm.findClass nm = some (G.2.1 t)) {index : Nat} (hlink : Cond.classLink own index nm ∈ hy_T) (hdg : decode cc pc = .ok (.checkcast index, 3))
    (kk : W p l e R s m args below meth c H locs cells slots Q (F0 m (pc + 3) ls (.ref a :: rest))) : W p l e R s m args below meth c H locs cells slots Q (F0 m pc ls (.ref a :: rest)) := by
  obtain ⟨q, -, hq⟩ := hy_place (G := G) (ad := ad) hk hr
  subst ha
  exact va_castA B.1 B.2.1 B.2.2.2.1 (B.2.2.2.2.1 _ hlink) S.1.1 q hq hnm hdg kk
end HYM
