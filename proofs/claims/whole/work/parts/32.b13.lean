/-! BODIES (printed by our translator): M_begin, M_end, M_letterAt, M_exceptionFor, M_isAt, M_wordValue, M_valueOf -/
theorem d_M_begin_0 : decode b_M_begin 0 = .ok (.iload_n 1, 1) := by decide +kernel
theorem d_M_begin_1 : decode b_M_begin 1 = .ok (.istore_n 2, 1) := by decide +kernel
theorem d_M_begin_2 : decode b_M_begin 2 = .ok (.aload_n 0, 1) := by decide +kernel
theorem d_M_begin_3 : decode b_M_begin 3 = .ok (.iload_n 2, 1) := by decide +kernel
theorem d_M_begin_4 : decode b_M_begin 4 = .ok (.iconst 1, 1) := by decide +kernel
theorem d_M_begin_5 : decode b_M_begin 5 = .ok (.isub, 1) := by decide +kernel
theorem d_M_begin_6 : decode b_M_begin 6 = .ok (.invokevirtual 138, 3) := by decide +kernel
theorem d_M_begin_9 : decode b_M_begin 9 = .ok (.ifCond .eq 9, 3) := by decide +kernel
theorem d_M_begin_12 : decode b_M_begin 12 = .ok (.iinc 2 (-1), 3) := by decide +kernel
theorem d_M_begin_15 : decode b_M_begin 15 = .ok (.goto (-13), 3) := by decide +kernel
theorem d_M_begin_18 : decode b_M_begin 18 = .ok (.iload_n 2, 1) := by decide +kernel
theorem d_M_begin_19 : decode b_M_begin 19 = .ok (.ireturn, 1) := by decide +kernel
def lay_M_begin (pc : Nat) : List Nat := if pc = 0 then [0, 1] else if pc = 2 then [0, 2] else []
noncomputable def sg_M_begin_0 (v0 : Nat) (v1 : Int32) (w : hy_W) : Option hy_N := some (.inl (2, [.ref v0, .int v1], w))
noncomputable def sg_M_begin_2 (v0 : Nat) (v2 : Int32) (w : hy_W) : Option hy_N := if hy_ob w v0 6 = true then hy_bi (f_M_isLetter [.ref v0, .int (v2 - 1)] w) fun x3 w1 => if x3 = 0 then (some (.inr (.inl (some (.int v2)), w1))) else (some (.inl (2, [.ref v0, .int (v2 + (-1))], w1))) else none
noncomputable def nx_M_begin (q : hy_P) : Option hy_N := match q with
  | (0, [.ref v0, .int v1], w) => sg_M_begin_0 v0 v1 w
  | (2, [.ref v0, .int v2], w) => sg_M_begin_2 v0 v2 w
  | _ => none
noncomputable def f_M_begin (av : List Value) (w : hy_W) : Option hy_O := hy_fx nx_M_begin (0, av, w)
set_option maxHeartbeats 4000000 in
set_option maxRecDepth 100000 in
theorem sk_M_begin_0 {p : Program} {l : Launch} {e : Env} {s : State} {m : MethodId} {args : Array Value} {below : List Frame} {meth : Method} {c : Code} {G : hy_G} {A : Nat → Prop} {ad0 : Nat → Nat} {w0 : hy_W} {o : hy_O} (hl9 : l.flags = flags0) (hA : hy_A G ad0 w0 s.heap.size = A) (B : hy_B p l e (hy_rm 2 45 w0) s m args below meth c "HyphenPatternsModel" b_M_begin 3 (some .int) [] G A) (v0 : Nat) (v1 : Int32) (w : hy_W) (nx : hy_N) (h : sg_M_begin_0 v0 v1 w = some nx) (K : hy_Nx lay_M_begin p l e (hy_rm 2 45 w0) s m args below meth c 3 G A ad0 w0.1.length (hy_Q below G ad0 w0 o args s) o nx) : hy_At lay_M_begin p l e (hy_rm 2 45 w0) s m args below meth c 3 G A ad0 w0.1.length (hy_Q below G ad0 w0 o args s) (0, [.ref v0, .int v1], w) := by
  intro ad H locs cells slots ls S hok hl
  have hx := B.1
  have hb := B.2.1
  dsimp only at S hok
  have hl : lv_has ls 3 [(0, .ref (ad v0)), (1, .int v1)] := hl
  show W p l e (hy_rm 2 45 w0) s m args below meth c H locs cells slots (hy_Q below G ad0 w0 o args s) (F0 m 0 ls [])
  have hv_v0 : v0 < w.1.length := hok (.ref v0) (List.mem_of_getElem? (i := 0) rfl) v0 rfl
  obtain ⟨a_v0, ha_v0⟩ : ∃ a, ad v0 = a := ⟨_, rfl⟩
  rw [ha_v0] at hl
  unfold sg_M_begin_0 at h
  refine lv_iload_n hx hb d_M_begin_0 rfl (lv_at hl 1 rfl) ?_
  refine lv_istore_n (lv' := [(2, .int v1), (0, .ref a_v0), (1, .int v1)]) hx hb d_M_begin_1 rfl hl (Nat.le_of_ble_eq_true rfl) rfl (fun ls hl => ?_)
  cases h
  exact hy_jump K S (hy_okr (by omega) (hy_oki hy_ok0)) (lv_sub hl [1, 0] rfl) (by subst ha_v0; rfl) (by subst ha_v0; rfl)
set_option maxHeartbeats 4000000 in
set_option maxRecDepth 100000 in
theorem sk_M_begin_2 {p : Program} {l : Launch} {e : Env} {s : State} {m : MethodId} {args : Array Value} {below : List Frame} {meth : Method} {c : Code} {G : hy_G} {A : Nat → Prop} {ad0 : Nat → Nat} {w0 : hy_W} {o : hy_O} (hl9 : l.flags = flags0) (hA : hy_A G ad0 w0 s.heap.size = A) (B : hy_B p l e (hy_rm 2 45 w0) s m args below meth c "HyphenPatternsModel" b_M_begin 3 (some .int) [] G A) (v0 : Nat) (v2 : Int32) (w : hy_W) (nx : hy_N) (h : sg_M_begin_2 v0 v2 w = some nx) (K : hy_Nx lay_M_begin p l e (hy_rm 2 45 w0) s m args below meth c 3 G A ad0 w0.1.length (hy_Q below G ad0 w0 o args s) o nx) : hy_At lay_M_begin p l e (hy_rm 2 45 w0) s m args below meth c 3 G A ad0 w0.1.length (hy_Q below G ad0 w0 o args s) (2, [.ref v0, .int v2], w) := by
  intro ad H locs cells slots ls S hok hl
  have hx := B.1
  have hb := B.2.1
  dsimp only at S hok
  have hl : lv_has ls 3 [(0, .ref (ad v0)), (2, .int v2)] := hl
  show W p l e (hy_rm 2 45 w0) s m args below meth c H locs cells slots (hy_Q below G ad0 w0 o args s) (F0 m 2 ls [])
  have hv_v0 : v0 < w.1.length := hok (.ref v0) (List.mem_of_getElem? (i := 0) rfl) v0 rfl
  obtain ⟨a_v0, ha_v0⟩ : ∃ a, ad v0 = a := ⟨_, rfl⟩
  rw [ha_v0] at hl
  unfold sg_M_begin_2 at h
  refine lv_aload_n hx hb d_M_begin_2 rfl (lv_at hl 0 rfl) ?_
  refine lv_iload_n hx hb d_M_begin_3 rfl (lv_at hl 1 rfl) ?_
  refine lv_iconst (v := 1) hx hb d_M_begin_4 (by decide) ?_
  refine lv_isub hx hb d_M_begin_5 ?_
  obtain ⟨ob4, h⟩ := hy_if h
  obtain ⟨fs_ob4, hf_ob4, hg_ob4⟩ := hy_ob_spec ob4
  obtain ⟨x3, w1, hq_w1, h⟩ := hy_bi_spec h
  refine hy_calli (hy_runV (rest := []) (As := [.int (v2 - 1)]) (r := v0) (b := a_v0) B S rfl ha_v0 (by rfl) (c_M_isLetter hl9 G ad hq_w1) (hy_okr (by omega) (hy_oki hy_ok0)) tw_841 tw_9 tw_838 tw_840 sl_M_isLetter (by decide) rfl (Nat.le_of_ble_eq_true rfl) (Nat.le_of_ble_eq_true rfl) hf_ob4 hg_ob4 rfl hl.1 (Nat.le_of_ble_eq_true rfl) d_M_begin_6) (fun ad2 H locs cells slots hag hl_w1 S => ?_)
  have ha_v0 : ad2 v0 = a_v0 := (hag v0 (by omega)).trans ha_v0
  refine lv_if_eq (tgt := 18) hx hb d_M_begin_9 (by decide) (fun c5 => ?_) (fun c5 => ?_)
  · rw [if_pos c5] at h
    refine lv_iload_n hx hb d_M_begin_18 rfl (lv_at hl 1 rfl) ?_
    cases h
    cases K
    exact hy_iret hA B S d_M_begin_19
  · rw [if_neg c5] at h
    refine lv_iinc (v := (v2 + (-1))) (lv' := [(2, .int (v2 + (-1))), (0, .ref a_v0)]) hx hb d_M_begin_12 hl (k := 1) rfl rfl (Nat.le_of_ble_eq_true rfl) rfl (fun ls hl => ?_)
    refine lv_goto (tgt := 2) hx hb d_M_begin_15 (by decide) ?_
    cases h
    exact hy_jump K S (hy_okr (by omega) (hy_oki hy_ok0)) (lv_sub hl [1, 0] rfl) (by subst ha_v0; rfl) (by subst ha_v0; rfl)
theorem nk_M_begin {p : Program} {l : Launch} {e : Env} {s : State} {m : MethodId} {args : Array Value} {below : List Frame} {meth : Method} {c : Code} {G : hy_G} {A : Nat → Prop} {ad0 : Nat → Nat} {w0 : hy_W} {o : hy_O} (hl9 : l.flags = flags0) (hA : hy_A G ad0 w0 s.heap.size = A) (B : hy_B p l e (hy_rm 2 45 w0) s m args below meth c "HyphenPatternsModel" b_M_begin 3 (some .int) [] G A) (q : hy_P) (nx : hy_N) (hq : nx_M_begin q = some nx) (K : hy_Nx lay_M_begin p l e (hy_rm 2 45 w0) s m args below meth c 3 G A ad0 w0.1.length (hy_Q below G ad0 w0 o args s) o nx) : hy_At lay_M_begin p l e (hy_rm 2 45 w0) s m args below meth c 3 G A ad0 w0.1.length (hy_Q below G ad0 w0 o args s) q := by
  unfold nx_M_begin at hq
  split at hq
  · exact sk_M_begin_0 hl9 hA B _ _ _ nx hq K
  · exact sk_M_begin_2 hl9 hA B _ _ _ nx hq K
  · cases hq
theorem c_M_begin {l : Launch} (hl9 : l.flags = flags0) (G : hy_G) (ad : Nat → Nat) {v0 : Nat} {v1 : Int32} {w : hy_W} {o : hy_O} (h : f_M_begin [.ref v0, .int v1] w = some o) : hy_M l y_M_begin (Cond.code y_M_begin b_M_begin 3 (some .int) :: hy_T) 2 45 G ad [.ref v0, .int v1] w o := by
  obtain ⟨n, hn⟩ := hy_fx_iff.mp h
  refine hy_ofW hl9 (by decide +kernel) (Nat.le_of_ble_eq_true rfl) (fun p e s m args below meth c A hA hi B S hok ls hl => ?_)
  exact hy_loop (nk_M_begin hl9 hA B) n _ hn ad s.heap [] 0 0 ls S hok hl
theorem d_M_end_0 : decode b_M_end 0 = .ok (.iload_n 1, 1) := by decide +kernel
theorem d_M_end_1 : decode b_M_end 1 = .ok (.istore_n 2, 1) := by decide +kernel
theorem d_M_end_2 : decode b_M_end 2 = .ok (.aload_n 0, 1) := by decide +kernel
theorem d_M_end_3 : decode b_M_end 3 = .ok (.iload_n 2, 1) := by decide +kernel
theorem d_M_end_4 : decode b_M_end 4 = .ok (.invokevirtual 138, 3) := by decide +kernel
theorem d_M_end_7 : decode b_M_end 7 = .ok (.ifCond .eq 9, 3) := by decide +kernel
theorem d_M_end_10 : decode b_M_end 10 = .ok (.iinc 2 1, 3) := by decide +kernel
theorem d_M_end_13 : decode b_M_end 13 = .ok (.goto (-11), 3) := by decide +kernel
theorem d_M_end_16 : decode b_M_end 16 = .ok (.iload_n 2, 1) := by decide +kernel
theorem d_M_end_17 : decode b_M_end 17 = .ok (.ireturn, 1) := by decide +kernel
def lay_M_end (pc : Nat) : List Nat := if pc = 0 then [0, 1] else if pc = 2 then [0, 2] else []
noncomputable def sg_M_end_0 (v0 : Nat) (v1 : Int32) (w : hy_W) : Option hy_N := some (.inl (2, [.ref v0, .int v1], w))
noncomputable def sg_M_end_2 (v0 : Nat) (v2 : Int32) (w : hy_W) : Option hy_N := if hy_ob w v0 6 = true then hy_bi (f_M_isLetter [.ref v0, .int v2] w) fun x3 w1 => if x3 = 0 then (some (.inr (.inl (some (.int v2)), w1))) else (some (.inl (2, [.ref v0, .int (v2 + 1)], w1))) else none
noncomputable def nx_M_end (q : hy_P) : Option hy_N := match q with
  | (0, [.ref v0, .int v1], w) => sg_M_end_0 v0 v1 w
  | (2, [.ref v0, .int v2], w) => sg_M_end_2 v0 v2 w
  | _ => none
noncomputable def f_M_end (av : List Value) (w : hy_W) : Option hy_O := hy_fx nx_M_end (0, av, w)
set_option maxHeartbeats 4000000 in
set_option maxRecDepth 100000 in
theorem sk_M_end_0 {p : Program} {l : Launch} {e : Env} {s : State} {m : MethodId} {args : Array Value} {below : List Frame} {meth : Method} {c : Code} {G : hy_G} {A : Nat → Prop} {ad0 : Nat → Nat} {w0 : hy_W} {o : hy_O} (hl9 : l.flags = flags0) (hA : hy_A G ad0 w0 s.heap.size = A) (B : hy_B p l e (hy_rm 2 45 w0) s m args below meth c "HyphenPatternsModel" b_M_end 3 (some .int) [] G A) (v0 : Nat) (v1 : Int32) (w : hy_W) (nx : hy_N) (h : sg_M_end_0 v0 v1 w = some nx) (K : hy_Nx lay_M_end p l e (hy_rm 2 45 w0) s m args below meth c 3 G A ad0 w0.1.length (hy_Q below G ad0 w0 o args s) o nx) : hy_At lay_M_end p l e (hy_rm 2 45 w0) s m args below meth c 3 G A ad0 w0.1.length (hy_Q below G ad0 w0 o args s) (0, [.ref v0, .int v1], w) := by
  intro ad H locs cells slots ls S hok hl
  have hx := B.1
  have hb := B.2.1
  dsimp only at S hok
  have hl : lv_has ls 3 [(0, .ref (ad v0)), (1, .int v1)] := hl
  show W p l e (hy_rm 2 45 w0) s m args below meth c H locs cells slots (hy_Q below G ad0 w0 o args s) (F0 m 0 ls [])
  have hv_v0 : v0 < w.1.length := hok (.ref v0) (List.mem_of_getElem? (i := 0) rfl) v0 rfl
  obtain ⟨a_v0, ha_v0⟩ : ∃ a, ad v0 = a := ⟨_, rfl⟩
  rw [ha_v0] at hl
  unfold sg_M_end_0 at h
  refine lv_iload_n hx hb d_M_end_0 rfl (lv_at hl 1 rfl) ?_
  refine lv_istore_n (lv' := [(2, .int v1), (0, .ref a_v0), (1, .int v1)]) hx hb d_M_end_1 rfl hl (Nat.le_of_ble_eq_true rfl) rfl (fun ls hl => ?_)
  cases h
  exact hy_jump K S (hy_okr (by omega) (hy_oki hy_ok0)) (lv_sub hl [1, 0] rfl) (by subst ha_v0; rfl) (by subst ha_v0; rfl)
set_option maxHeartbeats 4000000 in
set_option maxRecDepth 100000 in
theorem sk_M_end_2 {p : Program} {l : Launch} {e : Env} {s : State} {m : MethodId} {args : Array Value} {below : List Frame} {meth : Method} {c : Code} {G : hy_G} {A : Nat → Prop} {ad0 : Nat → Nat} {w0 : hy_W} {o : hy_O} (hl9 : l.flags = flags0) (hA : hy_A G ad0 w0 s.heap.size = A) (B : hy_B p l e (hy_rm 2 45 w0) s m args below meth c "HyphenPatternsModel" b_M_end 3 (some .int) [] G A) (v0 : Nat) (v2 : Int32) (w : hy_W) (nx : hy_N) (h : sg_M_end_2 v0 v2 w = some nx) (K : hy_Nx lay_M_end p l e (hy_rm 2 45 w0) s m args below meth c 3 G A ad0 w0.1.length (hy_Q below G ad0 w0 o args s) o nx) : hy_At lay_M_end p l e (hy_rm 2 45 w0) s m args below meth c 3 G A ad0 w0.1.length (hy_Q below G ad0 w0 o args s) (2, [.ref v0, .int v2], w) := by
  intro ad H locs cells slots ls S hok hl
  have hx := B.1
  have hb := B.2.1
  dsimp only at S hok
  have hl : lv_has ls 3 [(0, .ref (ad v0)), (2, .int v2)] := hl
  show W p l e (hy_rm 2 45 w0) s m args below meth c H locs cells slots (hy_Q below G ad0 w0 o args s) (F0 m 2 ls [])
  have hv_v0 : v0 < w.1.length := hok (.ref v0) (List.mem_of_getElem? (i := 0) rfl) v0 rfl
  obtain ⟨a_v0, ha_v0⟩ : ∃ a, ad v0 = a := ⟨_, rfl⟩
  rw [ha_v0] at hl
  unfold sg_M_end_2 at h
  refine lv_aload_n hx hb d_M_end_2 rfl (lv_at hl 0 rfl) ?_
  refine lv_iload_n hx hb d_M_end_3 rfl (lv_at hl 1 rfl) ?_
  obtain ⟨ob4, h⟩ := hy_if h
  obtain ⟨fs_ob4, hf_ob4, hg_ob4⟩ := hy_ob_spec ob4
  obtain ⟨x3, w1, hq_w1, h⟩ := hy_bi_spec h
  refine hy_calli (hy_runV (rest := []) (As := [.int v2]) (r := v0) (b := a_v0) B S rfl ha_v0 (by rfl) (c_M_isLetter hl9 G ad hq_w1) (hy_okr (by omega) (hy_oki hy_ok0)) tw_841 tw_9 tw_838 tw_840 sl_M_isLetter (by decide) rfl (Nat.le_of_ble_eq_true rfl) (Nat.le_of_ble_eq_true rfl) hf_ob4 hg_ob4 rfl hl.1 (Nat.le_of_ble_eq_true rfl) d_M_end_4) (fun ad2 H locs cells slots hag hl_w1 S => ?_)
  have ha_v0 : ad2 v0 = a_v0 := (hag v0 (by omega)).trans ha_v0
  refine lv_if_eq (tgt := 16) hx hb d_M_end_7 (by decide) (fun c5 => ?_) (fun c5 => ?_)
  · rw [if_pos c5] at h
    refine lv_iload_n hx hb d_M_end_16 rfl (lv_at hl 1 rfl) ?_
    cases h
    cases K
    exact hy_iret hA B S d_M_end_17
  · rw [if_neg c5] at h
    refine lv_iinc (v := (v2 + 1)) (lv' := [(2, .int (v2 + 1)), (0, .ref a_v0)]) hx hb d_M_end_10 hl (k := 1) rfl rfl (Nat.le_of_ble_eq_true rfl) rfl (fun ls hl => ?_)
    refine lv_goto (tgt := 2) hx hb d_M_end_13 (by decide) ?_
    cases h
    exact hy_jump K S (hy_okr (by omega) (hy_oki hy_ok0)) (lv_sub hl [1, 0] rfl) (by subst ha_v0; rfl) (by subst ha_v0; rfl)
theorem nk_M_end {p : Program} {l : Launch} {e : Env} {s : State} {m : MethodId} {args : Array Value} {below : List Frame} {meth : Method} {c : Code} {G : hy_G} {A : Nat → Prop} {ad0 : Nat → Nat} {w0 : hy_W} {o : hy_O} (hl9 : l.flags = flags0) (hA : hy_A G ad0 w0 s.heap.size = A) (B : hy_B p l e (hy_rm 2 45 w0) s m args below meth c "HyphenPatternsModel" b_M_end 3 (some .int) [] G A) (q : hy_P) (nx : hy_N) (hq : nx_M_end q = some nx) (K : hy_Nx lay_M_end p l e (hy_rm 2 45 w0) s m args below meth c 3 G A ad0 w0.1.length (hy_Q below G ad0 w0 o args s) o nx) : hy_At lay_M_end p l e (hy_rm 2 45 w0) s m args below meth c 3 G A ad0 w0.1.length (hy_Q below G ad0 w0 o args s) q := by
  unfold nx_M_end at hq
  split at hq
  · exact sk_M_end_0 hl9 hA B _ _ _ nx hq K
  · exact sk_M_end_2 hl9 hA B _ _ _ nx hq K
  · cases hq
theorem c_M_end {l : Launch} (hl9 : l.flags = flags0) (G : hy_G) (ad : Nat → Nat) {v0 : Nat} {v1 : Int32} {w : hy_W} {o : hy_O} (h : f_M_end [.ref v0, .int v1] w = some o) : hy_M l y_M_end (Cond.code y_M_end b_M_end 3 (some .int) :: hy_T) 2 45 G ad [.ref v0, .int v1] w o := by
  obtain ⟨n, hn⟩ := hy_fx_iff.mp h
  refine hy_ofW hl9 (by decide +kernel) (Nat.le_of_ble_eq_true rfl) (fun p e s m args below meth c A hA hi B S hok ls hl => ?_)
  exact hy_loop (nk_M_end hl9 hA B) n _ hn ad s.heap [] 0 0 ls S hok hl
theorem d_M_letterAt_0 : decode b_M_letterAt 0 = .ok (.iload_n 1, 1) := by decide +kernel
theorem d_M_letterAt_1 : decode b_M_letterAt 1 = .ok (.ifCond .lt 24, 3) := by decide +kernel
theorem d_M_letterAt_4 : decode b_M_letterAt 4 = .ok (.iload_n 1, 1) := by decide +kernel
theorem d_M_letterAt_5 : decode b_M_letterAt 5 = .ok (.aload_n 0, 1) := by decide +kernel
theorem d_M_letterAt_6 : decode b_M_letterAt 6 = .ok (.getfield 131, 3) := by decide +kernel
theorem d_M_letterAt_9 : decode b_M_letterAt 9 = .ok (.if_icmp .ge 16, 3) := by decide +kernel
theorem d_M_letterAt_12 : decode b_M_letterAt 12 = .ok (.aload_n 0, 1) := by decide +kernel
theorem d_M_letterAt_13 : decode b_M_letterAt 13 = .ok (.aload_n 0, 1) := by decide +kernel
theorem d_M_letterAt_14 : decode b_M_letterAt 14 = .ok (.getfield 64, 3) := by decide +kernel
theorem d_M_letterAt_17 : decode b_M_letterAt 17 = .ok (.iload_n 1, 1) := by decide +kernel
theorem d_M_letterAt_18 : decode b_M_letterAt 18 = .ok (.iaload, 1) := by decide +kernel
theorem d_M_letterAt_19 : decode b_M_letterAt 19 = .ok (.invokevirtual 134, 3) := by decide +kernel
theorem d_M_letterAt_22 : decode b_M_letterAt 22 = .ok (.goto 4, 3) := by decide +kernel
theorem d_M_letterAt_25 : decode b_M_letterAt 25 = .ok (.iconst 0, 1) := by decide +kernel
theorem d_M_letterAt_26 : decode b_M_letterAt 26 = .ok (.ireturn, 1) := by decide +kernel
def lay_M_letterAt (pc : Nat) : List Nat := if pc = 0 then [0, 1] else if pc = 25 then [] else []
noncomputable def sg_M_letterAt_0 (v0 : Nat) (v1 : Int32) (w : hy_W) : Option hy_N := if v1 < 0 then (some (.inl (25, [], w))) else ((hy_gi w v0 6 24).bind fun x2 => if x2 ≤ v1 then (some (.inl (25, [], w))) else ((hy_gr w v0 6 25).bind fun r4 => (hy_ai w r4 v1).bind fun x5 => if hy_ob w v0 6 = true then hy_bi (f_M_letterOf [.ref v0, .int x5] w) fun x8 w6 => some (.inr (.inl (some (.int x8)), w6)) else none))
noncomputable def sg_M_letterAt_25  (w : hy_W) : Option hy_N := some (.inr (.inl (some (.int 0)), w))
noncomputable def nx_M_letterAt (q : hy_P) : Option hy_N := match q with
  | (0, [.ref v0, .int v1], w) => sg_M_letterAt_0 v0 v1 w
  | (25, [], w) => sg_M_letterAt_25  w
  | _ => none
noncomputable def f_M_letterAt (av : List Value) (w : hy_W) : Option hy_O := hy_fx nx_M_letterAt (0, av, w)
set_option maxHeartbeats 4000000 in
set_option maxRecDepth 100000 in
theorem sk_M_letterAt_0 {p : Program} {l : Launch} {e : Env} {s : State} {m : MethodId} {args : Array Value} {below : List Frame} {meth : Method} {c : Code} {G : hy_G} {A : Nat → Prop} {ad0 : Nat → Nat} {w0 : hy_W} {o : hy_O} (hl9 : l.flags = flags0) (hA : hy_A G ad0 w0 s.heap.size = A) (B : hy_B p l e (hy_rm 1 24 w0) s m args below meth c "HyphenPatternsModel" b_M_letterAt 2 (some .int) [] G A) (v0 : Nat) (v1 : Int32) (w : hy_W) (nx : hy_N) (h : sg_M_letterAt_0 v0 v1 w = some nx) (K : hy_Nx lay_M_letterAt p l e (hy_rm 1 24 w0) s m args below meth c 2 G A ad0 w0.1.length (hy_Q below G ad0 w0 o args s) o nx) : hy_At lay_M_letterAt p l e (hy_rm 1 24 w0) s m args below meth c 2 G A ad0 w0.1.length (hy_Q below G ad0 w0 o args s) (0, [.ref v0, .int v1], w) := by
  intro ad H locs cells slots ls S hok hl
  have hx := B.1
  have hb := B.2.1
  dsimp only at S hok
  have hl : lv_has ls 2 [(0, .ref (ad v0)), (1, .int v1)] := hl
  show W p l e (hy_rm 1 24 w0) s m args below meth c H locs cells slots (hy_Q below G ad0 w0 o args s) (F0 m 0 ls [])
  have hv_v0 : v0 < w.1.length := hok (.ref v0) (List.mem_of_getElem? (i := 0) rfl) v0 rfl
  obtain ⟨a_v0, ha_v0⟩ : ∃ a, ad v0 = a := ⟨_, rfl⟩
  rw [ha_v0] at hl
  unfold sg_M_letterAt_0 at h
  refine lv_iload_n hx hb d_M_letterAt_0 rfl (lv_at hl 1 rfl) ?_
  refine lv_if_lt (tgt := 25) hx hb d_M_letterAt_1 (by decide) (fun c1 => ?_) (fun c1 => ?_)
  · rw [if_pos c1] at h
    cases h
    exact hy_jump K S hy_ok0 (lv_sub hl [] rfl) (by rfl) (by rfl)
  · rw [if_neg c1] at h
    refine lv_iload_n hx hb d_M_letterAt_4 rfl (lv_at hl 1 rfl) ?_
    refine lv_aload_n hx hb d_M_letterAt_5 rfl (lv_at hl 0 rfl) ?_
    obtain ⟨x2, hx2, h⟩ := hy_bd h
    refine hy_geti B S ha_v0 hx2 rfl (Nat.le_of_ble_eq_true rfl) i_6 (j := 24) tw_674 (fun _ h => h) d_M_letterAt_6 ?_
    refine lv_icmp_ge (tgt := 25) hx hb d_M_letterAt_9 (by decide) (fun c3 => ?_) (fun c3 => ?_)
    · rw [if_pos c3] at h
      cases h
      exact hy_jump K S hy_ok0 (lv_sub hl [] rfl) (by rfl) (by rfl)
    · rw [if_neg c3] at h
      refine lv_aload_n hx hb d_M_letterAt_12 rfl (lv_at hl 0 rfl) ?_
      refine lv_aload_n hx hb d_M_letterAt_13 rfl (lv_at hl 0 rfl) ?_
      obtain ⟨r4, hr4, h⟩ := hy_bd h
      refine hy_getr B S ha_v0 hr4 rfl (Nat.le_of_ble_eq_true rfl) i_6 (j := 25) tw_675 (fun _ h => h) d_M_letterAt_14 (fun a_r4 ha_r4 hv_r4 => ?_)
      refine lv_iload_n hx hb d_M_letterAt_17 rfl (lv_at hl 1 rfl) ?_
      obtain ⟨x5, hx5, h⟩ := hy_bd h
      refine hy_iald B S ha_r4 hx5 d_M_letterAt_18 ?_
      obtain ⟨ob9, h⟩ := hy_if h
      obtain ⟨fs_ob9, hf_ob9, hg_ob9⟩ := hy_ob_spec ob9
      obtain ⟨x8, w6, hq_w6, h⟩ := hy_bi_spec h
      refine hy_calli (hy_runV (rest := []) (As := [.int x5]) (r := v0) (b := a_v0) B S rfl ha_v0 (by rfl) (c_M_letterOf hl9 G ad hq_w6) (hy_okr (by omega) (hy_oki hy_ok0)) tw_845 tw_9 tw_842 tw_844 sl_M_letterOf (by decide) rfl (Nat.le_of_ble_eq_true rfl) (Nat.le_of_ble_eq_true rfl) hf_ob9 hg_ob9 rfl hl.1 (Nat.le_of_ble_eq_true rfl) d_M_letterAt_19) (fun ad7 H locs cells slots hag hl_w6 S => ?_)
      have ha_v0 : ad7 v0 = a_v0 := (hag v0 (by omega)).trans ha_v0
      refine lv_goto (tgt := 26) hx hb d_M_letterAt_22 (by decide) ?_
      cases h
      cases K
      exact hy_iret hA B S d_M_letterAt_26
set_option maxHeartbeats 4000000 in
set_option maxRecDepth 100000 in
theorem sk_M_letterAt_25 {p : Program} {l : Launch} {e : Env} {s : State} {m : MethodId} {args : Array Value} {below : List Frame} {meth : Method} {c : Code} {G : hy_G} {A : Nat → Prop} {ad0 : Nat → Nat} {w0 : hy_W} {o : hy_O} (hl9 : l.flags = flags0) (hA : hy_A G ad0 w0 s.heap.size = A) (B : hy_B p l e (hy_rm 1 24 w0) s m args below meth c "HyphenPatternsModel" b_M_letterAt 2 (some .int) [] G A)  (w : hy_W) (nx : hy_N) (h : sg_M_letterAt_25  w = some nx) (K : hy_Nx lay_M_letterAt p l e (hy_rm 1 24 w0) s m args below meth c 2 G A ad0 w0.1.length (hy_Q below G ad0 w0 o args s) o nx) : hy_At lay_M_letterAt p l e (hy_rm 1 24 w0) s m args below meth c 2 G A ad0 w0.1.length (hy_Q below G ad0 w0 o args s) (25, [], w) := by
  intro ad H locs cells slots ls S hok hl
  have hx := B.1
  have hb := B.2.1
  dsimp only at S hok
  have hl : lv_has ls 2 [] := hl
  show W p l e (hy_rm 1 24 w0) s m args below meth c H locs cells slots (hy_Q below G ad0 w0 o args s) (F0 m 25 ls [])
  unfold sg_M_letterAt_25 at h
  refine lv_iconst (v := 0) hx hb d_M_letterAt_25 (by decide) ?_
  cases h
  cases K
  exact hy_iret hA B S d_M_letterAt_26
theorem nk_M_letterAt {p : Program} {l : Launch} {e : Env} {s : State} {m : MethodId} {args : Array Value} {below : List Frame} {meth : Method} {c : Code} {G : hy_G} {A : Nat → Prop} {ad0 : Nat → Nat} {w0 : hy_W} {o : hy_O} (hl9 : l.flags = flags0) (hA : hy_A G ad0 w0 s.heap.size = A) (B : hy_B p l e (hy_rm 1 24 w0) s m args below meth c "HyphenPatternsModel" b_M_letterAt 2 (some .int) [] G A) (q : hy_P) (nx : hy_N) (hq : nx_M_letterAt q = some nx) (K : hy_Nx lay_M_letterAt p l e (hy_rm 1 24 w0) s m args below meth c 2 G A ad0 w0.1.length (hy_Q below G ad0 w0 o args s) o nx) : hy_At lay_M_letterAt p l e (hy_rm 1 24 w0) s m args below meth c 2 G A ad0 w0.1.length (hy_Q below G ad0 w0 o args s) q := by
  unfold nx_M_letterAt at hq
  split at hq
  · exact sk_M_letterAt_0 hl9 hA B _ _ _ nx hq K
  · exact sk_M_letterAt_25 hl9 hA B _ nx hq K
  · cases hq
theorem c_M_letterAt {l : Launch} (hl9 : l.flags = flags0) (G : hy_G) (ad : Nat → Nat) {v0 : Nat} {v1 : Int32} {w : hy_W} {o : hy_O} (h : f_M_letterAt [.ref v0, .int v1] w = some o) : hy_M l y_M_letterAt (Cond.code y_M_letterAt b_M_letterAt 2 (some .int) :: hy_T) 1 24 G ad [.ref v0, .int v1] w o := by
  obtain ⟨n, hn⟩ := hy_fx_iff.mp h
  refine hy_ofW hl9 (by decide +kernel) (Nat.le_of_ble_eq_true rfl) (fun p e s m args below meth c A hA hi B S hok ls hl => ?_)
  exact hy_loop (nk_M_letterAt hl9 hA B) n _ hn ad s.heap [] 0 0 ls S hok hl
theorem d_M_exceptionFor_0 : decode b_M_exceptionFor 0 = .ok (.iconst (-1), 1) := by decide +kernel
theorem d_M_exceptionFor_1 : decode b_M_exceptionFor 1 = .ok (.istore_n 3, 1) := by decide +kernel
theorem d_M_exceptionFor_2 : decode b_M_exceptionFor 2 = .ok (.iconst 0, 1) := by decide +kernel
theorem d_M_exceptionFor_3 : decode b_M_exceptionFor 3 = .ok (.istore 4, 2) := by decide +kernel
theorem d_M_exceptionFor_5 : decode b_M_exceptionFor 5 = .ok (.iload 4, 2) := by decide +kernel
theorem d_M_exceptionFor_7 : decode b_M_exceptionFor 7 = .ok (.aload_n 0, 1) := by decide +kernel
theorem d_M_exceptionFor_8 : decode b_M_exceptionFor 8 = .ok (.getfield 115, 3) := by decide +kernel
theorem d_M_exceptionFor_11 : decode b_M_exceptionFor 11 = .ok (.if_icmp .ge 106, 3) := by decide +kernel
theorem d_M_exceptionFor_14 : decode b_M_exceptionFor 14 = .ok (.aload_n 0, 1) := by decide +kernel
theorem d_M_exceptionFor_15 : decode b_M_exceptionFor 15 = .ok (.getfield 52, 3) := by decide +kernel
theorem d_M_exceptionFor_18 : decode b_M_exceptionFor 18 = .ok (.iload 4, 2) := by decide +kernel
theorem d_M_exceptionFor_20 : decode b_M_exceptionFor 20 = .ok (.iaload, 1) := by decide +kernel
theorem d_M_exceptionFor_21 : decode b_M_exceptionFor 21 = .ok (.aload_n 0, 1) := by decide +kernel
theorem d_M_exceptionFor_22 : decode b_M_exceptionFor 22 = .ok (.getfield 76, 3) := by decide +kernel
theorem d_M_exceptionFor_25 : decode b_M_exceptionFor 25 = .ok (.if_icmp .ne 20, 3) := by decide +kernel
theorem d_M_exceptionFor_28 : decode b_M_exceptionFor 28 = .ok (.aload_n 0, 1) := by decide +kernel
theorem d_M_exceptionFor_29 : decode b_M_exceptionFor 29 = .ok (.getfield 55, 3) := by decide +kernel
theorem d_M_exceptionFor_32 : decode b_M_exceptionFor 32 = .ok (.iload 4, 2) := by decide +kernel
theorem d_M_exceptionFor_34 : decode b_M_exceptionFor 34 = .ok (.iaload, 1) := by decide +kernel
theorem d_M_exceptionFor_35 : decode b_M_exceptionFor 35 = .ok (.iload_n 2, 1) := by decide +kernel
theorem d_M_exceptionFor_36 : decode b_M_exceptionFor 36 = .ok (.iload_n 1, 1) := by decide +kernel
theorem d_M_exceptionFor_37 : decode b_M_exceptionFor 37 = .ok (.isub, 1) := by decide +kernel
theorem d_M_exceptionFor_38 : decode b_M_exceptionFor 38 = .ok (.if_icmp .ne 7, 3) := by decide +kernel
theorem d_M_exceptionFor_41 : decode b_M_exceptionFor 41 = .ok (.iconst 1, 1) := by decide +kernel
theorem d_M_exceptionFor_42 : decode b_M_exceptionFor 42 = .ok (.goto 4, 3) := by decide +kernel
theorem d_M_exceptionFor_45 : decode b_M_exceptionFor 45 = .ok (.iconst 0, 1) := by decide +kernel
theorem d_M_exceptionFor_46 : decode b_M_exceptionFor 46 = .ok (.istore 5, 2) := by decide +kernel
theorem d_M_exceptionFor_48 : decode b_M_exceptionFor 48 = .ok (.iload_n 1, 1) := by decide +kernel
theorem d_M_exceptionFor_49 : decode b_M_exceptionFor 49 = .ok (.istore 6, 2) := by decide +kernel
theorem d_M_exceptionFor_51 : decode b_M_exceptionFor 51 = .ok (.iload 6, 2) := by decide +kernel
theorem d_M_exceptionFor_53 : decode b_M_exceptionFor 53 = .ok (.iload_n 2, 1) := by decide +kernel
theorem d_M_exceptionFor_54 : decode b_M_exceptionFor 54 = .ok (.if_icmp .ge 45, 3) := by decide +kernel
theorem d_M_exceptionFor_57 : decode b_M_exceptionFor 57 = .ok (.iload 5, 2) := by decide +kernel
theorem d_M_exceptionFor_59 : decode b_M_exceptionFor 59 = .ok (.ifCond .eq 40, 3) := by decide +kernel
theorem d_M_exceptionFor_62 : decode b_M_exceptionFor 62 = .ok (.aload_n 0, 1) := by decide +kernel
theorem d_M_exceptionFor_63 : decode b_M_exceptionFor 63 = .ok (.getfield 58, 3) := by decide +kernel
theorem d_M_exceptionFor_66 : decode b_M_exceptionFor 66 = .ok (.bipush 40, 2) := by decide +kernel
theorem d_M_exceptionFor_68 : decode b_M_exceptionFor 68 = .ok (.iload 4, 2) := by decide +kernel
theorem d_M_exceptionFor_70 : decode b_M_exceptionFor 70 = .ok (.imul, 1) := by decide +kernel
theorem d_M_exceptionFor_71 : decode b_M_exceptionFor 71 = .ok (.iload 6, 2) := by decide +kernel
theorem d_M_exceptionFor_73 : decode b_M_exceptionFor 73 = .ok (.iadd, 1) := by decide +kernel
theorem d_M_exceptionFor_74 : decode b_M_exceptionFor 74 = .ok (.iload_n 1, 1) := by decide +kernel
theorem d_M_exceptionFor_75 : decode b_M_exceptionFor 75 = .ok (.isub, 1) := by decide +kernel
theorem d_M_exceptionFor_76 : decode b_M_exceptionFor 76 = .ok (.iaload, 1) := by decide +kernel
theorem d_M_exceptionFor_77 : decode b_M_exceptionFor 77 = .ok (.aload_n 0, 1) := by decide +kernel
theorem d_M_exceptionFor_78 : decode b_M_exceptionFor 78 = .ok (.iload 6, 2) := by decide +kernel
theorem d_M_exceptionFor_80 : decode b_M_exceptionFor 80 = .ok (.invokevirtual 141, 3) := by decide +kernel
theorem d_M_exceptionFor_83 : decode b_M_exceptionFor 83 = .ok (.if_icmp .ne 7, 3) := by decide +kernel
theorem d_M_exceptionFor_86 : decode b_M_exceptionFor 86 = .ok (.iconst 1, 1) := by decide +kernel
theorem d_M_exceptionFor_87 : decode b_M_exceptionFor 87 = .ok (.goto 4, 3) := by decide +kernel
theorem d_M_exceptionFor_90 : decode b_M_exceptionFor 90 = .ok (.iconst 0, 1) := by decide +kernel
theorem d_M_exceptionFor_91 : decode b_M_exceptionFor 91 = .ok (.istore 5, 2) := by decide +kernel
theorem d_M_exceptionFor_93 : decode b_M_exceptionFor 93 = .ok (.iinc 6 1, 3) := by decide +kernel
theorem d_M_exceptionFor_96 : decode b_M_exceptionFor 96 = .ok (.goto (-45), 3) := by decide +kernel
theorem d_M_exceptionFor_99 : decode b_M_exceptionFor 99 = .ok (.iload 5, 2) := by decide +kernel
theorem d_M_exceptionFor_101 : decode b_M_exceptionFor 101 = .ok (.ifCond .eq 8, 3) := by decide +kernel
theorem d_M_exceptionFor_104 : decode b_M_exceptionFor 104 = .ok (.iload 4, 2) := by decide +kernel
theorem d_M_exceptionFor_106 : decode b_M_exceptionFor 106 = .ok (.goto 4, 3) := by decide +kernel
theorem d_M_exceptionFor_109 : decode b_M_exceptionFor 109 = .ok (.iload_n 3, 1) := by decide +kernel
theorem d_M_exceptionFor_110 : decode b_M_exceptionFor 110 = .ok (.istore_n 3, 1) := by decide +kernel
theorem d_M_exceptionFor_111 : decode b_M_exceptionFor 111 = .ok (.iinc 4 1, 3) := by decide +kernel
theorem d_M_exceptionFor_114 : decode b_M_exceptionFor 114 = .ok (.goto (-109), 3) := by decide +kernel
theorem d_M_exceptionFor_117 : decode b_M_exceptionFor 117 = .ok (.iload_n 3, 1) := by decide +kernel
theorem d_M_exceptionFor_118 : decode b_M_exceptionFor 118 = .ok (.ireturn, 1) := by decide +kernel
def lay_M_exceptionFor (pc : Nat) : List Nat := if pc = 0 then [0, 1, 2] else if pc = 5 then [0, 1, 2, 3, 4] else if pc = 45 then [0, 1, 2, 3, 4] else if pc = 46 then [0, 1, 2, 3, 4] else if pc = 51 then [0, 1, 2, 3, 4, 5, 6] else if pc = 91 then [0, 1, 2, 3, 4, 6] else if pc = 99 then [0, 1, 2, 3, 4, 5] else if pc = 110 then [0, 1, 2, 4] else []
noncomputable def sg_M_exceptionFor_0 (v0 : Nat) (v1 : Int32) (v2 : Int32) (w : hy_W) : Option hy_N := some (.inl (5, [.ref v0, .int v1, .int v2, .int (-1), .int 0], w))
noncomputable def sg_M_exceptionFor_5 (v0 : Nat) (v1 : Int32) (v2 : Int32) (v3 : Int32) (v4 : Int32) (w : hy_W) : Option hy_N := (hy_gi w v0 6 19).bind fun x1 => if x1 ≤ v4 then (some (.inr (.inl (some (.int v3)), w))) else ((hy_gr w v0 6 20).bind fun r3 => (hy_ai w r3 v4).bind fun x4 => (hy_gi w v0 6 1).bind fun x5 => if x4 = x5 then ((hy_gr w v0 6 21).bind fun r7 => (hy_ai w r7 v4).bind fun x8 => if x8 = (v2 - v1) then (some (.inl (46, [.ref v0, .int v1, .int v2, .int v3, .int v4, .int 1], w))) else (some (.inl (45, [.ref v0, .int v1, .int v2, .int v3, .int v4], w)))) else (some (.inl (45, [.ref v0, .int v1, .int v2, .int v3, .int v4], w))))
noncomputable def sg_M_exceptionFor_45 (v0 : Nat) (v1 : Int32) (v2 : Int32) (v3 : Int32) (v4 : Int32) (w : hy_W) : Option hy_N := some (.inl (46, [.ref v0, .int v1, .int v2, .int v3, .int v4, .int 0], w))
noncomputable def sg_M_exceptionFor_46 (v0 : Nat) (v1 : Int32) (v2 : Int32) (v3 : Int32) (v4 : Int32) (s0 : Int32) (w : hy_W) : Option hy_N := some (.inl (51, [.ref v0, .int v1, .int v2, .int v3, .int v4, .int s0, .int v1], w))
noncomputable def sg_M_exceptionFor_51 (v0 : Nat) (v1 : Int32) (v2 : Int32) (v3 : Int32) (v4 : Int32) (v5 : Int32) (v6 : Int32) (w : hy_W) : Option hy_N := if v2 ≤ v6 then (some (.inl (99, [.ref v0, .int v1, .int v2, .int v3, .int v4, .int v5], w))) else (if v5 = 0 then (some (.inl (99, [.ref v0, .int v1, .int v2, .int v3, .int v4, .int v5], w))) else ((hy_gr w v0 6 22).bind fun r3 => (hy_ai w r3 (((40 * v4) + v6) - v1)).bind fun x4 => if hy_ob w v0 6 = true then hy_bi (f_M_letterAt [.ref v0, .int v6] w) fun x7 w5 => if x4 = x7 then (some (.inl (91, [.ref v0, .int v1, .int v2, .int v3, .int v4, .int v6, .int 1], w5))) else (some (.inl (91, [.ref v0, .int v1, .int v2, .int v3, .int v4, .int v6, .int 0], w5))) else none))
noncomputable def sg_M_exceptionFor_91 (v0 : Nat) (v1 : Int32) (v2 : Int32) (v3 : Int32) (v4 : Int32) (v6 : Int32) (s0 : Int32) (w : hy_W) : Option hy_N := some (.inl (51, [.ref v0, .int v1, .int v2, .int v3, .int v4, .int s0, .int (v6 + 1)], w))
noncomputable def sg_M_exceptionFor_99 (v0 : Nat) (v1 : Int32) (v2 : Int32) (v3 : Int32) (v4 : Int32) (v5 : Int32) (w : hy_W) : Option hy_N := if v5 = 0 then (some (.inl (110, [.ref v0, .int v1, .int v2, .int v4, .int v3], w))) else (some (.inl (110, [.ref v0, .int v1, .int v2, .int v4, .int v4], w)))
noncomputable def sg_M_exceptionFor_110 (v0 : Nat) (v1 : Int32) (v2 : Int32) (v4 : Int32) (s0 : Int32) (w : hy_W) : Option hy_N := some (.inl (5, [.ref v0, .int v1, .int v2, .int s0, .int (v4 + 1)], w))
noncomputable def nx_M_exceptionFor (q : hy_P) : Option hy_N := match q with
  | (0, [.ref v0, .int v1, .int v2], w) => sg_M_exceptionFor_0 v0 v1 v2 w
  | (5, [.ref v0, .int v1, .int v2, .int v3, .int v4], w) => sg_M_exceptionFor_5 v0 v1 v2 v3 v4 w
  | (45, [.ref v0, .int v1, .int v2, .int v3, .int v4], w) => sg_M_exceptionFor_45 v0 v1 v2 v3 v4 w
  | (46, [.ref v0, .int v1, .int v2, .int v3, .int v4, .int s0], w) => sg_M_exceptionFor_46 v0 v1 v2 v3 v4 s0 w
  | (51, [.ref v0, .int v1, .int v2, .int v3, .int v4, .int v5, .int v6], w) => sg_M_exceptionFor_51 v0 v1 v2 v3 v4 v5 v6 w
  | (91, [.ref v0, .int v1, .int v2, .int v3, .int v4, .int v6, .int s0], w) => sg_M_exceptionFor_91 v0 v1 v2 v3 v4 v6 s0 w
  | (99, [.ref v0, .int v1, .int v2, .int v3, .int v4, .int v5], w) => sg_M_exceptionFor_99 v0 v1 v2 v3 v4 v5 w
  | (110, [.ref v0, .int v1, .int v2, .int v4, .int s0], w) => sg_M_exceptionFor_110 v0 v1 v2 v4 s0 w
  | _ => none
noncomputable def f_M_exceptionFor (av : List Value) (w : hy_W) : Option hy_O := hy_fx nx_M_exceptionFor (0, av, w)
set_option maxHeartbeats 4000000 in
set_option maxRecDepth 100000 in
theorem sk_M_exceptionFor_0 {p : Program} {l : Launch} {e : Env} {s : State} {m : MethodId} {args : Array Value} {below : List Frame} {meth : Method} {c : Code} {G : hy_G} {A : Nat → Prop} {ad0 : Nat → Nat} {w0 : hy_W} {o : hy_O} (hl9 : l.flags = flags0) (hA : hy_A G ad0 w0 s.heap.size = A) (B : hy_B p l e (hy_rm 2 45 w0) s m args below meth c "HyphenPatternsModel" b_M_exceptionFor 7 (some .int) [] G A) (v0 : Nat) (v1 : Int32) (v2 : Int32) (w : hy_W) (nx : hy_N) (h : sg_M_exceptionFor_0 v0 v1 v2 w = some nx) (K : hy_Nx lay_M_exceptionFor p l e (hy_rm 2 45 w0) s m args below meth c 7 G A ad0 w0.1.length (hy_Q below G ad0 w0 o args s) o nx) : hy_At lay_M_exceptionFor p l e (hy_rm 2 45 w0) s m args below meth c 7 G A ad0 w0.1.length (hy_Q below G ad0 w0 o args s) (0, [.ref v0, .int v1, .int v2], w) := by
  intro ad H locs cells slots ls S hok hl
  have hx := B.1
  have hb := B.2.1
  dsimp only at S hok
  have hl : lv_has ls 7 [(0, .ref (ad v0)), (1, .int v1), (2, .int v2)] := hl
  show W p l e (hy_rm 2 45 w0) s m args below meth c H locs cells slots (hy_Q below G ad0 w0 o args s) (F0 m 0 ls [])
  have hv_v0 : v0 < w.1.length := hok (.ref v0) (List.mem_of_getElem? (i := 0) rfl) v0 rfl
  obtain ⟨a_v0, ha_v0⟩ : ∃ a, ad v0 = a := ⟨_, rfl⟩
  rw [ha_v0] at hl
  unfold sg_M_exceptionFor_0 at h
  refine lv_iconst (v := (-1)) hx hb d_M_exceptionFor_0 (by decide) ?_
  refine lv_istore_n (lv' := [(3, .int (-1)), (0, .ref a_v0), (1, .int v1), (2, .int v2)]) hx hb d_M_exceptionFor_1 rfl hl (Nat.le_of_ble_eq_true rfl) rfl (fun ls hl => ?_)
  refine lv_iconst (v := 0) hx hb d_M_exceptionFor_2 (by decide) ?_
  refine lv_istore (lv' := [(4, .int 0), (3, .int (-1)), (0, .ref a_v0), (1, .int v1), (2, .int v2)]) hx hb d_M_exceptionFor_3 hl (Nat.le_of_ble_eq_true rfl) rfl (fun ls hl => ?_)
  cases h
  exact hy_jump K S (hy_okr (by omega) (hy_oki (hy_oki (hy_oki (hy_oki hy_ok0))))) (lv_sub hl [2, 3, 4, 1, 0] rfl) (by subst ha_v0; rfl) (by subst ha_v0; rfl)
set_option maxHeartbeats 4000000 in
set_option maxRecDepth 100000 in
theorem sk_M_exceptionFor_5 {p : Program} {l : Launch} {e : Env} {s : State} {m : MethodId} {args : Array Value} {below : List Frame} {meth : Method} {c : Code} {G : hy_G} {A : Nat → Prop} {ad0 : Nat → Nat} {w0 : hy_W} {o : hy_O} (hl9 : l.flags = flags0) (hA : hy_A G ad0 w0 s.heap.size = A) (B : hy_B p l e (hy_rm 2 45 w0) s m args below meth c "HyphenPatternsModel" b_M_exceptionFor 7 (some .int) [] G A) (v0 : Nat) (v1 : Int32) (v2 : Int32) (v3 : Int32) (v4 : Int32) (w : hy_W) (nx : hy_N) (h : sg_M_exceptionFor_5 v0 v1 v2 v3 v4 w = some nx) (K : hy_Nx lay_M_exceptionFor p l e (hy_rm 2 45 w0) s m args below meth c 7 G A ad0 w0.1.length (hy_Q below G ad0 w0 o args s) o nx) : hy_At lay_M_exceptionFor p l e (hy_rm 2 45 w0) s m args below meth c 7 G A ad0 w0.1.length (hy_Q below G ad0 w0 o args s) (5, [.ref v0, .int v1, .int v2, .int v3, .int v4], w) := by
  intro ad H locs cells slots ls S hok hl
  have hx := B.1
  have hb := B.2.1
  dsimp only at S hok
  have hl : lv_has ls 7 [(0, .ref (ad v0)), (1, .int v1), (2, .int v2), (3, .int v3), (4, .int v4)] := hl
  show W p l e (hy_rm 2 45 w0) s m args below meth c H locs cells slots (hy_Q below G ad0 w0 o args s) (F0 m 5 ls [])
  have hv_v0 : v0 < w.1.length := hok (.ref v0) (List.mem_of_getElem? (i := 0) rfl) v0 rfl
  obtain ⟨a_v0, ha_v0⟩ : ∃ a, ad v0 = a := ⟨_, rfl⟩
  rw [ha_v0] at hl
  unfold sg_M_exceptionFor_5 at h
  refine lv_iload hx hb d_M_exceptionFor_5 (lv_at hl 4 rfl) ?_
  refine lv_aload_n hx hb d_M_exceptionFor_7 rfl (lv_at hl 0 rfl) ?_
  obtain ⟨x1, hx1, h⟩ := hy_bd h
  refine hy_geti B S ha_v0 hx1 rfl (Nat.le_of_ble_eq_true rfl) i_6 (j := 19) tw_669 (fun _ h => h) d_M_exceptionFor_8 ?_
  refine lv_icmp_ge (tgt := 117) hx hb d_M_exceptionFor_11 (by decide) (fun c2 => ?_) (fun c2 => ?_)
  · rw [if_pos c2] at h
    refine lv_iload_n hx hb d_M_exceptionFor_117 rfl (lv_at hl 3 rfl) ?_
    cases h
    cases K
    exact hy_iret hA B S d_M_exceptionFor_118
  · rw [if_neg c2] at h
    refine lv_aload_n hx hb d_M_exceptionFor_14 rfl (lv_at hl 0 rfl) ?_
    obtain ⟨r3, hr3, h⟩ := hy_bd h
    refine hy_getr B S ha_v0 hr3 rfl (Nat.le_of_ble_eq_true rfl) i_6 (j := 20) tw_670 (fun _ h => h) d_M_exceptionFor_15 (fun a_r3 ha_r3 hv_r3 => ?_)
    refine lv_iload hx hb d_M_exceptionFor_18 (lv_at hl 4 rfl) ?_
    obtain ⟨x4, hx4, h⟩ := hy_bd h
    refine hy_iald B S ha_r3 hx4 d_M_exceptionFor_20 ?_
    refine lv_aload_n hx hb d_M_exceptionFor_21 rfl (lv_at hl 0 rfl) ?_
    obtain ⟨x5, hx5, h⟩ := hy_bd h
    refine hy_geti B S ha_v0 hx5 rfl (Nat.le_of_ble_eq_true rfl) i_6 (j := 1) tw_651 (fun _ h => h) d_M_exceptionFor_22 ?_
    refine lv_icmp_ne (tgt := 45) hx hb d_M_exceptionFor_25 (by decide) (fun c6 => ?_) (fun c6 => ?_)
    · rw [if_neg c6] at h
      cases h
      exact hy_jump K S (hy_okr (by omega) (hy_oki (hy_oki (hy_oki (hy_oki hy_ok0))))) (lv_sub hl [0, 1, 2, 3, 4] rfl) (by subst ha_v0; rfl) (by subst ha_v0; rfl)
    · rw [if_pos c6] at h
      refine lv_aload_n hx hb d_M_exceptionFor_28 rfl (lv_at hl 0 rfl) ?_
      obtain ⟨r7, hr7, h⟩ := hy_bd h
      refine hy_getr B S ha_v0 hr7 rfl (Nat.le_of_ble_eq_true rfl) i_6 (j := 21) tw_671 (fun _ h => h) d_M_exceptionFor_29 (fun a_r7 ha_r7 hv_r7 => ?_)
      refine lv_iload hx hb d_M_exceptionFor_32 (lv_at hl 4 rfl) ?_
      obtain ⟨x8, hx8, h⟩ := hy_bd h
      refine hy_iald B S ha_r7 hx8 d_M_exceptionFor_34 ?_
      refine lv_iload_n hx hb d_M_exceptionFor_35 rfl (lv_at hl 2 rfl) ?_
      refine lv_iload_n hx hb d_M_exceptionFor_36 rfl (lv_at hl 1 rfl) ?_
      refine lv_isub hx hb d_M_exceptionFor_37 ?_
      refine lv_icmp_ne (tgt := 45) hx hb d_M_exceptionFor_38 (by decide) (fun c9 => ?_) (fun c9 => ?_)
      · rw [if_neg c9] at h
        cases h
        exact hy_jump K S (hy_okr (by omega) (hy_oki (hy_oki (hy_oki (hy_oki hy_ok0))))) (lv_sub hl [0, 1, 2, 3, 4] rfl) (by subst ha_v0; rfl) (by subst ha_v0; rfl)
      · rw [if_pos c9] at h
        refine lv_iconst (v := 1) hx hb d_M_exceptionFor_41 (by decide) ?_
        refine lv_goto (tgt := 46) hx hb d_M_exceptionFor_42 (by decide) ?_
        cases h
        exact hy_jump K S (hy_okr (by omega) (hy_oki (hy_oki (hy_oki (hy_oki (hy_oki hy_ok0)))))) (lv_sub hl [0, 1, 2, 3, 4] rfl) (by subst ha_v0; rfl) (by subst ha_v0; rfl)
set_option maxHeartbeats 4000000 in
set_option maxRecDepth 100000 in
theorem sk_M_exceptionFor_45 {p : Program} {l : Launch} {e : Env} {s : State} {m : MethodId} {args : Array Value} {below : List Frame} {meth : Method} {c : Code} {G : hy_G} {A : Nat → Prop} {ad0 : Nat → Nat} {w0 : hy_W} {o : hy_O} (hl9 : l.flags = flags0) (hA : hy_A G ad0 w0 s.heap.size = A) (B : hy_B p l e (hy_rm 2 45 w0) s m args below meth c "HyphenPatternsModel" b_M_exceptionFor 7 (some .int) [] G A) (v0 : Nat) (v1 : Int32) (v2 : Int32) (v3 : Int32) (v4 : Int32) (w : hy_W) (nx : hy_N) (h : sg_M_exceptionFor_45 v0 v1 v2 v3 v4 w = some nx) (K : hy_Nx lay_M_exceptionFor p l e (hy_rm 2 45 w0) s m args below meth c 7 G A ad0 w0.1.length (hy_Q below G ad0 w0 o args s) o nx) : hy_At lay_M_exceptionFor p l e (hy_rm 2 45 w0) s m args below meth c 7 G A ad0 w0.1.length (hy_Q below G ad0 w0 o args s) (45, [.ref v0, .int v1, .int v2, .int v3, .int v4], w) := by
  intro ad H locs cells slots ls S hok hl
  have hx := B.1
  have hb := B.2.1
  dsimp only at S hok
  have hl : lv_has ls 7 [(0, .ref (ad v0)), (1, .int v1), (2, .int v2), (3, .int v3), (4, .int v4)] := hl
  show W p l e (hy_rm 2 45 w0) s m args below meth c H locs cells slots (hy_Q below G ad0 w0 o args s) (F0 m 45 ls [])
  have hv_v0 : v0 < w.1.length := hok (.ref v0) (List.mem_of_getElem? (i := 0) rfl) v0 rfl
  obtain ⟨a_v0, ha_v0⟩ : ∃ a, ad v0 = a := ⟨_, rfl⟩
  rw [ha_v0] at hl
  unfold sg_M_exceptionFor_45 at h
  refine lv_iconst (v := 0) hx hb d_M_exceptionFor_45 (by decide) ?_
  cases h
  exact hy_jump K S (hy_okr (by omega) (hy_oki (hy_oki (hy_oki (hy_oki (hy_oki hy_ok0)))))) (lv_sub hl [0, 1, 2, 3, 4] rfl) (by subst ha_v0; rfl) (by subst ha_v0; rfl)
set_option maxHeartbeats 4000000 in
set_option maxRecDepth 100000 in
theorem sk_M_exceptionFor_46 {p : Program} {l : Launch} {e : Env} {s : State} {m : MethodId} {args : Array Value} {below : List Frame} {meth : Method} {c : Code} {G : hy_G} {A : Nat → Prop} {ad0 : Nat → Nat} {w0 : hy_W} {o : hy_O} (hl9 : l.flags = flags0) (hA : hy_A G ad0 w0 s.heap.size = A) (B : hy_B p l e (hy_rm 2 45 w0) s m args below meth c "HyphenPatternsModel" b_M_exceptionFor 7 (some .int) [] G A) (v0 : Nat) (v1 : Int32) (v2 : Int32) (v3 : Int32) (v4 : Int32) (s0 : Int32) (w : hy_W) (nx : hy_N) (h : sg_M_exceptionFor_46 v0 v1 v2 v3 v4 s0 w = some nx) (K : hy_Nx lay_M_exceptionFor p l e (hy_rm 2 45 w0) s m args below meth c 7 G A ad0 w0.1.length (hy_Q below G ad0 w0 o args s) o nx) : hy_At lay_M_exceptionFor p l e (hy_rm 2 45 w0) s m args below meth c 7 G A ad0 w0.1.length (hy_Q below G ad0 w0 o args s) (46, [.ref v0, .int v1, .int v2, .int v3, .int v4, .int s0], w) := by
  intro ad H locs cells slots ls S hok hl
  have hx := B.1
  have hb := B.2.1
  dsimp only at S hok
  have hl : lv_has ls 7 [(0, .ref (ad v0)), (1, .int v1), (2, .int v2), (3, .int v3), (4, .int v4)] := hl
  show W p l e (hy_rm 2 45 w0) s m args below meth c H locs cells slots (hy_Q below G ad0 w0 o args s) (F0 m 46 ls [.int s0])
  have hv_v0 : v0 < w.1.length := hok (.ref v0) (List.mem_of_getElem? (i := 0) rfl) v0 rfl
  obtain ⟨a_v0, ha_v0⟩ : ∃ a, ad v0 = a := ⟨_, rfl⟩
  rw [ha_v0] at hl
  unfold sg_M_exceptionFor_46 at h
  refine lv_istore (lv' := [(5, .int s0), (0, .ref a_v0), (1, .int v1), (2, .int v2), (3, .int v3), (4, .int v4)]) hx hb d_M_exceptionFor_46 hl (Nat.le_of_ble_eq_true rfl) rfl (fun ls hl => ?_)
  refine lv_iload_n hx hb d_M_exceptionFor_48 rfl (lv_at hl 2 rfl) ?_
  refine lv_istore (lv' := [(6, .int v1), (5, .int s0), (0, .ref a_v0), (1, .int v1), (2, .int v2), (3, .int v3), (4, .int v4)]) hx hb d_M_exceptionFor_49 hl (Nat.le_of_ble_eq_true rfl) rfl (fun ls hl => ?_)
  cases h
  exact hy_jump K S (hy_okr (by omega) (hy_oki (hy_oki (hy_oki (hy_oki (hy_oki (hy_oki hy_ok0))))))) (lv_sub hl [2, 3, 4, 5, 6, 1, 0] rfl) (by subst ha_v0; rfl) (by subst ha_v0; rfl)
set_option maxHeartbeats 4000000 in
set_option maxRecDepth 100000 in
theorem sk_M_exceptionFor_51 {p : Program} {l : Launch} {e : Env} {s : State} {m : MethodId} {args : Array Value} {below : List Frame} {meth : Method} {c : Code} {G : hy_G} {A : Nat → Prop} {ad0 : Nat → Nat} {w0 : hy_W} {o : hy_O} (hl9 : l.flags = flags0) (hA : hy_A G ad0 w0 s.heap.size = A) (B : hy_B p l e (hy_rm 2 45 w0) s m args below meth c "HyphenPatternsModel" b_M_exceptionFor 7 (some .int) [] G A) (v0 : Nat) (v1 : Int32) (v2 : Int32) (v3 : Int32) (v4 : Int32) (v5 : Int32) (v6 : Int32) (w : hy_W) (nx : hy_N) (h : sg_M_exceptionFor_51 v0 v1 v2 v3 v4 v5 v6 w = some nx) (K : hy_Nx lay_M_exceptionFor p l e (hy_rm 2 45 w0) s m args below meth c 7 G A ad0 w0.1.length (hy_Q below G ad0 w0 o args s) o nx) : hy_At lay_M_exceptionFor p l e (hy_rm 2 45 w0) s m args below meth c 7 G A ad0 w0.1.length (hy_Q below G ad0 w0 o args s) (51, [.ref v0, .int v1, .int v2, .int v3, .int v4, .int v5, .int v6], w) := by
  intro ad H locs cells slots ls S hok hl
  have hx := B.1
  have hb := B.2.1
  dsimp only at S hok
  have hl : lv_has ls 7 [(0, .ref (ad v0)), (1, .int v1), (2, .int v2), (3, .int v3), (4, .int v4), (5, .int v5), (6, .int v6)] := hl
  show W p l e (hy_rm 2 45 w0) s m args below meth c H locs cells slots (hy_Q below G ad0 w0 o args s) (F0 m 51 ls [])
  have hv_v0 : v0 < w.1.length := hok (.ref v0) (List.mem_of_getElem? (i := 0) rfl) v0 rfl
  obtain ⟨a_v0, ha_v0⟩ : ∃ a, ad v0 = a := ⟨_, rfl⟩
  rw [ha_v0] at hl
  unfold sg_M_exceptionFor_51 at h
  refine lv_iload hx hb d_M_exceptionFor_51 (lv_at hl 6 rfl) ?_
  refine lv_iload_n hx hb d_M_exceptionFor_53 rfl (lv_at hl 2 rfl) ?_
  refine lv_icmp_ge (tgt := 99) hx hb d_M_exceptionFor_54 (by decide) (fun c1 => ?_) (fun c1 => ?_)
  · rw [if_pos c1] at h
    cases h
    exact hy_jump K S (hy_okr (by omega) (hy_oki (hy_oki (hy_oki (hy_oki (hy_oki hy_ok0)))))) (lv_sub hl [0, 1, 2, 3, 4, 5] rfl) (by subst ha_v0; rfl) (by subst ha_v0; rfl)
  · rw [if_neg c1] at h
    refine lv_iload hx hb d_M_exceptionFor_57 (lv_at hl 5 rfl) ?_
    refine lv_if_eq (tgt := 99) hx hb d_M_exceptionFor_59 (by decide) (fun c2 => ?_) (fun c2 => ?_)
    · rw [if_pos c2] at h
      cases h
      exact hy_jump K S (hy_okr (by omega) (hy_oki (hy_oki (hy_oki (hy_oki (hy_oki hy_ok0)))))) (lv_sub hl [0, 1, 2, 3, 4, 5] rfl) (by subst ha_v0; rfl) (by subst ha_v0; rfl)
    · rw [if_neg c2] at h
      refine lv_aload_n hx hb d_M_exceptionFor_62 rfl (lv_at hl 0 rfl) ?_
      obtain ⟨r3, hr3, h⟩ := hy_bd h
      refine hy_getr B S ha_v0 hr3 rfl (Nat.le_of_ble_eq_true rfl) i_6 (j := 22) tw_672 (fun _ h => h) d_M_exceptionFor_63 (fun a_r3 ha_r3 hv_r3 => ?_)
      refine lv_bipush (v := 40) hx hb d_M_exceptionFor_66 (by decide) ?_
      refine lv_iload hx hb d_M_exceptionFor_68 (lv_at hl 4 rfl) ?_
      refine lv_imul hx hb d_M_exceptionFor_70 ?_
      refine lv_iload hx hb d_M_exceptionFor_71 (lv_at hl 6 rfl) ?_
      refine lv_iadd hx hb d_M_exceptionFor_73 ?_
      refine lv_iload_n hx hb d_M_exceptionFor_74 rfl (lv_at hl 1 rfl) ?_
      refine lv_isub hx hb d_M_exceptionFor_75 ?_
      obtain ⟨x4, hx4, h⟩ := hy_bd h
      refine hy_iald B S ha_r3 hx4 d_M_exceptionFor_76 ?_
      refine lv_aload_n hx hb d_M_exceptionFor_77 rfl (lv_at hl 0 rfl) ?_
      refine lv_iload hx hb d_M_exceptionFor_78 (lv_at hl 6 rfl) ?_
      obtain ⟨ob8, h⟩ := hy_if h
      obtain ⟨fs_ob8, hf_ob8, hg_ob8⟩ := hy_ob_spec ob8
      obtain ⟨x7, w5, hq_w5, h⟩ := hy_bi_spec h
      refine hy_calli (hy_runV (rest := [.int x4]) (As := [.int v6]) (r := v0) (b := a_v0) B S rfl ha_v0 (by rfl) (c_M_letterAt hl9 G ad hq_w5) (hy_okr (by omega) (hy_oki hy_ok0)) tw_865 tw_9 tw_862 tw_864 sl_M_letterAt (by decide) rfl (Nat.le_of_ble_eq_true rfl) (Nat.le_of_ble_eq_true rfl) hf_ob8 hg_ob8 rfl hl.1 (Nat.le_of_ble_eq_true rfl) d_M_exceptionFor_80) (fun ad6 H locs cells slots hag hl_w5 S => ?_)
      have ha_v0 : ad6 v0 = a_v0 := (hag v0 (by omega)).trans ha_v0
      refine lv_icmp_ne (tgt := 90) hx hb d_M_exceptionFor_83 (by decide) (fun c9 => ?_) (fun c9 => ?_)
      · rw [if_neg c9] at h
        refine lv_iconst (v := 0) hx hb d_M_exceptionFor_90 (by decide) ?_
        cases h
        exact hy_jump K S (hy_okr (by omega) (hy_oki (hy_oki (hy_oki (hy_oki (hy_oki (hy_oki hy_ok0))))))) (lv_sub hl [0, 1, 2, 3, 4, 6] rfl) (by subst ha_v0; rfl) (by subst ha_v0; rfl)
      · rw [if_pos c9] at h
        refine lv_iconst (v := 1) hx hb d_M_exceptionFor_86 (by decide) ?_
        refine lv_goto (tgt := 91) hx hb d_M_exceptionFor_87 (by decide) ?_
        cases h
        exact hy_jump K S (hy_okr (by omega) (hy_oki (hy_oki (hy_oki (hy_oki (hy_oki (hy_oki hy_ok0))))))) (lv_sub hl [0, 1, 2, 3, 4, 6] rfl) (by subst ha_v0; rfl) (by subst ha_v0; rfl)
set_option maxHeartbeats 4000000 in
set_option maxRecDepth 100000 in
theorem sk_M_exceptionFor_91 {p : Program} {l : Launch} {e : Env} {s : State} {m : MethodId} {args : Array Value} {below : List Frame} {meth : Method} {c : Code} {G : hy_G} {A : Nat → Prop} {ad0 : Nat → Nat} {w0 : hy_W} {o : hy_O} (hl9 : l.flags = flags0) (hA : hy_A G ad0 w0 s.heap.size = A) (B : hy_B p l e (hy_rm 2 45 w0) s m args below meth c "HyphenPatternsModel" b_M_exceptionFor 7 (some .int) [] G A) (v0 : Nat) (v1 : Int32) (v2 : Int32) (v3 : Int32) (v4 : Int32) (v6 : Int32) (s0 : Int32) (w : hy_W) (nx : hy_N) (h : sg_M_exceptionFor_91 v0 v1 v2 v3 v4 v6 s0 w = some nx) (K : hy_Nx lay_M_exceptionFor p l e (hy_rm 2 45 w0) s m args below meth c 7 G A ad0 w0.1.length (hy_Q below G ad0 w0 o args s) o nx) : hy_At lay_M_exceptionFor p l e (hy_rm 2 45 w0) s m args below meth c 7 G A ad0 w0.1.length (hy_Q below G ad0 w0 o args s) (91, [.ref v0, .int v1, .int v2, .int v3, .int v4, .int v6, .int s0], w) := by
  intro ad H locs cells slots ls S hok hl
  have hx := B.1
  have hb := B.2.1
  dsimp only at S hok
  have hl : lv_has ls 7 [(0, .ref (ad v0)), (1, .int v1), (2, .int v2), (3, .int v3), (4, .int v4), (6, .int v6)] := hl
  show W p l e (hy_rm 2 45 w0) s m args below meth c H locs cells slots (hy_Q below G ad0 w0 o args s) (F0 m 91 ls [.int s0])
  have hv_v0 : v0 < w.1.length := hok (.ref v0) (List.mem_of_getElem? (i := 0) rfl) v0 rfl
  obtain ⟨a_v0, ha_v0⟩ : ∃ a, ad v0 = a := ⟨_, rfl⟩
  rw [ha_v0] at hl
  unfold sg_M_exceptionFor_91 at h
  refine lv_istore (lv' := [(5, .int s0), (0, .ref a_v0), (1, .int v1), (2, .int v2), (3, .int v3), (4, .int v4), (6, .int v6)]) hx hb d_M_exceptionFor_91 hl (Nat.le_of_ble_eq_true rfl) rfl (fun ls hl => ?_)
  refine lv_iinc (v := (v6 + 1)) (lv' := [(6, .int (v6 + 1)), (5, .int s0), (0, .ref a_v0), (1, .int v1), (2, .int v2), (3, .int v3), (4, .int v4)]) hx hb d_M_exceptionFor_93 hl (k := 6) rfl rfl (Nat.le_of_ble_eq_true rfl) rfl (fun ls hl => ?_)
  refine lv_goto (tgt := 51) hx hb d_M_exceptionFor_96 (by decide) ?_
  cases h
  exact hy_jump K S (hy_okr (by omega) (hy_oki (hy_oki (hy_oki (hy_oki (hy_oki (hy_oki hy_ok0))))))) (lv_sub hl [2, 3, 4, 5, 6, 1, 0] rfl) (by subst ha_v0; rfl) (by subst ha_v0; rfl)
set_option maxHeartbeats 4000000 in
set_option maxRecDepth 100000 in
theorem sk_M_exceptionFor_99 {p : Program} {l : Launch} {e : Env} {s : State} {m : MethodId} {args : Array Value} {below : List Frame} {meth : Method} {c : Code} {G : hy_G} {A : Nat → Prop} {ad0 : Nat → Nat} {w0 : hy_W} {o : hy_O} (hl9 : l.flags = flags0) (hA : hy_A G ad0 w0 s.heap.size = A) (B : hy_B p l e (hy_rm 2 45 w0) s m args below meth c "HyphenPatternsModel" b_M_exceptionFor 7 (some .int) [] G A) (v0 : Nat) (v1 : Int32) (v2 : Int32) (v3 : Int32) (v4 : Int32) (v5 : Int32) (w : hy_W) (nx : hy_N) (h : sg_M_exceptionFor_99 v0 v1 v2 v3 v4 v5 w = some nx) (K : hy_Nx lay_M_exceptionFor p l e (hy_rm 2 45 w0) s m args below meth c 7 G A ad0 w0.1.length (hy_Q below G ad0 w0 o args s) o nx) : hy_At lay_M_exceptionFor p l e (hy_rm 2 45 w0) s m args below meth c 7 G A ad0 w0.1.length (hy_Q below G ad0 w0 o args s) (99, [.ref v0, .int v1, .int v2, .int v3, .int v4, .int v5], w) := by
  intro ad H locs cells slots ls S hok hl
  have hx := B.1
  have hb := B.2.1
  dsimp only at S hok
  have hl : lv_has ls 7 [(0, .ref (ad v0)), (1, .int v1), (2, .int v2), (3, .int v3), (4, .int v4), (5, .int v5)] := hl
  show W p l e (hy_rm 2 45 w0) s m args below meth c H locs cells slots (hy_Q below G ad0 w0 o args s) (F0 m 99 ls [])
  have hv_v0 : v0 < w.1.length := hok (.ref v0) (List.mem_of_getElem? (i := 0) rfl) v0 rfl
  obtain ⟨a_v0, ha_v0⟩ : ∃ a, ad v0 = a := ⟨_, rfl⟩
  rw [ha_v0] at hl
  unfold sg_M_exceptionFor_99 at h
  refine lv_iload hx hb d_M_exceptionFor_99 (lv_at hl 5 rfl) ?_
  refine lv_if_eq (tgt := 109) hx hb d_M_exceptionFor_101 (by decide) (fun c1 => ?_) (fun c1 => ?_)
  · rw [if_pos c1] at h
    refine lv_iload_n hx hb d_M_exceptionFor_109 rfl (lv_at hl 3 rfl) ?_
    cases h
    exact hy_jump K S (hy_okr (by omega) (hy_oki (hy_oki (hy_oki (hy_oki hy_ok0))))) (lv_sub hl [0, 1, 2, 4] rfl) (by subst ha_v0; rfl) (by subst ha_v0; rfl)
  · rw [if_neg c1] at h
    refine lv_iload hx hb d_M_exceptionFor_104 (lv_at hl 4 rfl) ?_
    refine lv_goto (tgt := 110) hx hb d_M_exceptionFor_106 (by decide) ?_
    cases h
    exact hy_jump K S (hy_okr (by omega) (hy_oki (hy_oki (hy_oki (hy_oki hy_ok0))))) (lv_sub hl [0, 1, 2, 4] rfl) (by subst ha_v0; rfl) (by subst ha_v0; rfl)
set_option maxHeartbeats 4000000 in
set_option maxRecDepth 100000 in
theorem sk_M_exceptionFor_110 {p : Program} {l : Launch} {e : Env} {s : State} {m : MethodId} {args : Array Value} {below : List Frame} {meth : Method} {c : Code} {G : hy_G} {A : Nat → Prop} {ad0 : Nat → Nat} {w0 : hy_W} {o : hy_O} (hl9 : l.flags = flags0) (hA : hy_A G ad0 w0 s.heap.size = A) (B : hy_B p l e (hy_rm 2 45 w0) s m args below meth c "HyphenPatternsModel" b_M_exceptionFor 7 (some .int) [] G A) (v0 : Nat) (v1 : Int32) (v2 : Int32) (v4 : Int32) (s0 : Int32) (w : hy_W) (nx : hy_N) (h : sg_M_exceptionFor_110 v0 v1 v2 v4 s0 w = some nx) (K : hy_Nx lay_M_exceptionFor p l e (hy_rm 2 45 w0) s m args below meth c 7 G A ad0 w0.1.length (hy_Q below G ad0 w0 o args s) o nx) : hy_At lay_M_exceptionFor p l e (hy_rm 2 45 w0) s m args below meth c 7 G A ad0 w0.1.length (hy_Q below G ad0 w0 o args s) (110, [.ref v0, .int v1, .int v2, .int v4, .int s0], w) := by
  intro ad H locs cells slots ls S hok hl
  have hx := B.1
  have hb := B.2.1
  dsimp only at S hok
  have hl : lv_has ls 7 [(0, .ref (ad v0)), (1, .int v1), (2, .int v2), (4, .int v4)] := hl
  show W p l e (hy_rm 2 45 w0) s m args below meth c H locs cells slots (hy_Q below G ad0 w0 o args s) (F0 m 110 ls [.int s0])
  have hv_v0 : v0 < w.1.length := hok (.ref v0) (List.mem_of_getElem? (i := 0) rfl) v0 rfl
  obtain ⟨a_v0, ha_v0⟩ : ∃ a, ad v0 = a := ⟨_, rfl⟩
  rw [ha_v0] at hl
  unfold sg_M_exceptionFor_110 at h
  refine lv_istore_n (lv' := [(3, .int s0), (0, .ref a_v0), (1, .int v1), (2, .int v2), (4, .int v4)]) hx hb d_M_exceptionFor_110 rfl hl (Nat.le_of_ble_eq_true rfl) rfl (fun ls hl => ?_)
  refine lv_iinc (v := (v4 + 1)) (lv' := [(4, .int (v4 + 1)), (3, .int s0), (0, .ref a_v0), (1, .int v1), (2, .int v2)]) hx hb d_M_exceptionFor_111 hl (k := 4) rfl rfl (Nat.le_of_ble_eq_true rfl) rfl (fun ls hl => ?_)
  refine lv_goto (tgt := 5) hx hb d_M_exceptionFor_114 (by decide) ?_
  cases h
  exact hy_jump K S (hy_okr (by omega) (hy_oki (hy_oki (hy_oki (hy_oki hy_ok0))))) (lv_sub hl [2, 3, 4, 1, 0] rfl) (by subst ha_v0; rfl) (by subst ha_v0; rfl)
theorem nk_M_exceptionFor {p : Program} {l : Launch} {e : Env} {s : State} {m : MethodId} {args : Array Value} {below : List Frame} {meth : Method} {c : Code} {G : hy_G} {A : Nat → Prop} {ad0 : Nat → Nat} {w0 : hy_W} {o : hy_O} (hl9 : l.flags = flags0) (hA : hy_A G ad0 w0 s.heap.size = A) (B : hy_B p l e (hy_rm 2 45 w0) s m args below meth c "HyphenPatternsModel" b_M_exceptionFor 7 (some .int) [] G A) (q : hy_P) (nx : hy_N) (hq : nx_M_exceptionFor q = some nx) (K : hy_Nx lay_M_exceptionFor p l e (hy_rm 2 45 w0) s m args below meth c 7 G A ad0 w0.1.length (hy_Q below G ad0 w0 o args s) o nx) : hy_At lay_M_exceptionFor p l e (hy_rm 2 45 w0) s m args below meth c 7 G A ad0 w0.1.length (hy_Q below G ad0 w0 o args s) q := by
  unfold nx_M_exceptionFor at hq
  split at hq
  · exact sk_M_exceptionFor_0 hl9 hA B _ _ _ _ nx hq K
  · exact sk_M_exceptionFor_5 hl9 hA B _ _ _ _ _ _ nx hq K
  · exact sk_M_exceptionFor_45 hl9 hA B _ _ _ _ _ _ nx hq K
  · exact sk_M_exceptionFor_46 hl9 hA B _ _ _ _ _ _ _ nx hq K
  · exact sk_M_exceptionFor_51 hl9 hA B _ _ _ _ _ _ _ _ nx hq K
  · exact sk_M_exceptionFor_91 hl9 hA B _ _ _ _ _ _ _ _ nx hq K
  · exact sk_M_exceptionFor_99 hl9 hA B _ _ _ _ _ _ _ nx hq K
  · exact sk_M_exceptionFor_110 hl9 hA B _ _ _ _ _ _ nx hq K
  · cases hq
theorem c_M_exceptionFor {l : Launch} (hl9 : l.flags = flags0) (G : hy_G) (ad : Nat → Nat) {v0 : Nat} {v1 : Int32} {v2 : Int32} {w : hy_W} {o : hy_O} (h : f_M_exceptionFor [.ref v0, .int v1, .int v2] w = some o) : hy_M l y_M_exceptionFor (Cond.code y_M_exceptionFor b_M_exceptionFor 7 (some .int) :: hy_T) 2 45 G ad [.ref v0, .int v1, .int v2] w o := by
  obtain ⟨n, hn⟩ := hy_fx_iff.mp h
  refine hy_ofW hl9 (by decide +kernel) (Nat.le_of_ble_eq_true rfl) (fun p e s m args below meth c A hA hi B S hok ls hl => ?_)
  exact hy_loop (nk_M_exceptionFor hl9 hA B) n _ hn ad s.heap [] 0 0 ls S hok hl
theorem d_M_isAt_0 : decode b_M_isAt 0 = .ok (.aload_n 0, 1) := by decide +kernel
theorem d_M_isAt_1 : decode b_M_isAt 1 = .ok (.getfield 40, 3) := by decide +kernel
theorem d_M_isAt_4 : decode b_M_isAt 4 = .ok (.iload_n 1, 1) := by decide +kernel
theorem d_M_isAt_5 : decode b_M_isAt 5 = .ok (.iaload, 1) := by decide +kernel
theorem d_M_isAt_6 : decode b_M_isAt 6 = .ok (.aload_n 0, 1) := by decide +kernel
theorem d_M_isAt_7 : decode b_M_isAt 7 = .ok (.getfield 76, 3) := by decide +kernel
theorem d_M_isAt_10 : decode b_M_isAt 10 = .ok (.if_icmp .ne 22, 3) := by decide +kernel
theorem d_M_isAt_13 : decode b_M_isAt 13 = .ok (.iload_n 2, 1) := by decide +kernel
theorem d_M_isAt_14 : decode b_M_isAt 14 = .ok (.aload_n 0, 1) := by decide +kernel
theorem d_M_isAt_15 : decode b_M_isAt 15 = .ok (.getfield 43, 3) := by decide +kernel
theorem d_M_isAt_18 : decode b_M_isAt 18 = .ok (.iload_n 1, 1) := by decide +kernel
theorem d_M_isAt_19 : decode b_M_isAt 19 = .ok (.iaload, 1) := by decide +kernel
theorem d_M_isAt_20 : decode b_M_isAt 20 = .ok (.iadd, 1) := by decide +kernel
theorem d_M_isAt_21 : decode b_M_isAt 21 = .ok (.iload 4, 2) := by decide +kernel
theorem d_M_isAt_23 : decode b_M_isAt 23 = .ok (.iconst 1, 1) := by decide +kernel
theorem d_M_isAt_24 : decode b_M_isAt 24 = .ok (.iadd, 1) := by decide +kernel
theorem d_M_isAt_25 : decode b_M_isAt 25 = .ok (.if_icmp .gt 7, 3) := by decide +kernel
theorem d_M_isAt_28 : decode b_M_isAt 28 = .ok (.iconst 1, 1) := by decide +kernel
theorem d_M_isAt_29 : decode b_M_isAt 29 = .ok (.goto 4, 3) := by decide +kernel
theorem d_M_isAt_32 : decode b_M_isAt 32 = .ok (.iconst 0, 1) := by decide +kernel
theorem d_M_isAt_33 : decode b_M_isAt 33 = .ok (.istore 5, 2) := by decide +kernel
theorem d_M_isAt_35 : decode b_M_isAt 35 = .ok (.iconst 0, 1) := by decide +kernel
theorem d_M_isAt_36 : decode b_M_isAt 36 = .ok (.istore 6, 2) := by decide +kernel
theorem d_M_isAt_38 : decode b_M_isAt 38 = .ok (.iload 6, 2) := by decide +kernel
theorem d_M_isAt_40 : decode b_M_isAt 40 = .ok (.aload_n 0, 1) := by decide +kernel
theorem d_M_isAt_41 : decode b_M_isAt 41 = .ok (.getfield 43, 3) := by decide +kernel
theorem d_M_isAt_44 : decode b_M_isAt 44 = .ok (.iload_n 1, 1) := by decide +kernel
theorem d_M_isAt_45 : decode b_M_isAt 45 = .ok (.iaload, 1) := by decide +kernel
theorem d_M_isAt_46 : decode b_M_isAt 46 = .ok (.if_icmp .ge 69, 3) := by decide +kernel
theorem d_M_isAt_49 : decode b_M_isAt 49 = .ok (.iload 5, 2) := by decide +kernel
theorem d_M_isAt_51 : decode b_M_isAt 51 = .ok (.ifCond .eq 64, 3) := by decide +kernel
theorem d_M_isAt_54 : decode b_M_isAt 54 = .ok (.iload_n 2, 1) := by decide +kernel
theorem d_M_isAt_55 : decode b_M_isAt 55 = .ok (.iload 6, 2) := by decide +kernel
theorem d_M_isAt_57 : decode b_M_isAt 57 = .ok (.iadd, 1) := by decide +kernel
theorem d_M_isAt_58 : decode b_M_isAt 58 = .ok (.istore 7, 2) := by decide +kernel
theorem d_M_isAt_60 : decode b_M_isAt 60 = .ok (.iload 7, 2) := by decide +kernel
theorem d_M_isAt_62 : decode b_M_isAt 62 = .ok (.iload_n 3, 1) := by decide +kernel
theorem d_M_isAt_63 : decode b_M_isAt 63 = .ok (.if_icmp .lt 10, 3) := by decide +kernel
theorem d_M_isAt_66 : decode b_M_isAt 66 = .ok (.iload 7, 2) := by decide +kernel
theorem d_M_isAt_68 : decode b_M_isAt 68 = .ok (.iload 4, 2) := by decide +kernel
theorem d_M_isAt_70 : decode b_M_isAt 70 = .ok (.if_icmp .lt 7, 3) := by decide +kernel
theorem d_M_isAt_73 : decode b_M_isAt 73 = .ok (.iconst 0, 1) := by decide +kernel
theorem d_M_isAt_74 : decode b_M_isAt 74 = .ok (.goto 9, 3) := by decide +kernel
theorem d_M_isAt_77 : decode b_M_isAt 77 = .ok (.aload_n 0, 1) := by decide +kernel
theorem d_M_isAt_78 : decode b_M_isAt 78 = .ok (.iload 7, 2) := by decide +kernel
theorem d_M_isAt_80 : decode b_M_isAt 80 = .ok (.invokevirtual 141, 3) := by decide +kernel
theorem d_M_isAt_83 : decode b_M_isAt 83 = .ok (.istore 8, 2) := by decide +kernel
theorem d_M_isAt_85 : decode b_M_isAt 85 = .ok (.aload_n 0, 1) := by decide +kernel
theorem d_M_isAt_86 : decode b_M_isAt 86 = .ok (.getfield 46, 3) := by decide +kernel
theorem d_M_isAt_89 : decode b_M_isAt 89 = .ok (.bipush 16, 2) := by decide +kernel
theorem d_M_isAt_91 : decode b_M_isAt 91 = .ok (.iload_n 1, 1) := by decide +kernel
theorem d_M_isAt_92 : decode b_M_isAt 92 = .ok (.imul, 1) := by decide +kernel
theorem d_M_isAt_93 : decode b_M_isAt 93 = .ok (.iload 6, 2) := by decide +kernel
theorem d_M_isAt_95 : decode b_M_isAt 95 = .ok (.iadd, 1) := by decide +kernel
theorem d_M_isAt_96 : decode b_M_isAt 96 = .ok (.iaload, 1) := by decide +kernel
theorem d_M_isAt_97 : decode b_M_isAt 97 = .ok (.iload 8, 2) := by decide +kernel
theorem d_M_isAt_99 : decode b_M_isAt 99 = .ok (.if_icmp .ne 7, 3) := by decide +kernel
theorem d_M_isAt_102 : decode b_M_isAt 102 = .ok (.iconst 1, 1) := by decide +kernel
theorem d_M_isAt_103 : decode b_M_isAt 103 = .ok (.goto 4, 3) := by decide +kernel
theorem d_M_isAt_106 : decode b_M_isAt 106 = .ok (.iconst 0, 1) := by decide +kernel
theorem d_M_isAt_107 : decode b_M_isAt 107 = .ok (.istore 5, 2) := by decide +kernel
theorem d_M_isAt_109 : decode b_M_isAt 109 = .ok (.iinc 6 1, 3) := by decide +kernel
theorem d_M_isAt_112 : decode b_M_isAt 112 = .ok (.goto (-74), 3) := by decide +kernel
theorem d_M_isAt_115 : decode b_M_isAt 115 = .ok (.iload 5, 2) := by decide +kernel
theorem d_M_isAt_117 : decode b_M_isAt 117 = .ok (.ireturn, 1) := by decide +kernel
def lay_M_isAt (pc : Nat) : List Nat := if pc = 0 then [0, 1, 2, 3, 4] else if pc = 32 then [0, 1, 2, 3, 4] else if pc = 33 then [0, 1, 2, 3, 4] else if pc = 38 then [0, 1, 2, 3, 4, 5, 6] else if pc = 73 then [0, 1, 2, 3, 4, 6] else if pc = 83 then [0, 1, 2, 3, 4, 6] else if pc = 107 then [0, 1, 2, 3, 4, 6] else []
noncomputable def sg_M_isAt_0 (v0 : Nat) (v1 : Int32) (v2 : Int32) (v3 : Int32) (v4 : Int32) (w : hy_W) : Option hy_N := (hy_gr w v0 6 15).bind fun r1 => (hy_ai w r1 v1).bind fun x2 => (hy_gi w v0 6 1).bind fun x3 => if x2 = x3 then ((hy_gr w v0 6 16).bind fun r5 => (hy_ai w r5 v1).bind fun x6 => if (v4 + 1) < (v2 + x6) then (some (.inl (32, [.ref v0, .int v1, .int v2, .int v3, .int v4], w))) else (some (.inl (33, [.ref v0, .int v1, .int v2, .int v3, .int v4, .int 1], w)))) else (some (.inl (32, [.ref v0, .int v1, .int v2, .int v3, .int v4], w)))
noncomputable def sg_M_isAt_32 (v0 : Nat) (v1 : Int32) (v2 : Int32) (v3 : Int32) (v4 : Int32) (w : hy_W) : Option hy_N := some (.inl (33, [.ref v0, .int v1, .int v2, .int v3, .int v4, .int 0], w))
noncomputable def sg_M_isAt_33 (v0 : Nat) (v1 : Int32) (v2 : Int32) (v3 : Int32) (v4 : Int32) (s0 : Int32) (w : hy_W) : Option hy_N := some (.inl (38, [.ref v0, .int v1, .int v2, .int v3, .int v4, .int s0, .int 0], w))
noncomputable def sg_M_isAt_38 (v0 : Nat) (v1 : Int32) (v2 : Int32) (v3 : Int32) (v4 : Int32) (v5 : Int32) (v6 : Int32) (w : hy_W) : Option hy_N := (hy_gr w v0 6 16).bind fun r1 => (hy_ai w r1 v1).bind fun x2 => if x2 ≤ v6 then (if v5 = 0 ∨ v5 = 1 then some (.inr (.inl (some (.int v5)), w)) else none) else (if v5 = 0 then (if v5 = 0 ∨ v5 = 1 then some (.inr (.inl (some (.int v5)), w)) else none) else (if (v2 + v6) < v3 then (some (.inl (73, [.ref v0, .int v1, .int v2, .int v3, .int v4, .int v6], w))) else (if (v2 + v6) < v4 then (if hy_ob w v0 6 = true then hy_bi (f_M_letterAt [.ref v0, .int (v2 + v6)] w) fun x11 w9 => some (.inl (83, [.ref v0, .int v1, .int v2, .int v3, .int v4, .int v6, .int x11], w9)) else none) else (some (.inl (73, [.ref v0, .int v1, .int v2, .int v3, .int v4, .int v6], w))))))
noncomputable def sg_M_isAt_73 (v0 : Nat) (v1 : Int32) (v2 : Int32) (v3 : Int32) (v4 : Int32) (v6 : Int32) (w : hy_W) : Option hy_N := some (.inl (83, [.ref v0, .int v1, .int v2, .int v3, .int v4, .int v6, .int 0], w))
noncomputable def sg_M_isAt_83 (v0 : Nat) (v1 : Int32) (v2 : Int32) (v3 : Int32) (v4 : Int32) (v6 : Int32) (s0 : Int32) (w : hy_W) : Option hy_N := (hy_gr w v0 6 17).bind fun r1 => (hy_ai w r1 ((16 * v1) + v6)).bind fun x2 => if x2 = s0 then (some (.inl (107, [.ref v0, .int v1, .int v2, .int v3, .int v4, .int v6, .int 1], w))) else (some (.inl (107, [.ref v0, .int v1, .int v2, .int v3, .int v4, .int v6, .int 0], w)))
noncomputable def sg_M_isAt_107 (v0 : Nat) (v1 : Int32) (v2 : Int32) (v3 : Int32) (v4 : Int32) (v6 : Int32) (s0 : Int32) (w : hy_W) : Option hy_N := some (.inl (38, [.ref v0, .int v1, .int v2, .int v3, .int v4, .int s0, .int (v6 + 1)], w))
noncomputable def nx_M_isAt (q : hy_P) : Option hy_N := match q with
  | (0, [.ref v0, .int v1, .int v2, .int v3, .int v4], w) => sg_M_isAt_0 v0 v1 v2 v3 v4 w
  | (32, [.ref v0, .int v1, .int v2, .int v3, .int v4], w) => sg_M_isAt_32 v0 v1 v2 v3 v4 w
  | (33, [.ref v0, .int v1, .int v2, .int v3, .int v4, .int s0], w) => sg_M_isAt_33 v0 v1 v2 v3 v4 s0 w
  | (38, [.ref v0, .int v1, .int v2, .int v3, .int v4, .int v5, .int v6], w) => sg_M_isAt_38 v0 v1 v2 v3 v4 v5 v6 w
  | (73, [.ref v0, .int v1, .int v2, .int v3, .int v4, .int v6], w) => sg_M_isAt_73 v0 v1 v2 v3 v4 v6 w
  | (83, [.ref v0, .int v1, .int v2, .int v3, .int v4, .int v6, .int s0], w) => sg_M_isAt_83 v0 v1 v2 v3 v4 v6 s0 w
  | (107, [.ref v0, .int v1, .int v2, .int v3, .int v4, .int v6, .int s0], w) => sg_M_isAt_107 v0 v1 v2 v3 v4 v6 s0 w
  | _ => none
noncomputable def f_M_isAt (av : List Value) (w : hy_W) : Option hy_O := hy_fx nx_M_isAt (0, av, w)
set_option maxHeartbeats 4000000 in
set_option maxRecDepth 100000 in
theorem sk_M_isAt_0 {p : Program} {l : Launch} {e : Env} {s : State} {m : MethodId} {args : Array Value} {below : List Frame} {meth : Method} {c : Code} {G : hy_G} {A : Nat → Prop} {ad0 : Nat → Nat} {w0 : hy_W} {o : hy_O} (hl9 : l.flags = flags0) (hA : hy_A G ad0 w0 s.heap.size = A) (B : hy_B p l e (hy_rm 2 45 w0) s m args below meth c "HyphenPatternsModel" b_M_isAt 9 (some .boolean) [] G A) (v0 : Nat) (v1 : Int32) (v2 : Int32) (v3 : Int32) (v4 : Int32) (w : hy_W) (nx : hy_N) (h : sg_M_isAt_0 v0 v1 v2 v3 v4 w = some nx) (K : hy_Nx lay_M_isAt p l e (hy_rm 2 45 w0) s m args below meth c 9 G A ad0 w0.1.length (hy_Q below G ad0 w0 o args s) o nx) : hy_At lay_M_isAt p l e (hy_rm 2 45 w0) s m args below meth c 9 G A ad0 w0.1.length (hy_Q below G ad0 w0 o args s) (0, [.ref v0, .int v1, .int v2, .int v3, .int v4], w) := by
  intro ad H locs cells slots ls S hok hl
  have hx := B.1
  have hb := B.2.1
  dsimp only at S hok
  have hl : lv_has ls 9 [(0, .ref (ad v0)), (1, .int v1), (2, .int v2), (3, .int v3), (4, .int v4)] := hl
  show W p l e (hy_rm 2 45 w0) s m args below meth c H locs cells slots (hy_Q below G ad0 w0 o args s) (F0 m 0 ls [])
  have hv_v0 : v0 < w.1.length := hok (.ref v0) (List.mem_of_getElem? (i := 0) rfl) v0 rfl
  obtain ⟨a_v0, ha_v0⟩ : ∃ a, ad v0 = a := ⟨_, rfl⟩
  rw [ha_v0] at hl
  unfold sg_M_isAt_0 at h
  refine lv_aload_n hx hb d_M_isAt_0 rfl (lv_at hl 0 rfl) ?_
  obtain ⟨r1, hr1, h⟩ := hy_bd h
  refine hy_getr B S ha_v0 hr1 rfl (Nat.le_of_ble_eq_true rfl) i_6 (j := 15) tw_665 (fun _ h => h) d_M_isAt_1 (fun a_r1 ha_r1 hv_r1 => ?_)
  refine lv_iload_n hx hb d_M_isAt_4 rfl (lv_at hl 1 rfl) ?_
  obtain ⟨x2, hx2, h⟩ := hy_bd h
  refine hy_iald B S ha_r1 hx2 d_M_isAt_5 ?_
  refine lv_aload_n hx hb d_M_isAt_6 rfl (lv_at hl 0 rfl) ?_
  obtain ⟨x3, hx3, h⟩ := hy_bd h
  refine hy_geti B S ha_v0 hx3 rfl (Nat.le_of_ble_eq_true rfl) i_6 (j := 1) tw_651 (fun _ h => h) d_M_isAt_7 ?_
  refine lv_icmp_ne (tgt := 32) hx hb d_M_isAt_10 (by decide) (fun c4 => ?_) (fun c4 => ?_)
  · rw [if_neg c4] at h
    cases h
    exact hy_jump K S (hy_okr (by omega) (hy_oki (hy_oki (hy_oki (hy_oki hy_ok0))))) (lv_sub hl [0, 1, 2, 3, 4] rfl) (by subst ha_v0; rfl) (by subst ha_v0; rfl)
  · rw [if_pos c4] at h
    refine lv_iload_n hx hb d_M_isAt_13 rfl (lv_at hl 2 rfl) ?_
    refine lv_aload_n hx hb d_M_isAt_14 rfl (lv_at hl 0 rfl) ?_
    obtain ⟨r5, hr5, h⟩ := hy_bd h
    refine hy_getr B S ha_v0 hr5 rfl (Nat.le_of_ble_eq_true rfl) i_6 (j := 16) tw_666 (fun _ h => h) d_M_isAt_15 (fun a_r5 ha_r5 hv_r5 => ?_)
    refine lv_iload_n hx hb d_M_isAt_18 rfl (lv_at hl 1 rfl) ?_
    obtain ⟨x6, hx6, h⟩ := hy_bd h
    refine hy_iald B S ha_r5 hx6 d_M_isAt_19 ?_
    refine lv_iadd hx hb d_M_isAt_20 ?_
    refine lv_iload hx hb d_M_isAt_21 (lv_at hl 4 rfl) ?_
    refine lv_iconst (v := 1) hx hb d_M_isAt_23 (by decide) ?_
    refine lv_iadd hx hb d_M_isAt_24 ?_
    refine lv_icmp_gt (tgt := 32) hx hb d_M_isAt_25 (by decide) (fun c7 => ?_) (fun c7 => ?_)
    · rw [if_pos c7] at h
      cases h
      exact hy_jump K S (hy_okr (by omega) (hy_oki (hy_oki (hy_oki (hy_oki hy_ok0))))) (lv_sub hl [0, 1, 2, 3, 4] rfl) (by subst ha_v0; rfl) (by subst ha_v0; rfl)
    · rw [if_neg c7] at h
      refine lv_iconst (v := 1) hx hb d_M_isAt_28 (by decide) ?_
      refine lv_goto (tgt := 33) hx hb d_M_isAt_29 (by decide) ?_
      cases h
      exact hy_jump K S (hy_okr (by omega) (hy_oki (hy_oki (hy_oki (hy_oki (hy_oki hy_ok0)))))) (lv_sub hl [0, 1, 2, 3, 4] rfl) (by subst ha_v0; rfl) (by subst ha_v0; rfl)
set_option maxHeartbeats 4000000 in
set_option maxRecDepth 100000 in
theorem sk_M_isAt_32 {p : Program} {l : Launch} {e : Env} {s : State} {m : MethodId} {args : Array Value} {below : List Frame} {meth : Method} {c : Code} {G : hy_G} {A : Nat → Prop} {ad0 : Nat → Nat} {w0 : hy_W} {o : hy_O} (hl9 : l.flags = flags0) (hA : hy_A G ad0 w0 s.heap.size = A) (B : hy_B p l e (hy_rm 2 45 w0) s m args below meth c "HyphenPatternsModel" b_M_isAt 9 (some .boolean) [] G A) (v0 : Nat) (v1 : Int32) (v2 : Int32) (v3 : Int32) (v4 : Int32) (w : hy_W) (nx : hy_N) (h : sg_M_isAt_32 v0 v1 v2 v3 v4 w = some nx) (K : hy_Nx lay_M_isAt p l e (hy_rm 2 45 w0) s m args below meth c 9 G A ad0 w0.1.length (hy_Q below G ad0 w0 o args s) o nx) : hy_At lay_M_isAt p l e (hy_rm 2 45 w0) s m args below meth c 9 G A ad0 w0.1.length (hy_Q below G ad0 w0 o args s) (32, [.ref v0, .int v1, .int v2, .int v3, .int v4], w) := by
  intro ad H locs cells slots ls S hok hl
  have hx := B.1
  have hb := B.2.1
  dsimp only at S hok
  have hl : lv_has ls 9 [(0, .ref (ad v0)), (1, .int v1), (2, .int v2), (3, .int v3), (4, .int v4)] := hl
  show W p l e (hy_rm 2 45 w0) s m args below meth c H locs cells slots (hy_Q below G ad0 w0 o args s) (F0 m 32 ls [])
  have hv_v0 : v0 < w.1.length := hok (.ref v0) (List.mem_of_getElem? (i := 0) rfl) v0 rfl
  obtain ⟨a_v0, ha_v0⟩ : ∃ a, ad v0 = a := ⟨_, rfl⟩
  rw [ha_v0] at hl
  unfold sg_M_isAt_32 at h
  refine lv_iconst (v := 0) hx hb d_M_isAt_32 (by decide) ?_
  cases h
  exact hy_jump K S (hy_okr (by omega) (hy_oki (hy_oki (hy_oki (hy_oki (hy_oki hy_ok0)))))) (lv_sub hl [0, 1, 2, 3, 4] rfl) (by subst ha_v0; rfl) (by subst ha_v0; rfl)
set_option maxHeartbeats 4000000 in
set_option maxRecDepth 100000 in
theorem sk_M_isAt_33 {p : Program} {l : Launch} {e : Env} {s : State} {m : MethodId} {args : Array Value} {below : List Frame} {meth : Method} {c : Code} {G : hy_G} {A : Nat → Prop} {ad0 : Nat → Nat} {w0 : hy_W} {o : hy_O} (hl9 : l.flags = flags0) (hA : hy_A G ad0 w0 s.heap.size = A) (B : hy_B p l e (hy_rm 2 45 w0) s m args below meth c "HyphenPatternsModel" b_M_isAt 9 (some .boolean) [] G A) (v0 : Nat) (v1 : Int32) (v2 : Int32) (v3 : Int32) (v4 : Int32) (s0 : Int32) (w : hy_W) (nx : hy_N) (h : sg_M_isAt_33 v0 v1 v2 v3 v4 s0 w = some nx) (K : hy_Nx lay_M_isAt p l e (hy_rm 2 45 w0) s m args below meth c 9 G A ad0 w0.1.length (hy_Q below G ad0 w0 o args s) o nx) : hy_At lay_M_isAt p l e (hy_rm 2 45 w0) s m args below meth c 9 G A ad0 w0.1.length (hy_Q below G ad0 w0 o args s) (33, [.ref v0, .int v1, .int v2, .int v3, .int v4, .int s0], w) := by
  intro ad H locs cells slots ls S hok hl
  have hx := B.1
  have hb := B.2.1
  dsimp only at S hok
  have hl : lv_has ls 9 [(0, .ref (ad v0)), (1, .int v1), (2, .int v2), (3, .int v3), (4, .int v4)] := hl
  show W p l e (hy_rm 2 45 w0) s m args below meth c H locs cells slots (hy_Q below G ad0 w0 o args s) (F0 m 33 ls [.int s0])
  have hv_v0 : v0 < w.1.length := hok (.ref v0) (List.mem_of_getElem? (i := 0) rfl) v0 rfl
  obtain ⟨a_v0, ha_v0⟩ : ∃ a, ad v0 = a := ⟨_, rfl⟩
  rw [ha_v0] at hl
  unfold sg_M_isAt_33 at h
  refine lv_istore (lv' := [(5, .int s0), (0, .ref a_v0), (1, .int v1), (2, .int v2), (3, .int v3), (4, .int v4)]) hx hb d_M_isAt_33 hl (Nat.le_of_ble_eq_true rfl) rfl (fun ls hl => ?_)
  refine lv_iconst (v := 0) hx hb d_M_isAt_35 (by decide) ?_
  refine lv_istore (lv' := [(6, .int 0), (5, .int s0), (0, .ref a_v0), (1, .int v1), (2, .int v2), (3, .int v3), (4, .int v4)]) hx hb d_M_isAt_36 hl (Nat.le_of_ble_eq_true rfl) rfl (fun ls hl => ?_)
  cases h
  exact hy_jump K S (hy_okr (by omega) (hy_oki (hy_oki (hy_oki (hy_oki (hy_oki (hy_oki hy_ok0))))))) (lv_sub hl [2, 3, 4, 5, 6, 1, 0] rfl) (by subst ha_v0; rfl) (by subst ha_v0; rfl)
set_option maxHeartbeats 4000000 in
set_option maxRecDepth 100000 in
theorem sk_M_isAt_38 {p : Program} {l : Launch} {e : Env} {s : State} {m : MethodId} {args : Array Value} {below : List Frame} {meth : Method} {c : Code} {G : hy_G} {A : Nat → Prop} {ad0 : Nat → Nat} {w0 : hy_W} {o : hy_O} (hl9 : l.flags = flags0) (hA : hy_A G ad0 w0 s.heap.size = A) (B : hy_B p l e (hy_rm 2 45 w0) s m args below meth c "HyphenPatternsModel" b_M_isAt 9 (some .boolean) [] G A) (v0 : Nat) (v1 : Int32) (v2 : Int32) (v3 : Int32) (v4 : Int32) (v5 : Int32) (v6 : Int32) (w : hy_W) (nx : hy_N) (h : sg_M_isAt_38 v0 v1 v2 v3 v4 v5 v6 w = some nx) (K : hy_Nx lay_M_isAt p l e (hy_rm 2 45 w0) s m args below meth c 9 G A ad0 w0.1.length (hy_Q below G ad0 w0 o args s) o nx) : hy_At lay_M_isAt p l e (hy_rm 2 45 w0) s m args below meth c 9 G A ad0 w0.1.length (hy_Q below G ad0 w0 o args s) (38, [.ref v0, .int v1, .int v2, .int v3, .int v4, .int v5, .int v6], w) := by
  intro ad H locs cells slots ls S hok hl
  have hx := B.1
  have hb := B.2.1
  dsimp only at S hok
  have hl : lv_has ls 9 [(0, .ref (ad v0)), (1, .int v1), (2, .int v2), (3, .int v3), (4, .int v4), (5, .int v5), (6, .int v6)] := hl
  show W p l e (hy_rm 2 45 w0) s m args below meth c H locs cells slots (hy_Q below G ad0 w0 o args s) (F0 m 38 ls [])
  have hv_v0 : v0 < w.1.length := hok (.ref v0) (List.mem_of_getElem? (i := 0) rfl) v0 rfl
  obtain ⟨a_v0, ha_v0⟩ : ∃ a, ad v0 = a := ⟨_, rfl⟩
  rw [ha_v0] at hl
  unfold sg_M_isAt_38 at h
  refine lv_iload hx hb d_M_isAt_38 (lv_at hl 6 rfl) ?_
  refine lv_aload_n hx hb d_M_isAt_40 rfl (lv_at hl 0 rfl) ?_
  obtain ⟨r1, hr1, h⟩ := hy_bd h
  refine hy_getr B S ha_v0 hr1 rfl (Nat.le_of_ble_eq_true rfl) i_6 (j := 16) tw_666 (fun _ h => h) d_M_isAt_41 (fun a_r1 ha_r1 hv_r1 => ?_)
  refine lv_iload_n hx hb d_M_isAt_44 rfl (lv_at hl 1 rfl) ?_
  obtain ⟨x2, hx2, h⟩ := hy_bd h
  refine hy_iald B S ha_r1 hx2 d_M_isAt_45 ?_
  refine lv_icmp_ge (tgt := 115) hx hb d_M_isAt_46 (by decide) (fun c3 => ?_) (fun c3 => ?_)
  · rw [if_pos c3] at h
    refine lv_iload hx hb d_M_isAt_115 (lv_at hl 5 rfl) ?_
    obtain ⟨z4, h⟩ := hy_if h
    cases h
    cases K
    exact hy_zret hA B S z4 d_M_isAt_117
  · rw [if_neg c3] at h
    refine lv_iload hx hb d_M_isAt_49 (lv_at hl 5 rfl) ?_
    refine lv_if_eq (tgt := 115) hx hb d_M_isAt_51 (by decide) (fun c5 => ?_) (fun c5 => ?_)
    · rw [if_pos c5] at h
      refine lv_iload hx hb d_M_isAt_115 (lv_at hl 5 rfl) ?_
      obtain ⟨z6, h⟩ := hy_if h
      cases h
      cases K
      exact hy_zret hA B S z6 d_M_isAt_117
    · rw [if_neg c5] at h
      refine lv_iload_n hx hb d_M_isAt_54 rfl (lv_at hl 2 rfl) ?_
      refine lv_iload hx hb d_M_isAt_55 (lv_at hl 6 rfl) ?_
      refine lv_iadd hx hb d_M_isAt_57 ?_
      refine lv_istore (lv' := [(7, .int (v2 + v6)), (0, .ref a_v0), (1, .int v1), (2, .int v2), (3, .int v3), (4, .int v4), (5, .int v5), (6, .int v6)]) hx hb d_M_isAt_58 hl (Nat.le_of_ble_eq_true rfl) rfl (fun ls hl => ?_)
      refine lv_iload hx hb d_M_isAt_60 (lv_at hl 0 rfl) ?_
      refine lv_iload_n hx hb d_M_isAt_62 rfl (lv_at hl 4 rfl) ?_
      refine lv_icmp_lt (tgt := 73) hx hb d_M_isAt_63 (by decide) (fun c7 => ?_) (fun c7 => ?_)
      · rw [if_pos c7] at h
        cases h
        exact hy_jump K S (hy_okr (by omega) (hy_oki (hy_oki (hy_oki (hy_oki (hy_oki hy_ok0)))))) (lv_sub hl [1, 2, 3, 4, 5, 7] rfl) (by subst ha_v0; rfl) (by subst ha_v0; rfl)
      · rw [if_neg c7] at h
        refine lv_iload hx hb d_M_isAt_66 (lv_at hl 0 rfl) ?_
        refine lv_iload hx hb d_M_isAt_68 (lv_at hl 5 rfl) ?_
        refine lv_icmp_lt (tgt := 77) hx hb d_M_isAt_70 (by decide) (fun c8 => ?_) (fun c8 => ?_)
        · rw [if_pos c8] at h
          refine lv_aload_n hx hb d_M_isAt_77 rfl (lv_at hl 1 rfl) ?_
          refine lv_iload hx hb d_M_isAt_78 (lv_at hl 0 rfl) ?_
          obtain ⟨ob12, h⟩ := hy_if h
          obtain ⟨fs_ob12, hf_ob12, hg_ob12⟩ := hy_ob_spec ob12
          obtain ⟨x11, w9, hq_w9, h⟩ := hy_bi_spec h
          refine hy_calli (hy_runV (rest := []) (As := [.int (v2 + v6)]) (r := v0) (b := a_v0) B S rfl ha_v0 (by rfl) (c_M_letterAt hl9 G ad hq_w9) (hy_okr (by omega) (hy_oki hy_ok0)) tw_865 tw_9 tw_862 tw_864 sl_M_letterAt (by decide) rfl (Nat.le_of_ble_eq_true rfl) (Nat.le_of_ble_eq_true rfl) hf_ob12 hg_ob12 rfl hl.1 (Nat.le_of_ble_eq_true rfl) d_M_isAt_80) (fun ad10 H locs cells slots hag hl_w9 S => ?_)
          have ha_v0 : ad10 v0 = a_v0 := (hag v0 (by omega)).trans ha_v0
          cases h
          exact hy_jump K S (hy_okr (by omega) (hy_oki (hy_oki (hy_oki (hy_oki (hy_oki (hy_oki hy_ok0))))))) (lv_sub hl [1, 2, 3, 4, 5, 7] rfl) (by subst ha_v0; rfl) (by subst ha_v0; rfl)
        · rw [if_neg c8] at h
          cases h
          exact hy_jump K S (hy_okr (by omega) (hy_oki (hy_oki (hy_oki (hy_oki (hy_oki hy_ok0)))))) (lv_sub hl [1, 2, 3, 4, 5, 7] rfl) (by subst ha_v0; rfl) (by subst ha_v0; rfl)
set_option maxHeartbeats 4000000 in
set_option maxRecDepth 100000 in
theorem sk_M_isAt_73 {p : Program} {l : Launch} {e : Env} {s : State} {m : MethodId} {args : Array Value} {below : List Frame} {meth : Method} {c : Code} {G : hy_G} {A : Nat → Prop} {ad0 : Nat → Nat} {w0 : hy_W} {o : hy_O} (hl9 : l.flags = flags0) (hA : hy_A G ad0 w0 s.heap.size = A) (B : hy_B p l e (hy_rm 2 45 w0) s m args below meth c "HyphenPatternsModel" b_M_isAt 9 (some .boolean) [] G A) (v0 : Nat) (v1 : Int32) (v2 : Int32) (v3 : Int32) (v4 : Int32) (v6 : Int32) (w : hy_W) (nx : hy_N) (h : sg_M_isAt_73 v0 v1 v2 v3 v4 v6 w = some nx) (K : hy_Nx lay_M_isAt p l e (hy_rm 2 45 w0) s m args below meth c 9 G A ad0 w0.1.length (hy_Q below G ad0 w0 o args s) o nx) : hy_At lay_M_isAt p l e (hy_rm 2 45 w0) s m args below meth c 9 G A ad0 w0.1.length (hy_Q below G ad0 w0 o args s) (73, [.ref v0, .int v1, .int v2, .int v3, .int v4, .int v6], w) := by
  intro ad H locs cells slots ls S hok hl
  have hx := B.1
  have hb := B.2.1
  dsimp only at S hok
  have hl : lv_has ls 9 [(0, .ref (ad v0)), (1, .int v1), (2, .int v2), (3, .int v3), (4, .int v4), (6, .int v6)] := hl
  show W p l e (hy_rm 2 45 w0) s m args below meth c H locs cells slots (hy_Q below G ad0 w0 o args s) (F0 m 73 ls [])
  have hv_v0 : v0 < w.1.length := hok (.ref v0) (List.mem_of_getElem? (i := 0) rfl) v0 rfl
  obtain ⟨a_v0, ha_v0⟩ : ∃ a, ad v0 = a := ⟨_, rfl⟩
  rw [ha_v0] at hl
  unfold sg_M_isAt_73 at h
  refine lv_iconst (v := 0) hx hb d_M_isAt_73 (by decide) ?_
  refine lv_goto (tgt := 83) hx hb d_M_isAt_74 (by decide) ?_
  cases h
  exact hy_jump K S (hy_okr (by omega) (hy_oki (hy_oki (hy_oki (hy_oki (hy_oki (hy_oki hy_ok0))))))) (lv_sub hl [0, 1, 2, 3, 4, 5] rfl) (by subst ha_v0; rfl) (by subst ha_v0; rfl)
set_option maxHeartbeats 4000000 in
set_option maxRecDepth 100000 in
theorem sk_M_isAt_83 {p : Program} {l : Launch} {e : Env} {s : State} {m : MethodId} {args : Array Value} {below : List Frame} {meth : Method} {c : Code} {G : hy_G} {A : Nat → Prop} {ad0 : Nat → Nat} {w0 : hy_W} {o : hy_O} (hl9 : l.flags = flags0) (hA : hy_A G ad0 w0 s.heap.size = A) (B : hy_B p l e (hy_rm 2 45 w0) s m args below meth c "HyphenPatternsModel" b_M_isAt 9 (some .boolean) [] G A) (v0 : Nat) (v1 : Int32) (v2 : Int32) (v3 : Int32) (v4 : Int32) (v6 : Int32) (s0 : Int32) (w : hy_W) (nx : hy_N) (h : sg_M_isAt_83 v0 v1 v2 v3 v4 v6 s0 w = some nx) (K : hy_Nx lay_M_isAt p l e (hy_rm 2 45 w0) s m args below meth c 9 G A ad0 w0.1.length (hy_Q below G ad0 w0 o args s) o nx) : hy_At lay_M_isAt p l e (hy_rm 2 45 w0) s m args below meth c 9 G A ad0 w0.1.length (hy_Q below G ad0 w0 o args s) (83, [.ref v0, .int v1, .int v2, .int v3, .int v4, .int v6, .int s0], w) := by
  intro ad H locs cells slots ls S hok hl
  have hx := B.1
  have hb := B.2.1
  dsimp only at S hok
  have hl : lv_has ls 9 [(0, .ref (ad v0)), (1, .int v1), (2, .int v2), (3, .int v3), (4, .int v4), (6, .int v6)] := hl
  show W p l e (hy_rm 2 45 w0) s m args below meth c H locs cells slots (hy_Q below G ad0 w0 o args s) (F0 m 83 ls [.int s0])
  have hv_v0 : v0 < w.1.length := hok (.ref v0) (List.mem_of_getElem? (i := 0) rfl) v0 rfl
  obtain ⟨a_v0, ha_v0⟩ : ∃ a, ad v0 = a := ⟨_, rfl⟩
  rw [ha_v0] at hl
  unfold sg_M_isAt_83 at h
  refine lv_istore (lv' := [(8, .int s0), (0, .ref a_v0), (1, .int v1), (2, .int v2), (3, .int v3), (4, .int v4), (6, .int v6)]) hx hb d_M_isAt_83 hl (Nat.le_of_ble_eq_true rfl) rfl (fun ls hl => ?_)
  refine lv_aload_n hx hb d_M_isAt_85 rfl (lv_at hl 1 rfl) ?_
  obtain ⟨r1, hr1, h⟩ := hy_bd h
  refine hy_getr B S ha_v0 hr1 rfl (Nat.le_of_ble_eq_true rfl) i_6 (j := 17) tw_667 (fun _ h => h) d_M_isAt_86 (fun a_r1 ha_r1 hv_r1 => ?_)
  refine lv_bipush (v := 16) hx hb d_M_isAt_89 (by decide) ?_
  refine lv_iload_n hx hb d_M_isAt_91 rfl (lv_at hl 2 rfl) ?_
  refine lv_imul hx hb d_M_isAt_92 ?_
  refine lv_iload hx hb d_M_isAt_93 (lv_at hl 6 rfl) ?_
  refine lv_iadd hx hb d_M_isAt_95 ?_
  obtain ⟨x2, hx2, h⟩ := hy_bd h
  refine hy_iald B S ha_r1 hx2 d_M_isAt_96 ?_
  refine lv_iload hx hb d_M_isAt_97 (lv_at hl 0 rfl) ?_
  refine lv_icmp_ne (tgt := 106) hx hb d_M_isAt_99 (by decide) (fun c3 => ?_) (fun c3 => ?_)
  · rw [if_neg c3] at h
    refine lv_iconst (v := 0) hx hb d_M_isAt_106 (by decide) ?_
    cases h
    exact hy_jump K S (hy_okr (by omega) (hy_oki (hy_oki (hy_oki (hy_oki (hy_oki (hy_oki hy_ok0))))))) (lv_sub hl [1, 2, 3, 4, 5, 6] rfl) (by subst ha_v0; rfl) (by subst ha_v0; rfl)
  · rw [if_pos c3] at h
    refine lv_iconst (v := 1) hx hb d_M_isAt_102 (by decide) ?_
    refine lv_goto (tgt := 107) hx hb d_M_isAt_103 (by decide) ?_
    cases h
    exact hy_jump K S (hy_okr (by omega) (hy_oki (hy_oki (hy_oki (hy_oki (hy_oki (hy_oki hy_ok0))))))) (lv_sub hl [1, 2, 3, 4, 5, 6] rfl) (by subst ha_v0; rfl) (by subst ha_v0; rfl)
set_option maxHeartbeats 4000000 in
set_option maxRecDepth 100000 in
theorem sk_M_isAt_107 {p : Program} {l : Launch} {e : Env} {s : State} {m : MethodId} {args : Array Value} {below : List Frame} {meth : Method} {c : Code} {G : hy_G} {A : Nat → Prop} {ad0 : Nat → Nat} {w0 : hy_W} {o : hy_O} (hl9 : l.flags = flags0) (hA : hy_A G ad0 w0 s.heap.size = A) (B : hy_B p l e (hy_rm 2 45 w0) s m args below meth c "HyphenPatternsModel" b_M_isAt 9 (some .boolean) [] G A) (v0 : Nat) (v1 : Int32) (v2 : Int32) (v3 : Int32) (v4 : Int32) (v6 : Int32) (s0 : Int32) (w : hy_W) (nx : hy_N) (h : sg_M_isAt_107 v0 v1 v2 v3 v4 v6 s0 w = some nx) (K : hy_Nx lay_M_isAt p l e (hy_rm 2 45 w0) s m args below meth c 9 G A ad0 w0.1.length (hy_Q below G ad0 w0 o args s) o nx) : hy_At lay_M_isAt p l e (hy_rm 2 45 w0) s m args below meth c 9 G A ad0 w0.1.length (hy_Q below G ad0 w0 o args s) (107, [.ref v0, .int v1, .int v2, .int v3, .int v4, .int v6, .int s0], w) := by
  intro ad H locs cells slots ls S hok hl
  have hx := B.1
  have hb := B.2.1
  dsimp only at S hok
  have hl : lv_has ls 9 [(0, .ref (ad v0)), (1, .int v1), (2, .int v2), (3, .int v3), (4, .int v4), (6, .int v6)] := hl
  show W p l e (hy_rm 2 45 w0) s m args below meth c H locs cells slots (hy_Q below G ad0 w0 o args s) (F0 m 107 ls [.int s0])
  have hv_v0 : v0 < w.1.length := hok (.ref v0) (List.mem_of_getElem? (i := 0) rfl) v0 rfl
  obtain ⟨a_v0, ha_v0⟩ : ∃ a, ad v0 = a := ⟨_, rfl⟩
  rw [ha_v0] at hl
  unfold sg_M_isAt_107 at h
  refine lv_istore (lv' := [(5, .int s0), (0, .ref a_v0), (1, .int v1), (2, .int v2), (3, .int v3), (4, .int v4), (6, .int v6)]) hx hb d_M_isAt_107 hl (Nat.le_of_ble_eq_true rfl) rfl (fun ls hl => ?_)
  refine lv_iinc (v := (v6 + 1)) (lv' := [(6, .int (v6 + 1)), (5, .int s0), (0, .ref a_v0), (1, .int v1), (2, .int v2), (3, .int v3), (4, .int v4)]) hx hb d_M_isAt_109 hl (k := 6) rfl rfl (Nat.le_of_ble_eq_true rfl) rfl (fun ls hl => ?_)
  refine lv_goto (tgt := 38) hx hb d_M_isAt_112 (by decide) ?_
  cases h
  exact hy_jump K S (hy_okr (by omega) (hy_oki (hy_oki (hy_oki (hy_oki (hy_oki (hy_oki hy_ok0))))))) (lv_sub hl [2, 3, 4, 5, 6, 1, 0] rfl) (by subst ha_v0; rfl) (by subst ha_v0; rfl)
theorem nk_M_isAt {p : Program} {l : Launch} {e : Env} {s : State} {m : MethodId} {args : Array Value} {below : List Frame} {meth : Method} {c : Code} {G : hy_G} {A : Nat → Prop} {ad0 : Nat → Nat} {w0 : hy_W} {o : hy_O} (hl9 : l.flags = flags0) (hA : hy_A G ad0 w0 s.heap.size = A) (B : hy_B p l e (hy_rm 2 45 w0) s m args below meth c "HyphenPatternsModel" b_M_isAt 9 (some .boolean) [] G A) (q : hy_P) (nx : hy_N) (hq : nx_M_isAt q = some nx) (K : hy_Nx lay_M_isAt p l e (hy_rm 2 45 w0) s m args below meth c 9 G A ad0 w0.1.length (hy_Q below G ad0 w0 o args s) o nx) : hy_At lay_M_isAt p l e (hy_rm 2 45 w0) s m args below meth c 9 G A ad0 w0.1.length (hy_Q below G ad0 w0 o args s) q := by
  unfold nx_M_isAt at hq
  split at hq
  · exact sk_M_isAt_0 hl9 hA B _ _ _ _ _ _ nx hq K
  · exact sk_M_isAt_32 hl9 hA B _ _ _ _ _ _ nx hq K
  · exact sk_M_isAt_33 hl9 hA B _ _ _ _ _ _ _ nx hq K
  · exact sk_M_isAt_38 hl9 hA B _ _ _ _ _ _ _ _ nx hq K
  · exact sk_M_isAt_73 hl9 hA B _ _ _ _ _ _ _ nx hq K
  · exact sk_M_isAt_83 hl9 hA B _ _ _ _ _ _ _ _ nx hq K
  · exact sk_M_isAt_107 hl9 hA B _ _ _ _ _ _ _ _ nx hq K
  · cases hq
theorem c_M_isAt {l : Launch} (hl9 : l.flags = flags0) (G : hy_G) (ad : Nat → Nat) {v0 : Nat} {v1 : Int32} {v2 : Int32} {v3 : Int32} {v4 : Int32} {w : hy_W} {o : hy_O} (h : f_M_isAt [.ref v0, .int v1, .int v2, .int v3, .int v4] w = some o) : hy_M l y_M_isAt (Cond.code y_M_isAt b_M_isAt 9 (some .boolean) :: hy_T) 2 45 G ad [.ref v0, .int v1, .int v2, .int v3, .int v4] w o := by
  obtain ⟨n, hn⟩ := hy_fx_iff.mp h
  refine hy_ofW hl9 (by decide +kernel) (Nat.le_of_ble_eq_true rfl) (fun p e s m args below meth c A hA hi B S hok ls hl => ?_)
  exact hy_loop (nk_M_isAt hl9 hA B) n _ hn ad s.heap [] 0 0 ls S hok hl
theorem d_M_wordValue_0 : decode b_M_wordValue 0 = .ok (.aload_n 0, 1) := by decide +kernel
theorem d_M_wordValue_1 : decode b_M_wordValue 1 = .ok (.iload_n 2, 1) := by decide +kernel
theorem d_M_wordValue_2 : decode b_M_wordValue 2 = .ok (.iload_n 3, 1) := by decide +kernel
theorem d_M_wordValue_3 : decode b_M_wordValue 3 = .ok (.invokevirtual 144, 3) := by decide +kernel
theorem d_M_wordValue_6 : decode b_M_wordValue 6 = .ok (.istore 4, 2) := by decide +kernel
theorem d_M_wordValue_8 : decode b_M_wordValue 8 = .ok (.iload 4, 2) := by decide +kernel
theorem d_M_wordValue_10 : decode b_M_wordValue 10 = .ok (.ifCond .lt 18, 3) := by decide +kernel
theorem d_M_wordValue_13 : decode b_M_wordValue 13 = .ok (.aload_n 0, 1) := by decide +kernel
theorem d_M_wordValue_14 : decode b_M_wordValue 14 = .ok (.getfield 61, 3) := by decide +kernel
theorem d_M_wordValue_17 : decode b_M_wordValue 17 = .ok (.bipush 41, 2) := by decide +kernel
theorem d_M_wordValue_19 : decode b_M_wordValue 19 = .ok (.iload 4, 2) := by decide +kernel
theorem d_M_wordValue_21 : decode b_M_wordValue 21 = .ok (.imul, 1) := by decide +kernel
theorem d_M_wordValue_22 : decode b_M_wordValue 22 = .ok (.iload_n 1, 1) := by decide +kernel
theorem d_M_wordValue_23 : decode b_M_wordValue 23 = .ok (.iadd, 1) := by decide +kernel
theorem d_M_wordValue_24 : decode b_M_wordValue 24 = .ok (.iload_n 2, 1) := by decide +kernel
theorem d_M_wordValue_25 : decode b_M_wordValue 25 = .ok (.isub, 1) := by decide +kernel
theorem d_M_wordValue_26 : decode b_M_wordValue 26 = .ok (.iaload, 1) := by decide +kernel
theorem d_M_wordValue_27 : decode b_M_wordValue 27 = .ok (.ireturn, 1) := by decide +kernel
theorem d_M_wordValue_28 : decode b_M_wordValue 28 = .ok (.iconst 0, 1) := by decide +kernel
theorem d_M_wordValue_29 : decode b_M_wordValue 29 = .ok (.istore 5, 2) := by decide +kernel
theorem d_M_wordValue_31 : decode b_M_wordValue 31 = .ok (.iconst 0, 1) := by decide +kernel
theorem d_M_wordValue_32 : decode b_M_wordValue 32 = .ok (.istore 6, 2) := by decide +kernel
theorem d_M_wordValue_34 : decode b_M_wordValue 34 = .ok (.iload 6, 2) := by decide +kernel
theorem d_M_wordValue_36 : decode b_M_wordValue 36 = .ok (.aload_n 0, 1) := by decide +kernel
theorem d_M_wordValue_37 : decode b_M_wordValue 37 = .ok (.getfield 106, 3) := by decide +kernel
theorem d_M_wordValue_40 : decode b_M_wordValue 40 = .ok (.if_icmp .ge 93, 3) := by decide +kernel
theorem d_M_wordValue_43 : decode b_M_wordValue 43 = .ok (.iload_n 2, 1) := by decide +kernel
theorem d_M_wordValue_44 : decode b_M_wordValue 44 = .ok (.iconst 1, 1) := by decide +kernel
theorem d_M_wordValue_45 : decode b_M_wordValue 45 = .ok (.isub, 1) := by decide +kernel
theorem d_M_wordValue_46 : decode b_M_wordValue 46 = .ok (.istore 7, 2) := by decide +kernel
theorem d_M_wordValue_48 : decode b_M_wordValue 48 = .ok (.iload 7, 2) := by decide +kernel
theorem d_M_wordValue_50 : decode b_M_wordValue 50 = .ok (.iload_n 3, 1) := by decide +kernel
theorem d_M_wordValue_51 : decode b_M_wordValue 51 = .ok (.if_icmp .gt 76, 3) := by decide +kernel
theorem d_M_wordValue_54 : decode b_M_wordValue 54 = .ok (.iload_n 1, 1) := by decide +kernel
theorem d_M_wordValue_55 : decode b_M_wordValue 55 = .ok (.iload 7, 2) := by decide +kernel
theorem d_M_wordValue_57 : decode b_M_wordValue 57 = .ok (.isub, 1) := by decide +kernel
theorem d_M_wordValue_58 : decode b_M_wordValue 58 = .ok (.istore 8, 2) := by decide +kernel
theorem d_M_wordValue_60 : decode b_M_wordValue 60 = .ok (.iload 8, 2) := by decide +kernel
theorem d_M_wordValue_62 : decode b_M_wordValue 62 = .ok (.ifCond .lt 59, 3) := by decide +kernel
theorem d_M_wordValue_65 : decode b_M_wordValue 65 = .ok (.iload 8, 2) := by decide +kernel
theorem d_M_wordValue_67 : decode b_M_wordValue 67 = .ok (.aload_n 0, 1) := by decide +kernel
theorem d_M_wordValue_68 : decode b_M_wordValue 68 = .ok (.getfield 43, 3) := by decide +kernel
theorem d_M_wordValue_71 : decode b_M_wordValue 71 = .ok (.iload 6, 2) := by decide +kernel
theorem d_M_wordValue_73 : decode b_M_wordValue 73 = .ok (.iaload, 1) := by decide +kernel
theorem d_M_wordValue_74 : decode b_M_wordValue 74 = .ok (.if_icmp .gt 47, 3) := by decide +kernel
theorem d_M_wordValue_77 : decode b_M_wordValue 77 = .ok (.aload_n 0, 1) := by decide +kernel
theorem d_M_wordValue_78 : decode b_M_wordValue 78 = .ok (.iload 6, 2) := by decide +kernel
theorem d_M_wordValue_80 : decode b_M_wordValue 80 = .ok (.iload 7, 2) := by decide +kernel
theorem d_M_wordValue_82 : decode b_M_wordValue 82 = .ok (.iload_n 2, 1) := by decide +kernel
theorem d_M_wordValue_83 : decode b_M_wordValue 83 = .ok (.iload_n 3, 1) := by decide +kernel
theorem d_M_wordValue_84 : decode b_M_wordValue 84 = .ok (.invokevirtual 148, 3) := by decide +kernel
theorem d_M_wordValue_87 : decode b_M_wordValue 87 = .ok (.ifCond .eq 34, 3) := by decide +kernel
theorem d_M_wordValue_90 : decode b_M_wordValue 90 = .ok (.aload_n 0, 1) := by decide +kernel
theorem d_M_wordValue_91 : decode b_M_wordValue 91 = .ok (.getfield 49, 3) := by decide +kernel
theorem d_M_wordValue_94 : decode b_M_wordValue 94 = .ok (.bipush 17, 2) := by decide +kernel
theorem d_M_wordValue_96 : decode b_M_wordValue 96 = .ok (.iload 6, 2) := by decide +kernel
theorem d_M_wordValue_98 : decode b_M_wordValue 98 = .ok (.imul, 1) := by decide +kernel
theorem d_M_wordValue_99 : decode b_M_wordValue 99 = .ok (.iload 8, 2) := by decide +kernel
theorem d_M_wordValue_101 : decode b_M_wordValue 101 = .ok (.iadd, 1) := by decide +kernel
theorem d_M_wordValue_102 : decode b_M_wordValue 102 = .ok (.iaload, 1) := by decide +kernel
theorem d_M_wordValue_103 : decode b_M_wordValue 103 = .ok (.istore 9, 2) := by decide +kernel
theorem d_M_wordValue_105 : decode b_M_wordValue 105 = .ok (.iload 9, 2) := by decide +kernel
theorem d_M_wordValue_107 : decode b_M_wordValue 107 = .ok (.iload 5, 2) := by decide +kernel
theorem d_M_wordValue_109 : decode b_M_wordValue 109 = .ok (.if_icmp .le 8, 3) := by decide +kernel
theorem d_M_wordValue_112 : decode b_M_wordValue 112 = .ok (.iload 9, 2) := by decide +kernel
theorem d_M_wordValue_114 : decode b_M_wordValue 114 = .ok (.goto 5, 3) := by decide +kernel
theorem d_M_wordValue_117 : decode b_M_wordValue 117 = .ok (.iload 5, 2) := by decide +kernel
theorem d_M_wordValue_119 : decode b_M_wordValue 119 = .ok (.istore 5, 2) := by decide +kernel
theorem d_M_wordValue_121 : decode b_M_wordValue 121 = .ok (.iinc 7 1, 3) := by decide +kernel
theorem d_M_wordValue_124 : decode b_M_wordValue 124 = .ok (.goto (-76), 3) := by decide +kernel
theorem d_M_wordValue_127 : decode b_M_wordValue 127 = .ok (.iinc 6 1, 3) := by decide +kernel
theorem d_M_wordValue_130 : decode b_M_wordValue 130 = .ok (.goto (-96), 3) := by decide +kernel
theorem d_M_wordValue_133 : decode b_M_wordValue 133 = .ok (.iload 5, 2) := by decide +kernel
theorem d_M_wordValue_135 : decode b_M_wordValue 135 = .ok (.ireturn, 1) := by decide +kernel
def lay_M_wordValue (pc : Nat) : List Nat := if pc = 0 then [0, 1, 2, 3] else if pc = 34 then [0, 1, 2, 3, 5, 6] else if pc = 48 then [0, 1, 2, 3, 5, 6, 7] else if pc = 119 then [0, 1, 2, 3, 6, 7] else if pc = 121 then [0, 1, 2, 3, 5, 6, 7] else []
noncomputable def sg_M_wordValue_0 (v0 : Nat) (v1 : Int32) (v2 : Int32) (v3 : Int32) (w : hy_W) : Option hy_N := if hy_ob w v0 6 = true then hy_bi (f_M_exceptionFor [.ref v0, .int v2, .int v3] w) fun x3 w1 => if x3 < 0 then (some (.inl (34, [.ref v0, .int v1, .int v2, .int v3, .int 0, .int 0], w1))) else ((hy_gr w1 v0 6 23).bind fun r6 => (hy_ai w1 r6 (((41 * x3) + v1) - v2)).bind fun x7 => some (.inr (.inl (some (.int x7)), w1))) else none
noncomputable def sg_M_wordValue_34 (v0 : Nat) (v1 : Int32) (v2 : Int32) (v3 : Int32) (v5 : Int32) (v6 : Int32) (w : hy_W) : Option hy_N := (hy_gi w v0 6 14).bind fun x1 => if x1 ≤ v6 then (some (.inr (.inl (some (.int v5)), w))) else (some (.inl (48, [.ref v0, .int v1, .int v2, .int v3, .int v5, .int v6, .int (v2 - 1)], w)))
noncomputable def sg_M_wordValue_48 (v0 : Nat) (v1 : Int32) (v2 : Int32) (v3 : Int32) (v5 : Int32) (v6 : Int32) (v7 : Int32) (w : hy_W) : Option hy_N := if v3 < v7 then (some (.inl (34, [.ref v0, .int v1, .int v2, .int v3, .int v5, .int (v6 + 1)], w))) else (if (v1 - v7) < 0 then (some (.inl (121, [.ref v0, .int v1, .int v2, .int v3, .int v5, .int v6, .int v7], w))) else ((hy_gr w v0 6 16).bind fun r3 => (hy_ai w r3 v6).bind fun x4 => if x4 < (v1 - v7) then (some (.inl (121, [.ref v0, .int v1, .int v2, .int v3, .int v5, .int v6, .int v7], w))) else (if hy_ob w v0 6 = true then hy_bi (f_M_isAt [.ref v0, .int v6, .int v7, .int v2, .int v3] w) fun x8 w6 => if x8 = 0 then (some (.inl (121, [.ref v0, .int v1, .int v2, .int v3, .int v5, .int v6, .int v7], w6))) else ((hy_gr w6 v0 6 18).bind fun r11 => (hy_ai w6 r11 ((17 * v6) + (v1 - v7))).bind fun x12 => if x12 ≤ v5 then (some (.inl (119, [.ref v0, .int v1, .int v2, .int v3, .int v6, .int v7, .int v5], w6))) else (some (.inl (119, [.ref v0, .int v1, .int v2, .int v3, .int v6, .int v7, .int x12], w6)))) else none)))
noncomputable def sg_M_wordValue_119 (v0 : Nat) (v1 : Int32) (v2 : Int32) (v3 : Int32) (v6 : Int32) (v7 : Int32) (s0 : Int32) (w : hy_W) : Option hy_N := some (.inl (121, [.ref v0, .int v1, .int v2, .int v3, .int s0, .int v6, .int v7], w))
noncomputable def sg_M_wordValue_121 (v0 : Nat) (v1 : Int32) (v2 : Int32) (v3 : Int32) (v5 : Int32) (v6 : Int32) (v7 : Int32) (w : hy_W) : Option hy_N := some (.inl (48, [.ref v0, .int v1, .int v2, .int v3, .int v5, .int v6, .int (v7 + 1)], w))
noncomputable def nx_M_wordValue (q : hy_P) : Option hy_N := match q with
  | (0, [.ref v0, .int v1, .int v2, .int v3], w) => sg_M_wordValue_0 v0 v1 v2 v3 w
  | (34, [.ref v0, .int v1, .int v2, .int v3, .int v5, .int v6], w) => sg_M_wordValue_34 v0 v1 v2 v3 v5 v6 w
  | (48, [.ref v0, .int v1, .int v2, .int v3, .int v5, .int v6, .int v7], w) => sg_M_wordValue_48 v0 v1 v2 v3 v5 v6 v7 w
  | (119, [.ref v0, .int v1, .int v2, .int v3, .int v6, .int v7, .int s0], w) => sg_M_wordValue_119 v0 v1 v2 v3 v6 v7 s0 w
  | (121, [.ref v0, .int v1, .int v2, .int v3, .int v5, .int v6, .int v7], w) => sg_M_wordValue_121 v0 v1 v2 v3 v5 v6 v7 w
  | _ => none
noncomputable def f_M_wordValue (av : List Value) (w : hy_W) : Option hy_O := hy_fx nx_M_wordValue (0, av, w)
set_option maxHeartbeats 4000000 in
set_option maxRecDepth 100000 in
theorem sk_M_wordValue_0 {p : Program} {l : Launch} {e : Env} {s : State} {m : MethodId} {args : Array Value} {below : List Frame} {meth : Method} {c : Code} {G : hy_G} {A : Nat → Prop} {ad0 : Nat → Nat} {w0 : hy_W} {o : hy_O} (hl9 : l.flags = flags0) (hA : hy_A G ad0 w0 s.heap.size = A) (B : hy_B p l e (hy_rm 3 73 w0) s m args below meth c "HyphenPatternsModel" b_M_wordValue 10 (some .int) [] G A) (v0 : Nat) (v1 : Int32) (v2 : Int32) (v3 : Int32) (w : hy_W) (nx : hy_N) (h : sg_M_wordValue_0 v0 v1 v2 v3 w = some nx) (K : hy_Nx lay_M_wordValue p l e (hy_rm 3 73 w0) s m args below meth c 10 G A ad0 w0.1.length (hy_Q below G ad0 w0 o args s) o nx) : hy_At lay_M_wordValue p l e (hy_rm 3 73 w0) s m args below meth c 10 G A ad0 w0.1.length (hy_Q below G ad0 w0 o args s) (0, [.ref v0, .int v1, .int v2, .int v3], w) := by
  intro ad H locs cells slots ls S hok hl
  have hx := B.1
  have hb := B.2.1
  dsimp only at S hok
  have hl : lv_has ls 10 [(0, .ref (ad v0)), (1, .int v1), (2, .int v2), (3, .int v3)] := hl
  show W p l e (hy_rm 3 73 w0) s m args below meth c H locs cells slots (hy_Q below G ad0 w0 o args s) (F0 m 0 ls [])
  have hv_v0 : v0 < w.1.length := hok (.ref v0) (List.mem_of_getElem? (i := 0) rfl) v0 rfl
  obtain ⟨a_v0, ha_v0⟩ : ∃ a, ad v0 = a := ⟨_, rfl⟩
  rw [ha_v0] at hl
  unfold sg_M_wordValue_0 at h
  refine lv_aload_n hx hb d_M_wordValue_0 rfl (lv_at hl 0 rfl) ?_
  refine lv_iload_n hx hb d_M_wordValue_1 rfl (lv_at hl 2 rfl) ?_
  refine lv_iload_n hx hb d_M_wordValue_2 rfl (lv_at hl 3 rfl) ?_
  obtain ⟨ob4, h⟩ := hy_if h
  obtain ⟨fs_ob4, hf_ob4, hg_ob4⟩ := hy_ob_spec ob4
  obtain ⟨x3, w1, hq_w1, h⟩ := hy_bi_spec h
  refine hy_calli (hy_runV (rest := []) (As := [.int v2, .int v3]) (r := v0) (b := a_v0) B S rfl ha_v0 (by rfl) (c_M_exceptionFor hl9 G ad hq_w1) (hy_okr (by omega) (hy_oki (hy_oki hy_ok0))) tw_861 tw_9 tw_858 tw_860 sl_M_exceptionFor (by decide) rfl (Nat.le_of_ble_eq_true rfl) (Nat.le_of_ble_eq_true rfl) hf_ob4 hg_ob4 rfl hl.1 (Nat.le_of_ble_eq_true rfl) d_M_wordValue_3) (fun ad2 H locs cells slots hag hl_w1 S => ?_)
  have ha_v0 : ad2 v0 = a_v0 := (hag v0 (by omega)).trans ha_v0
  refine lv_istore (lv' := [(4, .int x3), (0, .ref a_v0), (1, .int v1), (2, .int v2), (3, .int v3)]) hx hb d_M_wordValue_6 hl (Nat.le_of_ble_eq_true rfl) rfl (fun ls hl => ?_)
  refine lv_iload hx hb d_M_wordValue_8 (lv_at hl 0 rfl) ?_
  refine lv_if_lt (tgt := 28) hx hb d_M_wordValue_10 (by decide) (fun c5 => ?_) (fun c5 => ?_)
  · rw [if_pos c5] at h
    refine lv_iconst (v := 0) hx hb d_M_wordValue_28 (by decide) ?_
    refine lv_istore (lv' := [(5, .int 0), (4, .int x3), (0, .ref a_v0), (1, .int v1), (2, .int v2), (3, .int v3)]) hx hb d_M_wordValue_29 hl (Nat.le_of_ble_eq_true rfl) rfl (fun ls hl => ?_)
    refine lv_iconst (v := 0) hx hb d_M_wordValue_31 (by decide) ?_
    refine lv_istore (lv' := [(6, .int 0), (5, .int 0), (4, .int x3), (0, .ref a_v0), (1, .int v1), (2, .int v2), (3, .int v3)]) hx hb d_M_wordValue_32 hl (Nat.le_of_ble_eq_true rfl) rfl (fun ls hl => ?_)
    cases h
    exact hy_jump K S (hy_okr (by omega) (hy_oki (hy_oki (hy_oki (hy_oki (hy_oki hy_ok0)))))) (lv_sub hl [3, 4, 5, 6, 1, 0] rfl) (by subst ha_v0; rfl) (by subst ha_v0; rfl)
  · rw [if_neg c5] at h
    refine lv_aload_n hx hb d_M_wordValue_13 rfl (lv_at hl 1 rfl) ?_
    obtain ⟨r6, hr6, h⟩ := hy_bd h
    refine hy_getr B S ha_v0 hr6 rfl (Nat.le_of_ble_eq_true rfl) i_6 (j := 23) tw_673 (fun _ h => h) d_M_wordValue_14 (fun a_r6 ha_r6 hv_r6 => ?_)
    refine lv_bipush (v := 41) hx hb d_M_wordValue_17 (by decide) ?_
    refine lv_iload hx hb d_M_wordValue_19 (lv_at hl 0 rfl) ?_
    refine lv_imul hx hb d_M_wordValue_21 ?_
    refine lv_iload_n hx hb d_M_wordValue_22 rfl (lv_at hl 2 rfl) ?_
    refine lv_iadd hx hb d_M_wordValue_23 ?_
    refine lv_iload_n hx hb d_M_wordValue_24 rfl (lv_at hl 3 rfl) ?_
    refine lv_isub hx hb d_M_wordValue_25 ?_
    obtain ⟨x7, hx7, h⟩ := hy_bd h
    refine hy_iald B S ha_r6 hx7 d_M_wordValue_26 ?_
    cases h
    cases K
    exact hy_iret hA B S d_M_wordValue_27
set_option maxHeartbeats 4000000 in
set_option maxRecDepth 100000 in
theorem sk_M_wordValue_34 {p : Program} {l : Launch} {e : Env} {s : State} {m : MethodId} {args : Array Value} {below : List Frame} {meth : Method} {c : Code} {G : hy_G} {A : Nat → Prop} {ad0 : Nat → Nat} {w0 : hy_W} {o : hy_O} (hl9 : l.flags = flags0) (hA : hy_A G ad0 w0 s.heap.size = A) (B : hy_B p l e (hy_rm 3 73 w0) s m args below meth c "HyphenPatternsModel" b_M_wordValue 10 (some .int) [] G A) (v0 : Nat) (v1 : Int32) (v2 : Int32) (v3 : Int32) (v5 : Int32) (v6 : Int32) (w : hy_W) (nx : hy_N) (h : sg_M_wordValue_34 v0 v1 v2 v3 v5 v6 w = some nx) (K : hy_Nx lay_M_wordValue p l e (hy_rm 3 73 w0) s m args below meth c 10 G A ad0 w0.1.length (hy_Q below G ad0 w0 o args s) o nx) : hy_At lay_M_wordValue p l e (hy_rm 3 73 w0) s m args below meth c 10 G A ad0 w0.1.length (hy_Q below G ad0 w0 o args s) (34, [.ref v0, .int v1, .int v2, .int v3, .int v5, .int v6], w) := by
  intro ad H locs cells slots ls S hok hl
  have hx := B.1
  have hb := B.2.1
  dsimp only at S hok
  have hl : lv_has ls 10 [(0, .ref (ad v0)), (1, .int v1), (2, .int v2), (3, .int v3), (5, .int v5), (6, .int v6)] := hl
  show W p l e (hy_rm 3 73 w0) s m args below meth c H locs cells slots (hy_Q below G ad0 w0 o args s) (F0 m 34 ls [])
  have hv_v0 : v0 < w.1.length := hok (.ref v0) (List.mem_of_getElem? (i := 0) rfl) v0 rfl
  obtain ⟨a_v0, ha_v0⟩ : ∃ a, ad v0 = a := ⟨_, rfl⟩
  rw [ha_v0] at hl
  unfold sg_M_wordValue_34 at h
  refine lv_iload hx hb d_M_wordValue_34 (lv_at hl 5 rfl) ?_
  refine lv_aload_n hx hb d_M_wordValue_36 rfl (lv_at hl 0 rfl) ?_
  obtain ⟨x1, hx1, h⟩ := hy_bd h
  refine hy_geti B S ha_v0 hx1 rfl (Nat.le_of_ble_eq_true rfl) i_6 (j := 14) tw_664 (fun _ h => h) d_M_wordValue_37 ?_
  refine lv_icmp_ge (tgt := 133) hx hb d_M_wordValue_40 (by decide) (fun c2 => ?_) (fun c2 => ?_)
  · rw [if_pos c2] at h
    refine lv_iload hx hb d_M_wordValue_133 (lv_at hl 4 rfl) ?_
    cases h
    cases K
    exact hy_iret hA B S d_M_wordValue_135
  · rw [if_neg c2] at h
    refine lv_iload_n hx hb d_M_wordValue_43 rfl (lv_at hl 2 rfl) ?_
    refine lv_iconst (v := 1) hx hb d_M_wordValue_44 (by decide) ?_
    refine lv_isub hx hb d_M_wordValue_45 ?_
    refine lv_istore (lv' := [(7, .int (v2 - 1)), (0, .ref a_v0), (1, .int v1), (2, .int v2), (3, .int v3), (5, .int v5), (6, .int v6)]) hx hb d_M_wordValue_46 hl (Nat.le_of_ble_eq_true rfl) rfl (fun ls hl => ?_)
    cases h
    exact hy_jump K S (hy_okr (by omega) (hy_oki (hy_oki (hy_oki (hy_oki (hy_oki (hy_oki hy_ok0))))))) (lv_sub hl [1, 2, 3, 4, 5, 6, 0] rfl) (by subst ha_v0; rfl) (by subst ha_v0; rfl)
set_option maxHeartbeats 4000000 in
set_option maxRecDepth 100000 in
theorem sk_M_wordValue_48 {p : Program} {l : Launch} {e : Env} {s : State} {m : MethodId} {args : Array Value} {below : List Frame} {meth : Method} {c : Code} {G : hy_G} {A : Nat → Prop} {ad0 : Nat → Nat} {w0 : hy_W} {o : hy_O} (hl9 : l.flags = flags0) (hA : hy_A G ad0 w0 s.heap.size = A) (B : hy_B p l e (hy_rm 3 73 w0) s m args below meth c "HyphenPatternsModel" b_M_wordValue 10 (some .int) [] G A) (v0 : Nat) (v1 : Int32) (v2 : Int32) (v3 : Int32) (v5 : Int32) (v6 : Int32) (v7 : Int32) (w : hy_W) (nx : hy_N) (h : sg_M_wordValue_48 v0 v1 v2 v3 v5 v6 v7 w = some nx) (K : hy_Nx lay_M_wordValue p l e (hy_rm 3 73 w0) s m args below meth c 10 G A ad0 w0.1.length (hy_Q below G ad0 w0 o args s) o nx) : hy_At lay_M_wordValue p l e (hy_rm 3 73 w0) s m args below meth c 10 G A ad0 w0.1.length (hy_Q below G ad0 w0 o args s) (48, [.ref v0, .int v1, .int v2, .int v3, .int v5, .int v6, .int v7], w) := by
  intro ad H locs cells slots ls S hok hl
  have hx := B.1
  have hb := B.2.1
  dsimp only at S hok
  have hl : lv_has ls 10 [(0, .ref (ad v0)), (1, .int v1), (2, .int v2), (3, .int v3), (5, .int v5), (6, .int v6), (7, .int v7)] := hl
  show W p l e (hy_rm 3 73 w0) s m args below meth c H locs cells slots (hy_Q below G ad0 w0 o args s) (F0 m 48 ls [])
  have hv_v0 : v0 < w.1.length := hok (.ref v0) (List.mem_of_getElem? (i := 0) rfl) v0 rfl
  obtain ⟨a_v0, ha_v0⟩ : ∃ a, ad v0 = a := ⟨_, rfl⟩
  rw [ha_v0] at hl
  unfold sg_M_wordValue_48 at h
  refine lv_iload hx hb d_M_wordValue_48 (lv_at hl 6 rfl) ?_
  refine lv_iload_n hx hb d_M_wordValue_50 rfl (lv_at hl 3 rfl) ?_
  refine lv_icmp_gt (tgt := 127) hx hb d_M_wordValue_51 (by decide) (fun c1 => ?_) (fun c1 => ?_)
  · rw [if_pos c1] at h
    refine lv_iinc (v := (v6 + 1)) (lv' := [(6, .int (v6 + 1)), (0, .ref a_v0), (1, .int v1), (2, .int v2), (3, .int v3), (5, .int v5), (7, .int v7)]) hx hb d_M_wordValue_127 hl (k := 5) rfl rfl (Nat.le_of_ble_eq_true rfl) rfl (fun ls hl => ?_)
    refine lv_goto (tgt := 34) hx hb d_M_wordValue_130 (by decide) ?_
    cases h
    exact hy_jump K S (hy_okr (by omega) (hy_oki (hy_oki (hy_oki (hy_oki (hy_oki hy_ok0)))))) (lv_sub hl [1, 2, 3, 4, 5, 0] rfl) (by subst ha_v0; rfl) (by subst ha_v0; rfl)
  · rw [if_neg c1] at h
    refine lv_iload_n hx hb d_M_wordValue_54 rfl (lv_at hl 1 rfl) ?_
    refine lv_iload hx hb d_M_wordValue_55 (lv_at hl 6 rfl) ?_
    refine lv_isub hx hb d_M_wordValue_57 ?_
    refine lv_istore (lv' := [(8, .int (v1 - v7)), (0, .ref a_v0), (1, .int v1), (2, .int v2), (3, .int v3), (5, .int v5), (6, .int v6), (7, .int v7)]) hx hb d_M_wordValue_58 hl (Nat.le_of_ble_eq_true rfl) rfl (fun ls hl => ?_)
    refine lv_iload hx hb d_M_wordValue_60 (lv_at hl 0 rfl) ?_
    refine lv_if_lt (tgt := 121) hx hb d_M_wordValue_62 (by decide) (fun c2 => ?_) (fun c2 => ?_)
    · rw [if_pos c2] at h
      cases h
      exact hy_jump K S (hy_okr (by omega) (hy_oki (hy_oki (hy_oki (hy_oki (hy_oki (hy_oki hy_ok0))))))) (lv_sub hl [1, 2, 3, 4, 5, 6, 7] rfl) (by subst ha_v0; rfl) (by subst ha_v0; rfl)
    · rw [if_neg c2] at h
      refine lv_iload hx hb d_M_wordValue_65 (lv_at hl 0 rfl) ?_
      refine lv_aload_n hx hb d_M_wordValue_67 rfl (lv_at hl 1 rfl) ?_
      obtain ⟨r3, hr3, h⟩ := hy_bd h
      refine hy_getr B S ha_v0 hr3 rfl (Nat.le_of_ble_eq_true rfl) i_6 (j := 16) tw_666 (fun _ h => h) d_M_wordValue_68 (fun a_r3 ha_r3 hv_r3 => ?_)
      refine lv_iload hx hb d_M_wordValue_71 (lv_at hl 6 rfl) ?_
      obtain ⟨x4, hx4, h⟩ := hy_bd h
      refine hy_iald B S ha_r3 hx4 d_M_wordValue_73 ?_
      refine lv_icmp_gt (tgt := 121) hx hb d_M_wordValue_74 (by decide) (fun c5 => ?_) (fun c5 => ?_)
      · rw [if_pos c5] at h
        cases h
        exact hy_jump K S (hy_okr (by omega) (hy_oki (hy_oki (hy_oki (hy_oki (hy_oki (hy_oki hy_ok0))))))) (lv_sub hl [1, 2, 3, 4, 5, 6, 7] rfl) (by subst ha_v0; rfl) (by subst ha_v0; rfl)
      · rw [if_neg c5] at h
        refine lv_aload_n hx hb d_M_wordValue_77 rfl (lv_at hl 1 rfl) ?_
        refine lv_iload hx hb d_M_wordValue_78 (lv_at hl 6 rfl) ?_
        refine lv_iload hx hb d_M_wordValue_80 (lv_at hl 7 rfl) ?_
        refine lv_iload_n hx hb d_M_wordValue_82 rfl (lv_at hl 3 rfl) ?_
        refine lv_iload_n hx hb d_M_wordValue_83 rfl (lv_at hl 4 rfl) ?_
        obtain ⟨ob9, h⟩ := hy_if h
        obtain ⟨fs_ob9, hf_ob9, hg_ob9⟩ := hy_ob_spec ob9
        obtain ⟨x8, w6, hq_w6, h⟩ := hy_bi_spec h
        refine hy_calli (hy_runV (rest := []) (As := [.int v6, .int v7, .int v2, .int v3]) (r := v0) (b := a_v0) B S rfl ha_v0 (by rfl) (c_M_isAt hl9 G ad hq_w6) (hy_okr (by omega) (hy_oki (hy_oki (hy_oki (hy_oki hy_ok0))))) tw_869 tw_9 tw_866 tw_868 sl_M_isAt (by decide) rfl (Nat.le_of_ble_eq_true rfl) (Nat.le_of_ble_eq_true rfl) hf_ob9 hg_ob9 rfl hl.1 (Nat.le_of_ble_eq_true rfl) d_M_wordValue_84) (fun ad7 H locs cells slots hag hl_w6 S => ?_)
        have ha_v0 : ad7 v0 = a_v0 := (hag v0 (by omega)).trans ha_v0
        refine lv_if_eq (tgt := 121) hx hb d_M_wordValue_87 (by decide) (fun c10 => ?_) (fun c10 => ?_)
        · rw [if_pos c10] at h
          cases h
          exact hy_jump K S (hy_okr (by omega) (hy_oki (hy_oki (hy_oki (hy_oki (hy_oki (hy_oki hy_ok0))))))) (lv_sub hl [1, 2, 3, 4, 5, 6, 7] rfl) (by subst ha_v0; rfl) (by subst ha_v0; rfl)
        · rw [if_neg c10] at h
          refine lv_aload_n hx hb d_M_wordValue_90 rfl (lv_at hl 1 rfl) ?_
          obtain ⟨r11, hr11, h⟩ := hy_bd h
          refine hy_getr B S ha_v0 hr11 rfl (Nat.le_of_ble_eq_true rfl) i_6 (j := 18) tw_668 (fun _ h => h) d_M_wordValue_91 (fun a_r11 ha_r11 hv_r11 => ?_)
          refine lv_bipush (v := 17) hx hb d_M_wordValue_94 (by decide) ?_
          refine lv_iload hx hb d_M_wordValue_96 (lv_at hl 6 rfl) ?_
          refine lv_imul hx hb d_M_wordValue_98 ?_
          refine lv_iload hx hb d_M_wordValue_99 (lv_at hl 0 rfl) ?_
          refine lv_iadd hx hb d_M_wordValue_101 ?_
          obtain ⟨x12, hx12, h⟩ := hy_bd h
          refine hy_iald B S ha_r11 hx12 d_M_wordValue_102 ?_
          refine lv_istore (lv' := [(9, .int x12), (8, .int (v1 - v7)), (0, .ref a_v0), (1, .int v1), (2, .int v2), (3, .int v3), (5, .int v5), (6, .int v6), (7, .int v7)]) hx hb d_M_wordValue_103 hl (Nat.le_of_ble_eq_true rfl) rfl (fun ls hl => ?_)
          refine lv_iload hx hb d_M_wordValue_105 (lv_at hl 0 rfl) ?_
          refine lv_iload hx hb d_M_wordValue_107 (lv_at hl 6 rfl) ?_
          refine lv_icmp_le (tgt := 117) hx hb d_M_wordValue_109 (by decide) (fun c13 => ?_) (fun c13 => ?_)
          · rw [if_pos c13] at h
            refine lv_iload hx hb d_M_wordValue_117 (lv_at hl 6 rfl) ?_
            cases h
            exact hy_jump K S (hy_okr (by omega) (hy_oki (hy_oki (hy_oki (hy_oki (hy_oki (hy_oki hy_ok0))))))) (lv_sub hl [2, 3, 4, 5, 7, 8] rfl) (by subst ha_v0; rfl) (by subst ha_v0; rfl)
          · rw [if_neg c13] at h
            refine lv_iload hx hb d_M_wordValue_112 (lv_at hl 0 rfl) ?_
            refine lv_goto (tgt := 119) hx hb d_M_wordValue_114 (by decide) ?_
            cases h
            exact hy_jump K S (hy_okr (by omega) (hy_oki (hy_oki (hy_oki (hy_oki (hy_oki (hy_oki hy_ok0))))))) (lv_sub hl [2, 3, 4, 5, 7, 8] rfl) (by subst ha_v0; rfl) (by subst ha_v0; rfl)
set_option maxHeartbeats 4000000 in
set_option maxRecDepth 100000 in
theorem sk_M_wordValue_119 {p : Program} {l : Launch} {e : Env} {s : State} {m : MethodId} {args : Array Value} {below : List Frame} {meth : Method} {c : Code} {G : hy_G} {A : Nat → Prop} {ad0 : Nat → Nat} {w0 : hy_W} {o : hy_O} (hl9 : l.flags = flags0) (hA : hy_A G ad0 w0 s.heap.size = A) (B : hy_B p l e (hy_rm 3 73 w0) s m args below meth c "HyphenPatternsModel" b_M_wordValue 10 (some .int) [] G A) (v0 : Nat) (v1 : Int32) (v2 : Int32) (v3 : Int32) (v6 : Int32) (v7 : Int32) (s0 : Int32) (w : hy_W) (nx : hy_N) (h : sg_M_wordValue_119 v0 v1 v2 v3 v6 v7 s0 w = some nx) (K : hy_Nx lay_M_wordValue p l e (hy_rm 3 73 w0) s m args below meth c 10 G A ad0 w0.1.length (hy_Q below G ad0 w0 o args s) o nx) : hy_At lay_M_wordValue p l e (hy_rm 3 73 w0) s m args below meth c 10 G A ad0 w0.1.length (hy_Q below G ad0 w0 o args s) (119, [.ref v0, .int v1, .int v2, .int v3, .int v6, .int v7, .int s0], w) := by
  intro ad H locs cells slots ls S hok hl
  have hx := B.1
  have hb := B.2.1
  dsimp only at S hok
  have hl : lv_has ls 10 [(0, .ref (ad v0)), (1, .int v1), (2, .int v2), (3, .int v3), (6, .int v6), (7, .int v7)] := hl
  show W p l e (hy_rm 3 73 w0) s m args below meth c H locs cells slots (hy_Q below G ad0 w0 o args s) (F0 m 119 ls [.int s0])
  have hv_v0 : v0 < w.1.length := hok (.ref v0) (List.mem_of_getElem? (i := 0) rfl) v0 rfl
  obtain ⟨a_v0, ha_v0⟩ : ∃ a, ad v0 = a := ⟨_, rfl⟩
  rw [ha_v0] at hl
  unfold sg_M_wordValue_119 at h
  refine lv_istore (lv' := [(5, .int s0), (0, .ref a_v0), (1, .int v1), (2, .int v2), (3, .int v3), (6, .int v6), (7, .int v7)]) hx hb d_M_wordValue_119 hl (Nat.le_of_ble_eq_true rfl) rfl (fun ls hl => ?_)
  cases h
  exact hy_jump K S (hy_okr (by omega) (hy_oki (hy_oki (hy_oki (hy_oki (hy_oki (hy_oki hy_ok0))))))) (lv_sub hl [1, 2, 3, 4, 0, 5, 6] rfl) (by subst ha_v0; rfl) (by subst ha_v0; rfl)
set_option maxHeartbeats 4000000 in
set_option maxRecDepth 100000 in
theorem sk_M_wordValue_121 {p : Program} {l : Launch} {e : Env} {s : State} {m : MethodId} {args : Array Value} {below : List Frame} {meth : Method} {c : Code} {G : hy_G} {A : Nat → Prop} {ad0 : Nat → Nat} {w0 : hy_W} {o : hy_O} (hl9 : l.flags = flags0) (hA : hy_A G ad0 w0 s.heap.size = A) (B : hy_B p l e (hy_rm 3 73 w0) s m args below meth c "HyphenPatternsModel" b_M_wordValue 10 (some .int) [] G A) (v0 : Nat) (v1 : Int32) (v2 : Int32) (v3 : Int32) (v5 : Int32) (v6 : Int32) (v7 : Int32) (w : hy_W) (nx : hy_N) (h : sg_M_wordValue_121 v0 v1 v2 v3 v5 v6 v7 w = some nx) (K : hy_Nx lay_M_wordValue p l e (hy_rm 3 73 w0) s m args below meth c 10 G A ad0 w0.1.length (hy_Q below G ad0 w0 o args s) o nx) : hy_At lay_M_wordValue p l e (hy_rm 3 73 w0) s m args below meth c 10 G A ad0 w0.1.length (hy_Q below G ad0 w0 o args s) (121, [.ref v0, .int v1, .int v2, .int v3, .int v5, .int v6, .int v7], w) := by
  intro ad H locs cells slots ls S hok hl
  have hx := B.1
  have hb := B.2.1
  dsimp only at S hok
  have hl : lv_has ls 10 [(0, .ref (ad v0)), (1, .int v1), (2, .int v2), (3, .int v3), (5, .int v5), (6, .int v6), (7, .int v7)] := hl
  show W p l e (hy_rm 3 73 w0) s m args below meth c H locs cells slots (hy_Q below G ad0 w0 o args s) (F0 m 121 ls [])
  have hv_v0 : v0 < w.1.length := hok (.ref v0) (List.mem_of_getElem? (i := 0) rfl) v0 rfl
  obtain ⟨a_v0, ha_v0⟩ : ∃ a, ad v0 = a := ⟨_, rfl⟩
  rw [ha_v0] at hl
  unfold sg_M_wordValue_121 at h
  refine lv_iinc (v := (v7 + 1)) (lv' := [(7, .int (v7 + 1)), (0, .ref a_v0), (1, .int v1), (2, .int v2), (3, .int v3), (5, .int v5), (6, .int v6)]) hx hb d_M_wordValue_121 hl (k := 6) rfl rfl (Nat.le_of_ble_eq_true rfl) rfl (fun ls hl => ?_)
  refine lv_goto (tgt := 48) hx hb d_M_wordValue_124 (by decide) ?_
  cases h
  exact hy_jump K S (hy_okr (by omega) (hy_oki (hy_oki (hy_oki (hy_oki (hy_oki (hy_oki hy_ok0))))))) (lv_sub hl [1, 2, 3, 4, 5, 6, 0] rfl) (by subst ha_v0; rfl) (by subst ha_v0; rfl)
theorem nk_M_wordValue {p : Program} {l : Launch} {e : Env} {s : State} {m : MethodId} {args : Array Value} {below : List Frame} {meth : Method} {c : Code} {G : hy_G} {A : Nat → Prop} {ad0 : Nat → Nat} {w0 : hy_W} {o : hy_O} (hl9 : l.flags = flags0) (hA : hy_A G ad0 w0 s.heap.size = A) (B : hy_B p l e (hy_rm 3 73 w0) s m args below meth c "HyphenPatternsModel" b_M_wordValue 10 (some .int) [] G A) (q : hy_P) (nx : hy_N) (hq : nx_M_wordValue q = some nx) (K : hy_Nx lay_M_wordValue p l e (hy_rm 3 73 w0) s m args below meth c 10 G A ad0 w0.1.length (hy_Q below G ad0 w0 o args s) o nx) : hy_At lay_M_wordValue p l e (hy_rm 3 73 w0) s m args below meth c 10 G A ad0 w0.1.length (hy_Q below G ad0 w0 o args s) q := by
  unfold nx_M_wordValue at hq
  split at hq
  · exact sk_M_wordValue_0 hl9 hA B _ _ _ _ _ nx hq K
  · exact sk_M_wordValue_34 hl9 hA B _ _ _ _ _ _ _ nx hq K
  · exact sk_M_wordValue_48 hl9 hA B _ _ _ _ _ _ _ _ nx hq K
  · exact sk_M_wordValue_119 hl9 hA B _ _ _ _ _ _ _ _ nx hq K
  · exact sk_M_wordValue_121 hl9 hA B _ _ _ _ _ _ _ _ nx hq K
  · cases hq
theorem c_M_wordValue {l : Launch} (hl9 : l.flags = flags0) (G : hy_G) (ad : Nat → Nat) {v0 : Nat} {v1 : Int32} {v2 : Int32} {v3 : Int32} {w : hy_W} {o : hy_O} (h : f_M_wordValue [.ref v0, .int v1, .int v2, .int v3] w = some o) : hy_M l y_M_wordValue (Cond.code y_M_wordValue b_M_wordValue 10 (some .int) :: hy_T) 3 73 G ad [.ref v0, .int v1, .int v2, .int v3] w o := by
  obtain ⟨n, hn⟩ := hy_fx_iff.mp h
  refine hy_ofW hl9 (by decide +kernel) (Nat.le_of_ble_eq_true rfl) (fun p e s m args below meth c A hA hi B S hok ls hl => ?_)
  exact hy_loop (nk_M_wordValue hl9 hA B) n _ hn ad s.heap [] 0 0 ls S hok hl
theorem d_M_valueOf_0 : decode b_M_valueOf 0 = .ok (.aload_n 0, 1) := by decide +kernel
theorem d_M_valueOf_1 : decode b_M_valueOf 1 = .ok (.iload_n 1, 1) := by decide +kernel
theorem d_M_valueOf_2 : decode b_M_valueOf 2 = .ok (.invokevirtual 152, 3) := by decide +kernel
theorem d_M_valueOf_5 : decode b_M_valueOf 5 = .ok (.ifCond .eq 21, 3) := by decide +kernel
theorem d_M_valueOf_8 : decode b_M_valueOf 8 = .ok (.aload_n 0, 1) := by decide +kernel
theorem d_M_valueOf_9 : decode b_M_valueOf 9 = .ok (.iload_n 1, 1) := by decide +kernel
theorem d_M_valueOf_10 : decode b_M_valueOf 10 = .ok (.aload_n 0, 1) := by decide +kernel
theorem d_M_valueOf_11 : decode b_M_valueOf 11 = .ok (.iload_n 1, 1) := by decide +kernel
theorem d_M_valueOf_12 : decode b_M_valueOf 12 = .ok (.invokevirtual 155, 3) := by decide +kernel
theorem d_M_valueOf_15 : decode b_M_valueOf 15 = .ok (.aload_n 0, 1) := by decide +kernel
theorem d_M_valueOf_16 : decode b_M_valueOf 16 = .ok (.iload_n 1, 1) := by decide +kernel
theorem d_M_valueOf_17 : decode b_M_valueOf 17 = .ok (.invokevirtual 158, 3) := by decide +kernel
theorem d_M_valueOf_20 : decode b_M_valueOf 20 = .ok (.invokevirtual 161, 3) := by decide +kernel
theorem d_M_valueOf_23 : decode b_M_valueOf 23 = .ok (.goto 4, 3) := by decide +kernel
theorem d_M_valueOf_26 : decode b_M_valueOf 26 = .ok (.iconst 0, 1) := by decide +kernel
theorem d_M_valueOf_27 : decode b_M_valueOf 27 = .ok (.ireturn, 1) := by decide +kernel
def lay_M_valueOf (pc : Nat) : List Nat := if pc = 0 then [0, 1] else []
noncomputable def sg_M_valueOf_0 (v0 : Nat) (v1 : Int32) (w : hy_W) : Option hy_N := if hy_ob w v0 6 = true then hy_bi (f_M_isWithin [.ref v0, .int v1] w) fun x3 w1 => if x3 = 0 then (some (.inr (.inl (some (.int 0)), w1))) else (if hy_ob w1 v0 6 = true then hy_bi (f_M_begin [.ref v0, .int v1] w1) fun x8 w6 => if hy_ob w6 v0 6 = true then hy_bi (f_M_end [.ref v0, .int v1] w6) fun x12 w10 => if hy_ob w10 v0 6 = true then hy_bi (f_M_wordValue [.ref v0, .int v1, .int x8, .int x12] w10) fun x16 w14 => some (.inr (.inl (some (.int x16)), w14)) else none else none else none) else none
noncomputable def nx_M_valueOf (q : hy_P) : Option hy_N := match q with
  | (0, [.ref v0, .int v1], w) => sg_M_valueOf_0 v0 v1 w
  | _ => none
noncomputable def f_M_valueOf (av : List Value) (w : hy_W) : Option hy_O := hy_fx nx_M_valueOf (0, av, w)
set_option maxHeartbeats 4000000 in
set_option maxRecDepth 100000 in
theorem sk_M_valueOf_0 {p : Program} {l : Launch} {e : Env} {s : State} {m : MethodId} {args : Array Value} {below : List Frame} {meth : Method} {c : Code} {G : hy_G} {A : Nat → Prop} {ad0 : Nat → Nat} {w0 : hy_W} {o : hy_O} (hl9 : l.flags = flags0) (hA : hy_A G ad0 w0 s.heap.size = A) (B : hy_B p l e (hy_rm 4 102 w0) s m args below meth c "HyphenPatternsModel" b_M_valueOf 2 (some .int) [] G A) (v0 : Nat) (v1 : Int32) (w : hy_W) (nx : hy_N) (h : sg_M_valueOf_0 v0 v1 w = some nx) (K : hy_Nx lay_M_valueOf p l e (hy_rm 4 102 w0) s m args below meth c 2 G A ad0 w0.1.length (hy_Q below G ad0 w0 o args s) o nx) : hy_At lay_M_valueOf p l e (hy_rm 4 102 w0) s m args below meth c 2 G A ad0 w0.1.length (hy_Q below G ad0 w0 o args s) (0, [.ref v0, .int v1], w) := by
  intro ad H locs cells slots ls S hok hl
  have hx := B.1
  have hb := B.2.1
  dsimp only at S hok
  have hl : lv_has ls 2 [(0, .ref (ad v0)), (1, .int v1)] := hl
  show W p l e (hy_rm 4 102 w0) s m args below meth c H locs cells slots (hy_Q below G ad0 w0 o args s) (F0 m 0 ls [])
  have hv_v0 : v0 < w.1.length := hok (.ref v0) (List.mem_of_getElem? (i := 0) rfl) v0 rfl
  obtain ⟨a_v0, ha_v0⟩ : ∃ a, ad v0 = a := ⟨_, rfl⟩
  rw [ha_v0] at hl
  unfold sg_M_valueOf_0 at h
  refine lv_aload_n hx hb d_M_valueOf_0 rfl (lv_at hl 0 rfl) ?_
  refine lv_iload_n hx hb d_M_valueOf_1 rfl (lv_at hl 1 rfl) ?_
  obtain ⟨ob4, h⟩ := hy_if h
  obtain ⟨fs_ob4, hf_ob4, hg_ob4⟩ := hy_ob_spec ob4
  obtain ⟨x3, w1, hq_w1, h⟩ := hy_bi_spec h
  refine hy_calli (hy_runV (rest := []) (As := [.int v1]) (r := v0) (b := a_v0) B S rfl ha_v0 (by rfl) (c_M_isWithin hl9 G ad hq_w1) (hy_okr (by omega) (hy_oki hy_ok0)) tw_837 tw_9 tw_834 tw_836 sl_M_isWithin (by decide) rfl (Nat.le_of_ble_eq_true rfl) (Nat.le_of_ble_eq_true rfl) hf_ob4 hg_ob4 rfl hl.1 (Nat.le_of_ble_eq_true rfl) d_M_valueOf_2) (fun ad2 H locs cells slots hag hl_w1 S => ?_)
  have ha_v0 : ad2 v0 = a_v0 := (hag v0 (by omega)).trans ha_v0
  refine lv_if_eq (tgt := 26) hx hb d_M_valueOf_5 (by decide) (fun c5 => ?_) (fun c5 => ?_)
  · rw [if_pos c5] at h
    refine lv_iconst (v := 0) hx hb d_M_valueOf_26 (by decide) ?_
    cases h
    cases K
    exact hy_iret hA B S d_M_valueOf_27
  · rw [if_neg c5] at h
    refine lv_aload_n hx hb d_M_valueOf_8 rfl (lv_at hl 0 rfl) ?_
    refine lv_iload_n hx hb d_M_valueOf_9 rfl (lv_at hl 1 rfl) ?_
    refine lv_aload_n hx hb d_M_valueOf_10 rfl (lv_at hl 0 rfl) ?_
    refine lv_iload_n hx hb d_M_valueOf_11 rfl (lv_at hl 1 rfl) ?_
    obtain ⟨ob9, h⟩ := hy_if h
    obtain ⟨fs_ob9, hf_ob9, hg_ob9⟩ := hy_ob_spec ob9
    obtain ⟨x8, w6, hq_w6, h⟩ := hy_bi_spec h
    refine hy_calli (hy_runV (rest := [.int v1, .ref a_v0]) (As := [.int v1]) (r := v0) (b := a_v0) B S rfl ha_v0 (by rfl) (c_M_begin hl9 G ad2 hq_w6) (hy_okr (by omega) (hy_oki hy_ok0)) tw_849 tw_9 tw_846 tw_848 sl_M_begin (by decide) rfl (Nat.le_of_ble_eq_true rfl) (Nat.le_of_ble_eq_true rfl) hf_ob9 hg_ob9 rfl hl.1 (Nat.le_of_ble_eq_true rfl) d_M_valueOf_12) (fun ad7 H locs cells slots hag hl_w6 S => ?_)
    have ha_v0 : ad7 v0 = a_v0 := (hag v0 (by omega)).trans ha_v0
    refine lv_aload_n hx hb d_M_valueOf_15 rfl (lv_at hl 0 rfl) ?_
    refine lv_iload_n hx hb d_M_valueOf_16 rfl (lv_at hl 1 rfl) ?_
    obtain ⟨ob13, h⟩ := hy_if h
    obtain ⟨fs_ob13, hf_ob13, hg_ob13⟩ := hy_ob_spec ob13
    obtain ⟨x12, w10, hq_w10, h⟩ := hy_bi_spec h
    refine hy_calli (hy_runV (rest := [.int x8, .int v1, .ref a_v0]) (As := [.int v1]) (r := v0) (b := a_v0) B S rfl ha_v0 (by rfl) (c_M_end hl9 G ad7 hq_w10) (hy_okr (by omega) (hy_oki hy_ok0)) tw_853 tw_9 tw_850 tw_852 sl_M_end (by decide) rfl (Nat.le_of_ble_eq_true rfl) (Nat.le_of_ble_eq_true rfl) hf_ob13 hg_ob13 rfl hl.1 (Nat.le_of_ble_eq_true rfl) d_M_valueOf_17) (fun ad11 H locs cells slots hag hl_w10 S => ?_)
    have ha_v0 : ad11 v0 = a_v0 := (hag v0 (by omega)).trans ha_v0
    obtain ⟨ob17, h⟩ := hy_if h
    obtain ⟨fs_ob17, hf_ob17, hg_ob17⟩ := hy_ob_spec ob17
    obtain ⟨x16, w14, hq_w14, h⟩ := hy_bi_spec h
    refine hy_calli (hy_runV (rest := []) (As := [.int v1, .int x8, .int x12]) (r := v0) (b := a_v0) B S rfl ha_v0 (by rfl) (c_M_wordValue hl9 G ad11 hq_w14) (hy_okr (by omega) (hy_oki (hy_oki (hy_oki hy_ok0)))) tw_857 tw_9 tw_854 tw_856 sl_M_wordValue (by decide) rfl (Nat.le_of_ble_eq_true rfl) (Nat.le_of_ble_eq_true rfl) hf_ob17 hg_ob17 rfl hl.1 (Nat.le_of_ble_eq_true rfl) d_M_valueOf_20) (fun ad15 H locs cells slots hag hl_w14 S => ?_)
    have ha_v0 : ad15 v0 = a_v0 := (hag v0 (by omega)).trans ha_v0
    refine lv_goto (tgt := 27) hx hb d_M_valueOf_23 (by decide) ?_
    cases h
    cases K
    exact hy_iret hA B S d_M_valueOf_27
theorem nk_M_valueOf {p : Program} {l : Launch} {e : Env} {s : State} {m : MethodId} {args : Array Value} {below : List Frame} {meth : Method} {c : Code} {G : hy_G} {A : Nat → Prop} {ad0 : Nat → Nat} {w0 : hy_W} {o : hy_O} (hl9 : l.flags = flags0) (hA : hy_A G ad0 w0 s.heap.size = A) (B : hy_B p l e (hy_rm 4 102 w0) s m args below meth c "HyphenPatternsModel" b_M_valueOf 2 (some .int) [] G A) (q : hy_P) (nx : hy_N) (hq : nx_M_valueOf q = some nx) (K : hy_Nx lay_M_valueOf p l e (hy_rm 4 102 w0) s m args below meth c 2 G A ad0 w0.1.length (hy_Q below G ad0 w0 o args s) o nx) : hy_At lay_M_valueOf p l e (hy_rm 4 102 w0) s m args below meth c 2 G A ad0 w0.1.length (hy_Q below G ad0 w0 o args s) q := by
  unfold nx_M_valueOf at hq
  split at hq
  · exact sk_M_valueOf_0 hl9 hA B _ _ _ nx hq K
  · cases hq
theorem c_M_valueOf {l : Launch} (hl9 : l.flags = flags0) (G : hy_G) (ad : Nat → Nat) {v0 : Nat} {v1 : Int32} {w : hy_W} {o : hy_O} (h : f_M_valueOf [.ref v0, .int v1] w = some o) : hy_M l y_M_valueOf (Cond.code y_M_valueOf b_M_valueOf 2 (some .int) :: hy_T) 4 102 G ad [.ref v0, .int v1] w o := by
  obtain ⟨n, hn⟩ := hy_fx_iff.mp h
  refine hy_ofW hl9 (by decide +kernel) (Nat.le_of_ble_eq_true rfl) (fun p e s m args below meth c A hA hi B S hok ls hl => ?_)
  exact hy_loop (nk_M_valueOf hl9 hA B) n _ hn ad s.heap [] 0 0 ls S hok hl
