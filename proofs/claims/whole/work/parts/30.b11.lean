/-! BODIES (printed by our translator): M_isException, M_findException, M_exception, M_movePattern -/
theorem d_M_isException_0 : decode b_M_isException 0 = .ok (.aload_n 0, 1) := by decide +kernel
theorem d_M_isException_1 : decode b_M_isException 1 = .ok (.invokevirtual 102, 3) := by decide +kernel
theorem d_M_isException_4 : decode b_M_isException 4 = .ok (.istore_n 1, 1) := by decide +kernel
theorem d_M_isException_5 : decode b_M_isException 5 = .ok (.iconst 0, 1) := by decide +kernel
theorem d_M_isException_6 : decode b_M_isException 6 = .ok (.istore_n 2, 1) := by decide +kernel
theorem d_M_isException_7 : decode b_M_isException 7 = .ok (.iload_n 2, 1) := by decide +kernel
theorem d_M_isException_8 : decode b_M_isException 8 = .ok (.aload_n 0, 1) := by decide +kernel
theorem d_M_isException_9 : decode b_M_isException 9 = .ok (.getfield 99, 3) := by decide +kernel
theorem d_M_isException_12 : decode b_M_isException 12 = .ok (.if_icmp .ge 28, 3) := by decide +kernel
theorem d_M_isException_15 : decode b_M_isException 15 = .ok (.iload_n 1, 1) := by decide +kernel
theorem d_M_isException_16 : decode b_M_isException 16 = .ok (.ifCond .eq 16, 3) := by decide +kernel
theorem d_M_isException_19 : decode b_M_isException 19 = .ok (.aload_n 0, 1) := by decide +kernel
theorem d_M_isException_20 : decode b_M_isException 20 = .ok (.getfield 34, 3) := by decide +kernel
theorem d_M_isException_23 : decode b_M_isException 23 = .ok (.iload_n 2, 1) := by decide +kernel
theorem d_M_isException_24 : decode b_M_isException 24 = .ok (.iaload, 1) := by decide +kernel
theorem d_M_isException_25 : decode b_M_isException 25 = .ok (.ifCond .eq 7, 3) := by decide +kernel
theorem d_M_isException_28 : decode b_M_isException 28 = .ok (.iconst 1, 1) := by decide +kernel
theorem d_M_isException_29 : decode b_M_isException 29 = .ok (.goto 4, 3) := by decide +kernel
theorem d_M_isException_32 : decode b_M_isException 32 = .ok (.iconst 0, 1) := by decide +kernel
theorem d_M_isException_33 : decode b_M_isException 33 = .ok (.istore_n 1, 1) := by decide +kernel
theorem d_M_isException_34 : decode b_M_isException 34 = .ok (.iinc 2 1, 3) := by decide +kernel
theorem d_M_isException_37 : decode b_M_isException 37 = .ok (.goto (-30), 3) := by decide +kernel
theorem d_M_isException_40 : decode b_M_isException 40 = .ok (.iconst 0, 1) := by decide +kernel
theorem d_M_isException_41 : decode b_M_isException 41 = .ok (.istore_n 2, 1) := by decide +kernel
theorem d_M_isException_42 : decode b_M_isException 42 = .ok (.iload_n 2, 1) := by decide +kernel
theorem d_M_isException_43 : decode b_M_isException 43 = .ok (.aload_n 0, 1) := by decide +kernel
theorem d_M_isException_44 : decode b_M_isException 44 = .ok (.getfield 99, 3) := by decide +kernel
theorem d_M_isException_47 : decode b_M_isException 47 = .ok (.if_icmp .gt 39, 3) := by decide +kernel
theorem d_M_isException_50 : decode b_M_isException 50 = .ok (.iload_n 1, 1) := by decide +kernel
theorem d_M_isException_51 : decode b_M_isException 51 = .ok (.ifCond .eq 27, 3) := by decide +kernel
theorem d_M_isException_54 : decode b_M_isException 54 = .ok (.aload_n 0, 1) := by decide +kernel
theorem d_M_isException_55 : decode b_M_isException 55 = .ok (.getfield 37, 3) := by decide +kernel
theorem d_M_isException_58 : decode b_M_isException 58 = .ok (.iload_n 2, 1) := by decide +kernel
theorem d_M_isException_59 : decode b_M_isException 59 = .ok (.iaload, 1) := by decide +kernel
theorem d_M_isException_60 : decode b_M_isException 60 = .ok (.ifCond .eq 14, 3) := by decide +kernel
theorem d_M_isException_63 : decode b_M_isException 63 = .ok (.aload_n 0, 1) := by decide +kernel
theorem d_M_isException_64 : decode b_M_isException 64 = .ok (.getfield 37, 3) := by decide +kernel
theorem d_M_isException_67 : decode b_M_isException 67 = .ok (.iload_n 2, 1) := by decide +kernel
theorem d_M_isException_68 : decode b_M_isException 68 = .ok (.iaload, 1) := by decide +kernel
theorem d_M_isException_69 : decode b_M_isException 69 = .ok (.bipush 10, 2) := by decide +kernel
theorem d_M_isException_71 : decode b_M_isException 71 = .ok (.if_icmp .ne 7, 3) := by decide +kernel
theorem d_M_isException_74 : decode b_M_isException 74 = .ok (.iconst 1, 1) := by decide +kernel
theorem d_M_isException_75 : decode b_M_isException 75 = .ok (.goto 4, 3) := by decide +kernel
theorem d_M_isException_78 : decode b_M_isException 78 = .ok (.iconst 0, 1) := by decide +kernel
theorem d_M_isException_79 : decode b_M_isException 79 = .ok (.istore_n 1, 1) := by decide +kernel
theorem d_M_isException_80 : decode b_M_isException 80 = .ok (.iinc 2 1, 3) := by decide +kernel
theorem d_M_isException_83 : decode b_M_isException 83 = .ok (.goto (-41), 3) := by decide +kernel
theorem d_M_isException_86 : decode b_M_isException 86 = .ok (.iload_n 1, 1) := by decide +kernel
theorem d_M_isException_87 : decode b_M_isException 87 = .ok (.ireturn, 1) := by decide +kernel
def lay_M_isException (pc : Nat) : List Nat := if pc = 0 then [0] else if pc = 7 then [0, 1, 2] else if pc = 32 then [0, 2] else if pc = 33 then [0, 2] else if pc = 42 then [0, 1, 2] else if pc = 74 then [0, 2] else if pc = 78 then [0, 2] else if pc = 79 then [0, 2] else []
noncomputable def sg_M_isException_0 (v0 : Nat) (w : hy_W) : Option hy_N := if hy_ob w v0 6 = true then hy_bi (f_M_readRow [.ref v0] w) fun x3 w1 => some (.inl (7, [.ref v0, .int x3, .int 0], w1)) else none
noncomputable def sg_M_isException_7 (v0 : Nat) (v1 : Int32) (v2 : Int32) (w : hy_W) : Option hy_N := (hy_gi w v0 6 11).bind fun x1 => if x1 ≤ v2 then (some (.inl (42, [.ref v0, .int v1, .int 0], w))) else (if v1 = 0 then (some (.inl (32, [.ref v0, .int v2], w))) else ((hy_gr w v0 6 12).bind fun r4 => (hy_ai w r4 v2).bind fun x5 => if x5 = 0 then (some (.inl (32, [.ref v0, .int v2], w))) else (some (.inl (33, [.ref v0, .int v2, .int 1], w)))))
noncomputable def sg_M_isException_32 (v0 : Nat) (v2 : Int32) (w : hy_W) : Option hy_N := some (.inl (33, [.ref v0, .int v2, .int 0], w))
noncomputable def sg_M_isException_33 (v0 : Nat) (v2 : Int32) (s0 : Int32) (w : hy_W) : Option hy_N := some (.inl (7, [.ref v0, .int s0, .int (v2 + 1)], w))
noncomputable def sg_M_isException_42 (v0 : Nat) (v1 : Int32) (v2 : Int32) (w : hy_W) : Option hy_N := (hy_gi w v0 6 11).bind fun x1 => if x1 < v2 then (if v1 = 0 ∨ v1 = 1 then some (.inr (.inl (some (.int v1)), w)) else none) else (if v1 = 0 then (some (.inl (78, [.ref v0, .int v2], w))) else ((hy_gr w v0 6 13).bind fun r5 => (hy_ai w r5 v2).bind fun x6 => if x6 = 0 then (some (.inl (74, [.ref v0, .int v2], w))) else ((hy_gr w v0 6 13).bind fun r8 => (hy_ai w r8 v2).bind fun x9 => if x9 = 10 then (some (.inl (74, [.ref v0, .int v2], w))) else (some (.inl (78, [.ref v0, .int v2], w))))))
noncomputable def sg_M_isException_74 (v0 : Nat) (v2 : Int32) (w : hy_W) : Option hy_N := some (.inl (79, [.ref v0, .int v2, .int 1], w))
noncomputable def sg_M_isException_78 (v0 : Nat) (v2 : Int32) (w : hy_W) : Option hy_N := some (.inl (79, [.ref v0, .int v2, .int 0], w))
noncomputable def sg_M_isException_79 (v0 : Nat) (v2 : Int32) (s0 : Int32) (w : hy_W) : Option hy_N := some (.inl (42, [.ref v0, .int s0, .int (v2 + 1)], w))
noncomputable def nx_M_isException (q : hy_P) : Option hy_N := match q with
  | (0, [.ref v0], w) => sg_M_isException_0 v0 w
  | (7, [.ref v0, .int v1, .int v2], w) => sg_M_isException_7 v0 v1 v2 w
  | (32, [.ref v0, .int v2], w) => sg_M_isException_32 v0 v2 w
  | (33, [.ref v0, .int v2, .int s0], w) => sg_M_isException_33 v0 v2 s0 w
  | (42, [.ref v0, .int v1, .int v2], w) => sg_M_isException_42 v0 v1 v2 w
  | (74, [.ref v0, .int v2], w) => sg_M_isException_74 v0 v2 w
  | (78, [.ref v0, .int v2], w) => sg_M_isException_78 v0 v2 w
  | (79, [.ref v0, .int v2, .int s0], w) => sg_M_isException_79 v0 v2 s0 w
  | _ => none
noncomputable def f_M_isException (av : List Value) (w : hy_W) : Option hy_O := hy_fx nx_M_isException (0, av, w)
set_option maxHeartbeats 4000000 in
set_option maxRecDepth 100000 in
theorem sk_M_isException_0 {p : Program} {l : Launch} {e : Env} {s : State} {m : MethodId} {args : Array Value} {below : List Frame} {meth : Method} {c : Code} {G : hy_G} {A : Nat → Prop} {ad0 : Nat → Nat} {w0 : hy_W} {o : hy_O} (hl9 : l.flags = flags0) (hA : hy_A G ad0 w0 s.heap.size = A) (B : hy_B p l e (hy_rm 1 22 w0) s m args below meth c "HyphenPatternsModel" b_M_isException 3 (some .boolean) [] G A) (v0 : Nat) (w : hy_W) (nx : hy_N) (h : sg_M_isException_0 v0 w = some nx) (K : hy_Nx lay_M_isException p l e (hy_rm 1 22 w0) s m args below meth c 3 G A ad0 w0.1.length (hy_Q below G ad0 w0 o args s) o nx) : hy_At lay_M_isException p l e (hy_rm 1 22 w0) s m args below meth c 3 G A ad0 w0.1.length (hy_Q below G ad0 w0 o args s) (0, [.ref v0], w) := by
  intro ad H locs cells slots ls S hok hl
  have hx := B.1
  have hb := B.2.1
  dsimp only at S hok
  have hl : lv_has ls 3 [(0, .ref (ad v0))] := hl
  show W p l e (hy_rm 1 22 w0) s m args below meth c H locs cells slots (hy_Q below G ad0 w0 o args s) (F0 m 0 ls [])
  have hv_v0 : v0 < w.1.length := hok (.ref v0) (List.mem_of_getElem? (i := 0) rfl) v0 rfl
  obtain ⟨a_v0, ha_v0⟩ : ∃ a, ad v0 = a := ⟨_, rfl⟩
  rw [ha_v0] at hl
  unfold sg_M_isException_0 at h
  refine lv_aload_n hx hb d_M_isException_0 rfl (lv_at hl 0 rfl) ?_
  obtain ⟨ob4, h⟩ := hy_if h
  obtain ⟨fs_ob4, hf_ob4, hg_ob4⟩ := hy_ob_spec ob4
  obtain ⟨x3, w1, hq_w1, h⟩ := hy_bi_spec h
  refine hy_calli (hy_runV (rest := []) (As := []) (r := v0) (b := a_v0) B S rfl ha_v0 (by rfl) (c_M_readRow hl9 G ad hq_w1) (hy_okr (by omega) hy_ok0) tw_785 tw_9 tw_782 tw_784 sl_M_readRow (by decide) rfl (Nat.le_of_ble_eq_true rfl) (Nat.le_of_ble_eq_true rfl) hf_ob4 hg_ob4 rfl hl.1 (Nat.le_of_ble_eq_true rfl) d_M_isException_1) (fun ad2 H locs cells slots hag hl_w1 S => ?_)
  have ha_v0 : ad2 v0 = a_v0 := (hag v0 (by omega)).trans ha_v0
  refine lv_istore_n (lv' := [(1, .int x3), (0, .ref a_v0)]) hx hb d_M_isException_4 rfl hl (Nat.le_of_ble_eq_true rfl) rfl (fun ls hl => ?_)
  refine lv_iconst (v := 0) hx hb d_M_isException_5 (by decide) ?_
  refine lv_istore_n (lv' := [(2, .int 0), (1, .int x3), (0, .ref a_v0)]) hx hb d_M_isException_6 rfl hl (Nat.le_of_ble_eq_true rfl) rfl (fun ls hl => ?_)
  cases h
  exact hy_jump K S (hy_okr (by omega) (hy_oki (hy_oki hy_ok0))) (lv_sub hl [2, 1, 0] rfl) (by subst ha_v0; rfl) (by subst ha_v0; rfl)
set_option maxHeartbeats 4000000 in
set_option maxRecDepth 100000 in
theorem sk_M_isException_7 {p : Program} {l : Launch} {e : Env} {s : State} {m : MethodId} {args : Array Value} {below : List Frame} {meth : Method} {c : Code} {G : hy_G} {A : Nat → Prop} {ad0 : Nat → Nat} {w0 : hy_W} {o : hy_O} (hl9 : l.flags = flags0) (hA : hy_A G ad0 w0 s.heap.size = A) (B : hy_B p l e (hy_rm 1 22 w0) s m args below meth c "HyphenPatternsModel" b_M_isException 3 (some .boolean) [] G A) (v0 : Nat) (v1 : Int32) (v2 : Int32) (w : hy_W) (nx : hy_N) (h : sg_M_isException_7 v0 v1 v2 w = some nx) (K : hy_Nx lay_M_isException p l e (hy_rm 1 22 w0) s m args below meth c 3 G A ad0 w0.1.length (hy_Q below G ad0 w0 o args s) o nx) : hy_At lay_M_isException p l e (hy_rm 1 22 w0) s m args below meth c 3 G A ad0 w0.1.length (hy_Q below G ad0 w0 o args s) (7, [.ref v0, .int v1, .int v2], w) := by
  intro ad H locs cells slots ls S hok hl
  have hx := B.1
  have hb := B.2.1
  dsimp only at S hok
  have hl : lv_has ls 3 [(0, .ref (ad v0)), (1, .int v1), (2, .int v2)] := hl
  show W p l e (hy_rm 1 22 w0) s m args below meth c H locs cells slots (hy_Q below G ad0 w0 o args s) (F0 m 7 ls [])
  have hv_v0 : v0 < w.1.length := hok (.ref v0) (List.mem_of_getElem? (i := 0) rfl) v0 rfl
  obtain ⟨a_v0, ha_v0⟩ : ∃ a, ad v0 = a := ⟨_, rfl⟩
  rw [ha_v0] at hl
  unfold sg_M_isException_7 at h
  refine lv_iload_n hx hb d_M_isException_7 rfl (lv_at hl 2 rfl) ?_
  refine lv_aload_n hx hb d_M_isException_8 rfl (lv_at hl 0 rfl) ?_
  obtain ⟨x1, hx1, h⟩ := hy_bd h
  refine hy_geti B S ha_v0 hx1 rfl (Nat.le_of_ble_eq_true rfl) i_6 (j := 11) tw_661 (fun _ h => h) d_M_isException_9 ?_
  refine lv_icmp_ge (tgt := 40) hx hb d_M_isException_12 (by decide) (fun c2 => ?_) (fun c2 => ?_)
  · rw [if_pos c2] at h
    refine lv_iconst (v := 0) hx hb d_M_isException_40 (by decide) ?_
    refine lv_istore_n (lv' := [(2, .int 0), (0, .ref a_v0), (1, .int v1)]) hx hb d_M_isException_41 rfl hl (Nat.le_of_ble_eq_true rfl) rfl (fun ls hl => ?_)
    cases h
    exact hy_jump K S (hy_okr (by omega) (hy_oki (hy_oki hy_ok0))) (lv_sub hl [1, 2, 0] rfl) (by subst ha_v0; rfl) (by subst ha_v0; rfl)
  · rw [if_neg c2] at h
    refine lv_iload_n hx hb d_M_isException_15 rfl (lv_at hl 1 rfl) ?_
    refine lv_if_eq (tgt := 32) hx hb d_M_isException_16 (by decide) (fun c3 => ?_) (fun c3 => ?_)
    · rw [if_pos c3] at h
      cases h
      exact hy_jump K S (hy_okr (by omega) (hy_oki hy_ok0)) (lv_sub hl [0, 2] rfl) (by subst ha_v0; rfl) (by subst ha_v0; rfl)
    · rw [if_neg c3] at h
      refine lv_aload_n hx hb d_M_isException_19 rfl (lv_at hl 0 rfl) ?_
      obtain ⟨r4, hr4, h⟩ := hy_bd h
      refine hy_getr B S ha_v0 hr4 rfl (Nat.le_of_ble_eq_true rfl) i_6 (j := 12) tw_662 (fun _ h => h) d_M_isException_20 (fun a_r4 ha_r4 hv_r4 => ?_)
      refine lv_iload_n hx hb d_M_isException_23 rfl (lv_at hl 2 rfl) ?_
      obtain ⟨x5, hx5, h⟩ := hy_bd h
      refine hy_iald B S ha_r4 hx5 d_M_isException_24 ?_
      refine lv_if_eq (tgt := 32) hx hb d_M_isException_25 (by decide) (fun c6 => ?_) (fun c6 => ?_)
      · rw [if_pos c6] at h
        cases h
        exact hy_jump K S (hy_okr (by omega) (hy_oki hy_ok0)) (lv_sub hl [0, 2] rfl) (by subst ha_v0; rfl) (by subst ha_v0; rfl)
      · rw [if_neg c6] at h
        refine lv_iconst (v := 1) hx hb d_M_isException_28 (by decide) ?_
        refine lv_goto (tgt := 33) hx hb d_M_isException_29 (by decide) ?_
        cases h
        exact hy_jump K S (hy_okr (by omega) (hy_oki (hy_oki hy_ok0))) (lv_sub hl [0, 2] rfl) (by subst ha_v0; rfl) (by subst ha_v0; rfl)
set_option maxHeartbeats 4000000 in
set_option maxRecDepth 100000 in
theorem sk_M_isException_32 {p : Program} {l : Launch} {e : Env} {s : State} {m : MethodId} {args : Array Value} {below : List Frame} {meth : Method} {c : Code} {G : hy_G} {A : Nat → Prop} {ad0 : Nat → Nat} {w0 : hy_W} {o : hy_O} (hl9 : l.flags = flags0) (hA : hy_A G ad0 w0 s.heap.size = A) (B : hy_B p l e (hy_rm 1 22 w0) s m args below meth c "HyphenPatternsModel" b_M_isException 3 (some .boolean) [] G A) (v0 : Nat) (v2 : Int32) (w : hy_W) (nx : hy_N) (h : sg_M_isException_32 v0 v2 w = some nx) (K : hy_Nx lay_M_isException p l e (hy_rm 1 22 w0) s m args below meth c 3 G A ad0 w0.1.length (hy_Q below G ad0 w0 o args s) o nx) : hy_At lay_M_isException p l e (hy_rm 1 22 w0) s m args below meth c 3 G A ad0 w0.1.length (hy_Q below G ad0 w0 o args s) (32, [.ref v0, .int v2], w) := by
  intro ad H locs cells slots ls S hok hl
  have hx := B.1
  have hb := B.2.1
  dsimp only at S hok
  have hl : lv_has ls 3 [(0, .ref (ad v0)), (2, .int v2)] := hl
  show W p l e (hy_rm 1 22 w0) s m args below meth c H locs cells slots (hy_Q below G ad0 w0 o args s) (F0 m 32 ls [])
  have hv_v0 : v0 < w.1.length := hok (.ref v0) (List.mem_of_getElem? (i := 0) rfl) v0 rfl
  obtain ⟨a_v0, ha_v0⟩ : ∃ a, ad v0 = a := ⟨_, rfl⟩
  rw [ha_v0] at hl
  unfold sg_M_isException_32 at h
  refine lv_iconst (v := 0) hx hb d_M_isException_32 (by decide) ?_
  cases h
  exact hy_jump K S (hy_okr (by omega) (hy_oki (hy_oki hy_ok0))) (lv_sub hl [0, 1] rfl) (by subst ha_v0; rfl) (by subst ha_v0; rfl)
set_option maxHeartbeats 4000000 in
set_option maxRecDepth 100000 in
theorem sk_M_isException_33 {p : Program} {l : Launch} {e : Env} {s : State} {m : MethodId} {args : Array Value} {below : List Frame} {meth : Method} {c : Code} {G : hy_G} {A : Nat → Prop} {ad0 : Nat → Nat} {w0 : hy_W} {o : hy_O} (hl9 : l.flags = flags0) (hA : hy_A G ad0 w0 s.heap.size = A) (B : hy_B p l e (hy_rm 1 22 w0) s m args below meth c "HyphenPatternsModel" b_M_isException 3 (some .boolean) [] G A) (v0 : Nat) (v2 : Int32) (s0 : Int32) (w : hy_W) (nx : hy_N) (h : sg_M_isException_33 v0 v2 s0 w = some nx) (K : hy_Nx lay_M_isException p l e (hy_rm 1 22 w0) s m args below meth c 3 G A ad0 w0.1.length (hy_Q below G ad0 w0 o args s) o nx) : hy_At lay_M_isException p l e (hy_rm 1 22 w0) s m args below meth c 3 G A ad0 w0.1.length (hy_Q below G ad0 w0 o args s) (33, [.ref v0, .int v2, .int s0], w) := by
  intro ad H locs cells slots ls S hok hl
  have hx := B.1
  have hb := B.2.1
  dsimp only at S hok
  have hl : lv_has ls 3 [(0, .ref (ad v0)), (2, .int v2)] := hl
  show W p l e (hy_rm 1 22 w0) s m args below meth c H locs cells slots (hy_Q below G ad0 w0 o args s) (F0 m 33 ls [.int s0])
  have hv_v0 : v0 < w.1.length := hok (.ref v0) (List.mem_of_getElem? (i := 0) rfl) v0 rfl
  obtain ⟨a_v0, ha_v0⟩ : ∃ a, ad v0 = a := ⟨_, rfl⟩
  rw [ha_v0] at hl
  unfold sg_M_isException_33 at h
  refine lv_istore_n (lv' := [(1, .int s0), (0, .ref a_v0), (2, .int v2)]) hx hb d_M_isException_33 rfl hl (Nat.le_of_ble_eq_true rfl) rfl (fun ls hl => ?_)
  refine lv_iinc (v := (v2 + 1)) (lv' := [(2, .int (v2 + 1)), (1, .int s0), (0, .ref a_v0)]) hx hb d_M_isException_34 hl (k := 2) rfl rfl (Nat.le_of_ble_eq_true rfl) rfl (fun ls hl => ?_)
  refine lv_goto (tgt := 7) hx hb d_M_isException_37 (by decide) ?_
  cases h
  exact hy_jump K S (hy_okr (by omega) (hy_oki (hy_oki hy_ok0))) (lv_sub hl [2, 1, 0] rfl) (by subst ha_v0; rfl) (by subst ha_v0; rfl)
set_option maxHeartbeats 4000000 in
set_option maxRecDepth 100000 in
theorem sk_M_isException_42 {p : Program} {l : Launch} {e : Env} {s : State} {m : MethodId} {args : Array Value} {below : List Frame} {meth : Method} {c : Code} {G : hy_G} {A : Nat → Prop} {ad0 : Nat → Nat} {w0 : hy_W} {o : hy_O} (hl9 : l.flags = flags0) (hA : hy_A G ad0 w0 s.heap.size = A) (B : hy_B p l e (hy_rm 1 22 w0) s m args below meth c "HyphenPatternsModel" b_M_isException 3 (some .boolean) [] G A) (v0 : Nat) (v1 : Int32) (v2 : Int32) (w : hy_W) (nx : hy_N) (h : sg_M_isException_42 v0 v1 v2 w = some nx) (K : hy_Nx lay_M_isException p l e (hy_rm 1 22 w0) s m args below meth c 3 G A ad0 w0.1.length (hy_Q below G ad0 w0 o args s) o nx) : hy_At lay_M_isException p l e (hy_rm 1 22 w0) s m args below meth c 3 G A ad0 w0.1.length (hy_Q below G ad0 w0 o args s) (42, [.ref v0, .int v1, .int v2], w) := by
  intro ad H locs cells slots ls S hok hl
  have hx := B.1
  have hb := B.2.1
  dsimp only at S hok
  have hl : lv_has ls 3 [(0, .ref (ad v0)), (1, .int v1), (2, .int v2)] := hl
  show W p l e (hy_rm 1 22 w0) s m args below meth c H locs cells slots (hy_Q below G ad0 w0 o args s) (F0 m 42 ls [])
  have hv_v0 : v0 < w.1.length := hok (.ref v0) (List.mem_of_getElem? (i := 0) rfl) v0 rfl
  obtain ⟨a_v0, ha_v0⟩ : ∃ a, ad v0 = a := ⟨_, rfl⟩
  rw [ha_v0] at hl
  unfold sg_M_isException_42 at h
  refine lv_iload_n hx hb d_M_isException_42 rfl (lv_at hl 2 rfl) ?_
  refine lv_aload_n hx hb d_M_isException_43 rfl (lv_at hl 0 rfl) ?_
  obtain ⟨x1, hx1, h⟩ := hy_bd h
  refine hy_geti B S ha_v0 hx1 rfl (Nat.le_of_ble_eq_true rfl) i_6 (j := 11) tw_661 (fun _ h => h) d_M_isException_44 ?_
  refine lv_icmp_gt (tgt := 86) hx hb d_M_isException_47 (by decide) (fun c2 => ?_) (fun c2 => ?_)
  · rw [if_pos c2] at h
    refine lv_iload_n hx hb d_M_isException_86 rfl (lv_at hl 1 rfl) ?_
    obtain ⟨z3, h⟩ := hy_if h
    cases h
    cases K
    exact hy_zret hA B S z3 d_M_isException_87
  · rw [if_neg c2] at h
    refine lv_iload_n hx hb d_M_isException_50 rfl (lv_at hl 1 rfl) ?_
    refine lv_if_eq (tgt := 78) hx hb d_M_isException_51 (by decide) (fun c4 => ?_) (fun c4 => ?_)
    · rw [if_pos c4] at h
      cases h
      exact hy_jump K S (hy_okr (by omega) (hy_oki hy_ok0)) (lv_sub hl [0, 2] rfl) (by subst ha_v0; rfl) (by subst ha_v0; rfl)
    · rw [if_neg c4] at h
      refine lv_aload_n hx hb d_M_isException_54 rfl (lv_at hl 0 rfl) ?_
      obtain ⟨r5, hr5, h⟩ := hy_bd h
      refine hy_getr B S ha_v0 hr5 rfl (Nat.le_of_ble_eq_true rfl) i_6 (j := 13) tw_663 (fun _ h => h) d_M_isException_55 (fun a_r5 ha_r5 hv_r5 => ?_)
      refine lv_iload_n hx hb d_M_isException_58 rfl (lv_at hl 2 rfl) ?_
      obtain ⟨x6, hx6, h⟩ := hy_bd h
      refine hy_iald B S ha_r5 hx6 d_M_isException_59 ?_
      refine lv_if_eq (tgt := 74) hx hb d_M_isException_60 (by decide) (fun c7 => ?_) (fun c7 => ?_)
      · rw [if_pos c7] at h
        cases h
        exact hy_jump K S (hy_okr (by omega) (hy_oki hy_ok0)) (lv_sub hl [0, 2] rfl) (by subst ha_v0; rfl) (by subst ha_v0; rfl)
      · rw [if_neg c7] at h
        refine lv_aload_n hx hb d_M_isException_63 rfl (lv_at hl 0 rfl) ?_
        obtain ⟨r8, hr8, h⟩ := hy_bd h
        refine hy_getr B S ha_v0 hr8 rfl (Nat.le_of_ble_eq_true rfl) i_6 (j := 13) tw_663 (fun _ h => h) d_M_isException_64 (fun a_r8 ha_r8 hv_r8 => ?_)
        refine lv_iload_n hx hb d_M_isException_67 rfl (lv_at hl 2 rfl) ?_
        obtain ⟨x9, hx9, h⟩ := hy_bd h
        refine hy_iald B S ha_r8 hx9 d_M_isException_68 ?_
        refine lv_bipush (v := 10) hx hb d_M_isException_69 (by decide) ?_
        refine lv_icmp_ne (tgt := 78) hx hb d_M_isException_71 (by decide) (fun c10 => ?_) (fun c10 => ?_)
        · rw [if_neg c10] at h
          cases h
          exact hy_jump K S (hy_okr (by omega) (hy_oki hy_ok0)) (lv_sub hl [0, 2] rfl) (by subst ha_v0; rfl) (by subst ha_v0; rfl)
        · rw [if_pos c10] at h
          cases h
          exact hy_jump K S (hy_okr (by omega) (hy_oki hy_ok0)) (lv_sub hl [0, 2] rfl) (by subst ha_v0; rfl) (by subst ha_v0; rfl)
set_option maxHeartbeats 4000000 in
set_option maxRecDepth 100000 in
theorem sk_M_isException_74 {p : Program} {l : Launch} {e : Env} {s : State} {m : MethodId} {args : Array Value} {below : List Frame} {meth : Method} {c : Code} {G : hy_G} {A : Nat → Prop} {ad0 : Nat → Nat} {w0 : hy_W} {o : hy_O} (hl9 : l.flags = flags0) (hA : hy_A G ad0 w0 s.heap.size = A) (B : hy_B p l e (hy_rm 1 22 w0) s m args below meth c "HyphenPatternsModel" b_M_isException 3 (some .boolean) [] G A) (v0 : Nat) (v2 : Int32) (w : hy_W) (nx : hy_N) (h : sg_M_isException_74 v0 v2 w = some nx) (K : hy_Nx lay_M_isException p l e (hy_rm 1 22 w0) s m args below meth c 3 G A ad0 w0.1.length (hy_Q below G ad0 w0 o args s) o nx) : hy_At lay_M_isException p l e (hy_rm 1 22 w0) s m args below meth c 3 G A ad0 w0.1.length (hy_Q below G ad0 w0 o args s) (74, [.ref v0, .int v2], w) := by
  intro ad H locs cells slots ls S hok hl
  have hx := B.1
  have hb := B.2.1
  dsimp only at S hok
  have hl : lv_has ls 3 [(0, .ref (ad v0)), (2, .int v2)] := hl
  show W p l e (hy_rm 1 22 w0) s m args below meth c H locs cells slots (hy_Q below G ad0 w0 o args s) (F0 m 74 ls [])
  have hv_v0 : v0 < w.1.length := hok (.ref v0) (List.mem_of_getElem? (i := 0) rfl) v0 rfl
  obtain ⟨a_v0, ha_v0⟩ : ∃ a, ad v0 = a := ⟨_, rfl⟩
  rw [ha_v0] at hl
  unfold sg_M_isException_74 at h
  refine lv_iconst (v := 1) hx hb d_M_isException_74 (by decide) ?_
  refine lv_goto (tgt := 79) hx hb d_M_isException_75 (by decide) ?_
  cases h
  exact hy_jump K S (hy_okr (by omega) (hy_oki (hy_oki hy_ok0))) (lv_sub hl [0, 1] rfl) (by subst ha_v0; rfl) (by subst ha_v0; rfl)
set_option maxHeartbeats 4000000 in
set_option maxRecDepth 100000 in
theorem sk_M_isException_78 {p : Program} {l : Launch} {e : Env} {s : State} {m : MethodId} {args : Array Value} {below : List Frame} {meth : Method} {c : Code} {G : hy_G} {A : Nat → Prop} {ad0 : Nat → Nat} {w0 : hy_W} {o : hy_O} (hl9 : l.flags = flags0) (hA : hy_A G ad0 w0 s.heap.size = A) (B : hy_B p l e (hy_rm 1 22 w0) s m args below meth c "HyphenPatternsModel" b_M_isException 3 (some .boolean) [] G A) (v0 : Nat) (v2 : Int32) (w : hy_W) (nx : hy_N) (h : sg_M_isException_78 v0 v2 w = some nx) (K : hy_Nx lay_M_isException p l e (hy_rm 1 22 w0) s m args below meth c 3 G A ad0 w0.1.length (hy_Q below G ad0 w0 o args s) o nx) : hy_At lay_M_isException p l e (hy_rm 1 22 w0) s m args below meth c 3 G A ad0 w0.1.length (hy_Q below G ad0 w0 o args s) (78, [.ref v0, .int v2], w) := by
  intro ad H locs cells slots ls S hok hl
  have hx := B.1
  have hb := B.2.1
  dsimp only at S hok
  have hl : lv_has ls 3 [(0, .ref (ad v0)), (2, .int v2)] := hl
  show W p l e (hy_rm 1 22 w0) s m args below meth c H locs cells slots (hy_Q below G ad0 w0 o args s) (F0 m 78 ls [])
  have hv_v0 : v0 < w.1.length := hok (.ref v0) (List.mem_of_getElem? (i := 0) rfl) v0 rfl
  obtain ⟨a_v0, ha_v0⟩ : ∃ a, ad v0 = a := ⟨_, rfl⟩
  rw [ha_v0] at hl
  unfold sg_M_isException_78 at h
  refine lv_iconst (v := 0) hx hb d_M_isException_78 (by decide) ?_
  cases h
  exact hy_jump K S (hy_okr (by omega) (hy_oki (hy_oki hy_ok0))) (lv_sub hl [0, 1] rfl) (by subst ha_v0; rfl) (by subst ha_v0; rfl)
set_option maxHeartbeats 4000000 in
set_option maxRecDepth 100000 in
theorem sk_M_isException_79 {p : Program} {l : Launch} {e : Env} {s : State} {m : MethodId} {args : Array Value} {below : List Frame} {meth : Method} {c : Code} {G : hy_G} {A : Nat → Prop} {ad0 : Nat → Nat} {w0 : hy_W} {o : hy_O} (hl9 : l.flags = flags0) (hA : hy_A G ad0 w0 s.heap.size = A) (B : hy_B p l e (hy_rm 1 22 w0) s m args below meth c "HyphenPatternsModel" b_M_isException 3 (some .boolean) [] G A) (v0 : Nat) (v2 : Int32) (s0 : Int32) (w : hy_W) (nx : hy_N) (h : sg_M_isException_79 v0 v2 s0 w = some nx) (K : hy_Nx lay_M_isException p l e (hy_rm 1 22 w0) s m args below meth c 3 G A ad0 w0.1.length (hy_Q below G ad0 w0 o args s) o nx) : hy_At lay_M_isException p l e (hy_rm 1 22 w0) s m args below meth c 3 G A ad0 w0.1.length (hy_Q below G ad0 w0 o args s) (79, [.ref v0, .int v2, .int s0], w) := by
  intro ad H locs cells slots ls S hok hl
  have hx := B.1
  have hb := B.2.1
  dsimp only at S hok
  have hl : lv_has ls 3 [(0, .ref (ad v0)), (2, .int v2)] := hl
  show W p l e (hy_rm 1 22 w0) s m args below meth c H locs cells slots (hy_Q below G ad0 w0 o args s) (F0 m 79 ls [.int s0])
  have hv_v0 : v0 < w.1.length := hok (.ref v0) (List.mem_of_getElem? (i := 0) rfl) v0 rfl
  obtain ⟨a_v0, ha_v0⟩ : ∃ a, ad v0 = a := ⟨_, rfl⟩
  rw [ha_v0] at hl
  unfold sg_M_isException_79 at h
  refine lv_istore_n (lv' := [(1, .int s0), (0, .ref a_v0), (2, .int v2)]) hx hb d_M_isException_79 rfl hl (Nat.le_of_ble_eq_true rfl) rfl (fun ls hl => ?_)
  refine lv_iinc (v := (v2 + 1)) (lv' := [(2, .int (v2 + 1)), (1, .int s0), (0, .ref a_v0)]) hx hb d_M_isException_80 hl (k := 2) rfl rfl (Nat.le_of_ble_eq_true rfl) rfl (fun ls hl => ?_)
  refine lv_goto (tgt := 42) hx hb d_M_isException_83 (by decide) ?_
  cases h
  exact hy_jump K S (hy_okr (by omega) (hy_oki (hy_oki hy_ok0))) (lv_sub hl [2, 1, 0] rfl) (by subst ha_v0; rfl) (by subst ha_v0; rfl)
theorem nk_M_isException {p : Program} {l : Launch} {e : Env} {s : State} {m : MethodId} {args : Array Value} {below : List Frame} {meth : Method} {c : Code} {G : hy_G} {A : Nat → Prop} {ad0 : Nat → Nat} {w0 : hy_W} {o : hy_O} (hl9 : l.flags = flags0) (hA : hy_A G ad0 w0 s.heap.size = A) (B : hy_B p l e (hy_rm 1 22 w0) s m args below meth c "HyphenPatternsModel" b_M_isException 3 (some .boolean) [] G A) (q : hy_P) (nx : hy_N) (hq : nx_M_isException q = some nx) (K : hy_Nx lay_M_isException p l e (hy_rm 1 22 w0) s m args below meth c 3 G A ad0 w0.1.length (hy_Q below G ad0 w0 o args s) o nx) : hy_At lay_M_isException p l e (hy_rm 1 22 w0) s m args below meth c 3 G A ad0 w0.1.length (hy_Q below G ad0 w0 o args s) q := by
  unfold nx_M_isException at hq
  split at hq
  · exact sk_M_isException_0 hl9 hA B _ _ nx hq K
  · exact sk_M_isException_7 hl9 hA B _ _ _ _ nx hq K
  · exact sk_M_isException_32 hl9 hA B _ _ _ nx hq K
  · exact sk_M_isException_33 hl9 hA B _ _ _ _ nx hq K
  · exact sk_M_isException_42 hl9 hA B _ _ _ _ nx hq K
  · exact sk_M_isException_74 hl9 hA B _ _ _ nx hq K
  · exact sk_M_isException_78 hl9 hA B _ _ _ nx hq K
  · exact sk_M_isException_79 hl9 hA B _ _ _ _ nx hq K
  · cases hq
theorem c_M_isException {l : Launch} (hl9 : l.flags = flags0) (G : hy_G) (ad : Nat → Nat) {v0 : Nat} {w : hy_W} {o : hy_O} (h : f_M_isException [.ref v0] w = some o) : hy_M l y_M_isException (Cond.code y_M_isException b_M_isException 3 (some .boolean) :: hy_T) 1 22 G ad [.ref v0] w o := by
  obtain ⟨n, hn⟩ := hy_fx_iff.mp h
  refine hy_ofW hl9 (by decide +kernel) (Nat.le_of_ble_eq_true rfl) (fun p e s m args below meth c A hA hi B S hok ls hl => ?_)
  exact hy_loop (nk_M_isException hl9 hA B) n _ hn ad s.heap [] 0 0 ls S hok hl
theorem d_M_findException_0 : decode b_M_findException 0 = .ok (.iconst (-1), 1) := by decide +kernel
theorem d_M_findException_1 : decode b_M_findException 1 = .ok (.istore_n 1, 1) := by decide +kernel
theorem d_M_findException_2 : decode b_M_findException 2 = .ok (.iconst 0, 1) := by decide +kernel
theorem d_M_findException_3 : decode b_M_findException 3 = .ok (.istore_n 2, 1) := by decide +kernel
theorem d_M_findException_4 : decode b_M_findException 4 = .ok (.iload_n 2, 1) := by decide +kernel
theorem d_M_findException_5 : decode b_M_findException 5 = .ok (.aload_n 0, 1) := by decide +kernel
theorem d_M_findException_6 : decode b_M_findException 6 = .ok (.getfield 115, 3) := by decide +kernel
theorem d_M_findException_9 : decode b_M_findException 9 = .ok (.if_icmp .ge 101, 3) := by decide +kernel
theorem d_M_findException_12 : decode b_M_findException 12 = .ok (.aload_n 0, 1) := by decide +kernel
theorem d_M_findException_13 : decode b_M_findException 13 = .ok (.getfield 52, 3) := by decide +kernel
theorem d_M_findException_16 : decode b_M_findException 16 = .ok (.iload_n 2, 1) := by decide +kernel
theorem d_M_findException_17 : decode b_M_findException 17 = .ok (.iaload, 1) := by decide +kernel
theorem d_M_findException_18 : decode b_M_findException 18 = .ok (.aload_n 0, 1) := by decide +kernel
theorem d_M_findException_19 : decode b_M_findException 19 = .ok (.getfield 76, 3) := by decide +kernel
theorem d_M_findException_22 : decode b_M_findException 22 = .ok (.if_icmp .ne 20, 3) := by decide +kernel
theorem d_M_findException_25 : decode b_M_findException 25 = .ok (.aload_n 0, 1) := by decide +kernel
theorem d_M_findException_26 : decode b_M_findException 26 = .ok (.getfield 55, 3) := by decide +kernel
theorem d_M_findException_29 : decode b_M_findException 29 = .ok (.iload_n 2, 1) := by decide +kernel
theorem d_M_findException_30 : decode b_M_findException 30 = .ok (.iaload, 1) := by decide +kernel
theorem d_M_findException_31 : decode b_M_findException 31 = .ok (.aload_n 0, 1) := by decide +kernel
theorem d_M_findException_32 : decode b_M_findException 32 = .ok (.getfield 99, 3) := by decide +kernel
theorem d_M_findException_35 : decode b_M_findException 35 = .ok (.if_icmp .ne 7, 3) := by decide +kernel
theorem d_M_findException_38 : decode b_M_findException 38 = .ok (.iconst 1, 1) := by decide +kernel
theorem d_M_findException_39 : decode b_M_findException 39 = .ok (.goto 4, 3) := by decide +kernel
theorem d_M_findException_42 : decode b_M_findException 42 = .ok (.iconst 0, 1) := by decide +kernel
theorem d_M_findException_43 : decode b_M_findException 43 = .ok (.istore_n 3, 1) := by decide +kernel
theorem d_M_findException_44 : decode b_M_findException 44 = .ok (.iconst 0, 1) := by decide +kernel
theorem d_M_findException_45 : decode b_M_findException 45 = .ok (.istore 4, 2) := by decide +kernel
theorem d_M_findException_47 : decode b_M_findException 47 = .ok (.iload 4, 2) := by decide +kernel
theorem d_M_findException_49 : decode b_M_findException 49 = .ok (.aload_n 0, 1) := by decide +kernel
theorem d_M_findException_50 : decode b_M_findException 50 = .ok (.getfield 99, 3) := by decide +kernel
theorem d_M_findException_53 : decode b_M_findException 53 = .ok (.if_icmp .ge 41, 3) := by decide +kernel
theorem d_M_findException_56 : decode b_M_findException 56 = .ok (.iload_n 3, 1) := by decide +kernel
theorem d_M_findException_57 : decode b_M_findException 57 = .ok (.ifCond .eq 37, 3) := by decide +kernel
theorem d_M_findException_60 : decode b_M_findException 60 = .ok (.aload_n 0, 1) := by decide +kernel
theorem d_M_findException_61 : decode b_M_findException 61 = .ok (.getfield 58, 3) := by decide +kernel
theorem d_M_findException_64 : decode b_M_findException 64 = .ok (.bipush 40, 2) := by decide +kernel
theorem d_M_findException_66 : decode b_M_findException 66 = .ok (.iload_n 2, 1) := by decide +kernel
theorem d_M_findException_67 : decode b_M_findException 67 = .ok (.imul, 1) := by decide +kernel
theorem d_M_findException_68 : decode b_M_findException 68 = .ok (.iload 4, 2) := by decide +kernel
theorem d_M_findException_70 : decode b_M_findException 70 = .ok (.iadd, 1) := by decide +kernel
theorem d_M_findException_71 : decode b_M_findException 71 = .ok (.iaload, 1) := by decide +kernel
theorem d_M_findException_72 : decode b_M_findException 72 = .ok (.aload_n 0, 1) := by decide +kernel
theorem d_M_findException_73 : decode b_M_findException 73 = .ok (.getfield 34, 3) := by decide +kernel
theorem d_M_findException_76 : decode b_M_findException 76 = .ok (.iload 4, 2) := by decide +kernel
theorem d_M_findException_78 : decode b_M_findException 78 = .ok (.iaload, 1) := by decide +kernel
theorem d_M_findException_79 : decode b_M_findException 79 = .ok (.if_icmp .ne 7, 3) := by decide +kernel
theorem d_M_findException_82 : decode b_M_findException 82 = .ok (.iconst 1, 1) := by decide +kernel
theorem d_M_findException_83 : decode b_M_findException 83 = .ok (.goto 4, 3) := by decide +kernel
theorem d_M_findException_86 : decode b_M_findException 86 = .ok (.iconst 0, 1) := by decide +kernel
theorem d_M_findException_87 : decode b_M_findException 87 = .ok (.istore_n 3, 1) := by decide +kernel
theorem d_M_findException_88 : decode b_M_findException 88 = .ok (.iinc 4 1, 3) := by decide +kernel
theorem d_M_findException_91 : decode b_M_findException 91 = .ok (.goto (-44), 3) := by decide +kernel
theorem d_M_findException_94 : decode b_M_findException 94 = .ok (.iload_n 3, 1) := by decide +kernel
theorem d_M_findException_95 : decode b_M_findException 95 = .ok (.ifCond .eq 7, 3) := by decide +kernel
theorem d_M_findException_98 : decode b_M_findException 98 = .ok (.iload_n 2, 1) := by decide +kernel
theorem d_M_findException_99 : decode b_M_findException 99 = .ok (.goto 4, 3) := by decide +kernel
theorem d_M_findException_102 : decode b_M_findException 102 = .ok (.iload_n 1, 1) := by decide +kernel
theorem d_M_findException_103 : decode b_M_findException 103 = .ok (.istore_n 1, 1) := by decide +kernel
theorem d_M_findException_104 : decode b_M_findException 104 = .ok (.iinc 2 1, 3) := by decide +kernel
theorem d_M_findException_107 : decode b_M_findException 107 = .ok (.goto (-103), 3) := by decide +kernel
theorem d_M_findException_110 : decode b_M_findException 110 = .ok (.iload_n 1, 1) := by decide +kernel
theorem d_M_findException_111 : decode b_M_findException 111 = .ok (.ireturn, 1) := by decide +kernel
def lay_M_findException (pc : Nat) : List Nat := if pc = 0 then [0] else if pc = 4 then [0, 1, 2] else if pc = 42 then [0, 1, 2] else if pc = 43 then [0, 1, 2] else if pc = 47 then [0, 1, 2, 3, 4] else if pc = 87 then [0, 1, 2, 4] else if pc = 94 then [0, 1, 2, 3] else if pc = 103 then [0, 2] else []
noncomputable def sg_M_findException_0 (v0 : Nat) (w : hy_W) : Option hy_N := some (.inl (4, [.ref v0, .int (-1), .int 0], w))
noncomputable def sg_M_findException_4 (v0 : Nat) (v1 : Int32) (v2 : Int32) (w : hy_W) : Option hy_N := (hy_gi w v0 6 19).bind fun x1 => if x1 ≤ v2 then (some (.inr (.inl (some (.int v1)), w))) else ((hy_gr w v0 6 20).bind fun r3 => (hy_ai w r3 v2).bind fun x4 => (hy_gi w v0 6 1).bind fun x5 => if x4 = x5 then ((hy_gr w v0 6 21).bind fun r7 => (hy_ai w r7 v2).bind fun x8 => (hy_gi w v0 6 11).bind fun x9 => if x8 = x9 then (some (.inl (43, [.ref v0, .int v1, .int v2, .int 1], w))) else (some (.inl (42, [.ref v0, .int v1, .int v2], w)))) else (some (.inl (42, [.ref v0, .int v1, .int v2], w))))
noncomputable def sg_M_findException_42 (v0 : Nat) (v1 : Int32) (v2 : Int32) (w : hy_W) : Option hy_N := some (.inl (43, [.ref v0, .int v1, .int v2, .int 0], w))
noncomputable def sg_M_findException_43 (v0 : Nat) (v1 : Int32) (v2 : Int32) (s0 : Int32) (w : hy_W) : Option hy_N := some (.inl (47, [.ref v0, .int v1, .int v2, .int s0, .int 0], w))
noncomputable def sg_M_findException_47 (v0 : Nat) (v1 : Int32) (v2 : Int32) (v3 : Int32) (v4 : Int32) (w : hy_W) : Option hy_N := (hy_gi w v0 6 11).bind fun x1 => if x1 ≤ v4 then (some (.inl (94, [.ref v0, .int v1, .int v2, .int v3], w))) else (if v3 = 0 then (some (.inl (94, [.ref v0, .int v1, .int v2, .int v3], w))) else ((hy_gr w v0 6 22).bind fun r4 => (hy_ai w r4 ((40 * v2) + v4)).bind fun x5 => (hy_gr w v0 6 12).bind fun r6 => (hy_ai w r6 v4).bind fun x7 => if x5 = x7 then (some (.inl (87, [.ref v0, .int v1, .int v2, .int v4, .int 1], w))) else (some (.inl (87, [.ref v0, .int v1, .int v2, .int v4, .int 0], w)))))
noncomputable def sg_M_findException_87 (v0 : Nat) (v1 : Int32) (v2 : Int32) (v4 : Int32) (s0 : Int32) (w : hy_W) : Option hy_N := some (.inl (47, [.ref v0, .int v1, .int v2, .int s0, .int (v4 + 1)], w))
noncomputable def sg_M_findException_94 (v0 : Nat) (v1 : Int32) (v2 : Int32) (v3 : Int32) (w : hy_W) : Option hy_N := if v3 = 0 then (some (.inl (103, [.ref v0, .int v2, .int v1], w))) else (some (.inl (103, [.ref v0, .int v2, .int v2], w)))
noncomputable def sg_M_findException_103 (v0 : Nat) (v2 : Int32) (s0 : Int32) (w : hy_W) : Option hy_N := some (.inl (4, [.ref v0, .int s0, .int (v2 + 1)], w))
noncomputable def nx_M_findException (q : hy_P) : Option hy_N := match q with
  | (0, [.ref v0], w) => sg_M_findException_0 v0 w
  | (4, [.ref v0, .int v1, .int v2], w) => sg_M_findException_4 v0 v1 v2 w
  | (42, [.ref v0, .int v1, .int v2], w) => sg_M_findException_42 v0 v1 v2 w
  | (43, [.ref v0, .int v1, .int v2, .int s0], w) => sg_M_findException_43 v0 v1 v2 s0 w
  | (47, [.ref v0, .int v1, .int v2, .int v3, .int v4], w) => sg_M_findException_47 v0 v1 v2 v3 v4 w
  | (87, [.ref v0, .int v1, .int v2, .int v4, .int s0], w) => sg_M_findException_87 v0 v1 v2 v4 s0 w
  | (94, [.ref v0, .int v1, .int v2, .int v3], w) => sg_M_findException_94 v0 v1 v2 v3 w
  | (103, [.ref v0, .int v2, .int s0], w) => sg_M_findException_103 v0 v2 s0 w
  | _ => none
noncomputable def f_M_findException (av : List Value) (w : hy_W) : Option hy_O := hy_fx nx_M_findException (0, av, w)
set_option maxHeartbeats 4000000 in
set_option maxRecDepth 100000 in
theorem sk_M_findException_0 {p : Program} {l : Launch} {e : Env} {s : State} {m : MethodId} {args : Array Value} {below : List Frame} {meth : Method} {c : Code} {G : hy_G} {A : Nat → Prop} {ad0 : Nat → Nat} {w0 : hy_W} {o : hy_O} (hl9 : l.flags = flags0) (hA : hy_A G ad0 w0 s.heap.size = A) (B : hy_B p l e (hy_rm 0 0 w0) s m args below meth c "HyphenPatternsModel" b_M_findException 5 (some .int) [] G A) (v0 : Nat) (w : hy_W) (nx : hy_N) (h : sg_M_findException_0 v0 w = some nx) (K : hy_Nx lay_M_findException p l e (hy_rm 0 0 w0) s m args below meth c 5 G A ad0 w0.1.length (hy_Q below G ad0 w0 o args s) o nx) : hy_At lay_M_findException p l e (hy_rm 0 0 w0) s m args below meth c 5 G A ad0 w0.1.length (hy_Q below G ad0 w0 o args s) (0, [.ref v0], w) := by
  intro ad H locs cells slots ls S hok hl
  have hx := B.1
  have hb := B.2.1
  dsimp only at S hok
  have hl : lv_has ls 5 [(0, .ref (ad v0))] := hl
  show W p l e (hy_rm 0 0 w0) s m args below meth c H locs cells slots (hy_Q below G ad0 w0 o args s) (F0 m 0 ls [])
  have hv_v0 : v0 < w.1.length := hok (.ref v0) (List.mem_of_getElem? (i := 0) rfl) v0 rfl
  obtain ⟨a_v0, ha_v0⟩ : ∃ a, ad v0 = a := ⟨_, rfl⟩
  rw [ha_v0] at hl
  unfold sg_M_findException_0 at h
  refine lv_iconst (v := (-1)) hx hb d_M_findException_0 (by decide) ?_
  refine lv_istore_n (lv' := [(1, .int (-1)), (0, .ref a_v0)]) hx hb d_M_findException_1 rfl hl (Nat.le_of_ble_eq_true rfl) rfl (fun ls hl => ?_)
  refine lv_iconst (v := 0) hx hb d_M_findException_2 (by decide) ?_
  refine lv_istore_n (lv' := [(2, .int 0), (1, .int (-1)), (0, .ref a_v0)]) hx hb d_M_findException_3 rfl hl (Nat.le_of_ble_eq_true rfl) rfl (fun ls hl => ?_)
  cases h
  exact hy_jump K S (hy_okr (by omega) (hy_oki (hy_oki hy_ok0))) (lv_sub hl [2, 1, 0] rfl) (by subst ha_v0; rfl) (by subst ha_v0; rfl)
set_option maxHeartbeats 4000000 in
set_option maxRecDepth 100000 in
theorem sk_M_findException_4 {p : Program} {l : Launch} {e : Env} {s : State} {m : MethodId} {args : Array Value} {below : List Frame} {meth : Method} {c : Code} {G : hy_G} {A : Nat → Prop} {ad0 : Nat → Nat} {w0 : hy_W} {o : hy_O} (hl9 : l.flags = flags0) (hA : hy_A G ad0 w0 s.heap.size = A) (B : hy_B p l e (hy_rm 0 0 w0) s m args below meth c "HyphenPatternsModel" b_M_findException 5 (some .int) [] G A) (v0 : Nat) (v1 : Int32) (v2 : Int32) (w : hy_W) (nx : hy_N) (h : sg_M_findException_4 v0 v1 v2 w = some nx) (K : hy_Nx lay_M_findException p l e (hy_rm 0 0 w0) s m args below meth c 5 G A ad0 w0.1.length (hy_Q below G ad0 w0 o args s) o nx) : hy_At lay_M_findException p l e (hy_rm 0 0 w0) s m args below meth c 5 G A ad0 w0.1.length (hy_Q below G ad0 w0 o args s) (4, [.ref v0, .int v1, .int v2], w) := by
  intro ad H locs cells slots ls S hok hl
  have hx := B.1
  have hb := B.2.1
  dsimp only at S hok
  have hl : lv_has ls 5 [(0, .ref (ad v0)), (1, .int v1), (2, .int v2)] := hl
  show W p l e (hy_rm 0 0 w0) s m args below meth c H locs cells slots (hy_Q below G ad0 w0 o args s) (F0 m 4 ls [])
  have hv_v0 : v0 < w.1.length := hok (.ref v0) (List.mem_of_getElem? (i := 0) rfl) v0 rfl
  obtain ⟨a_v0, ha_v0⟩ : ∃ a, ad v0 = a := ⟨_, rfl⟩
  rw [ha_v0] at hl
  unfold sg_M_findException_4 at h
  refine lv_iload_n hx hb d_M_findException_4 rfl (lv_at hl 2 rfl) ?_
  refine lv_aload_n hx hb d_M_findException_5 rfl (lv_at hl 0 rfl) ?_
  obtain ⟨x1, hx1, h⟩ := hy_bd h
  refine hy_geti B S ha_v0 hx1 rfl (Nat.le_of_ble_eq_true rfl) i_6 (j := 19) tw_669 (fun _ h => h) d_M_findException_6 ?_
  refine lv_icmp_ge (tgt := 110) hx hb d_M_findException_9 (by decide) (fun c2 => ?_) (fun c2 => ?_)
  · rw [if_pos c2] at h
    refine lv_iload_n hx hb d_M_findException_110 rfl (lv_at hl 1 rfl) ?_
    cases h
    cases K
    exact hy_iret hA B S d_M_findException_111
  · rw [if_neg c2] at h
    refine lv_aload_n hx hb d_M_findException_12 rfl (lv_at hl 0 rfl) ?_
    obtain ⟨r3, hr3, h⟩ := hy_bd h
    refine hy_getr B S ha_v0 hr3 rfl (Nat.le_of_ble_eq_true rfl) i_6 (j := 20) tw_670 (fun _ h => h) d_M_findException_13 (fun a_r3 ha_r3 hv_r3 => ?_)
    refine lv_iload_n hx hb d_M_findException_16 rfl (lv_at hl 2 rfl) ?_
    obtain ⟨x4, hx4, h⟩ := hy_bd h
    refine hy_iald B S ha_r3 hx4 d_M_findException_17 ?_
    refine lv_aload_n hx hb d_M_findException_18 rfl (lv_at hl 0 rfl) ?_
    obtain ⟨x5, hx5, h⟩ := hy_bd h
    refine hy_geti B S ha_v0 hx5 rfl (Nat.le_of_ble_eq_true rfl) i_6 (j := 1) tw_651 (fun _ h => h) d_M_findException_19 ?_
    refine lv_icmp_ne (tgt := 42) hx hb d_M_findException_22 (by decide) (fun c6 => ?_) (fun c6 => ?_)
    · rw [if_neg c6] at h
      cases h
      exact hy_jump K S (hy_okr (by omega) (hy_oki (hy_oki hy_ok0))) (lv_sub hl [0, 1, 2] rfl) (by subst ha_v0; rfl) (by subst ha_v0; rfl)
    · rw [if_pos c6] at h
      refine lv_aload_n hx hb d_M_findException_25 rfl (lv_at hl 0 rfl) ?_
      obtain ⟨r7, hr7, h⟩ := hy_bd h
      refine hy_getr B S ha_v0 hr7 rfl (Nat.le_of_ble_eq_true rfl) i_6 (j := 21) tw_671 (fun _ h => h) d_M_findException_26 (fun a_r7 ha_r7 hv_r7 => ?_)
      refine lv_iload_n hx hb d_M_findException_29 rfl (lv_at hl 2 rfl) ?_
      obtain ⟨x8, hx8, h⟩ := hy_bd h
      refine hy_iald B S ha_r7 hx8 d_M_findException_30 ?_
      refine lv_aload_n hx hb d_M_findException_31 rfl (lv_at hl 0 rfl) ?_
      obtain ⟨x9, hx9, h⟩ := hy_bd h
      refine hy_geti B S ha_v0 hx9 rfl (Nat.le_of_ble_eq_true rfl) i_6 (j := 11) tw_661 (fun _ h => h) d_M_findException_32 ?_
      refine lv_icmp_ne (tgt := 42) hx hb d_M_findException_35 (by decide) (fun c10 => ?_) (fun c10 => ?_)
      · rw [if_neg c10] at h
        cases h
        exact hy_jump K S (hy_okr (by omega) (hy_oki (hy_oki hy_ok0))) (lv_sub hl [0, 1, 2] rfl) (by subst ha_v0; rfl) (by subst ha_v0; rfl)
      · rw [if_pos c10] at h
        refine lv_iconst (v := 1) hx hb d_M_findException_38 (by decide) ?_
        refine lv_goto (tgt := 43) hx hb d_M_findException_39 (by decide) ?_
        cases h
        exact hy_jump K S (hy_okr (by omega) (hy_oki (hy_oki (hy_oki hy_ok0)))) (lv_sub hl [0, 1, 2] rfl) (by subst ha_v0; rfl) (by subst ha_v0; rfl)
set_option maxHeartbeats 4000000 in
set_option maxRecDepth 100000 in
theorem sk_M_findException_42 {p : Program} {l : Launch} {e : Env} {s : State} {m : MethodId} {args : Array Value} {below : List Frame} {meth : Method} {c : Code} {G : hy_G} {A : Nat → Prop} {ad0 : Nat → Nat} {w0 : hy_W} {o : hy_O} (hl9 : l.flags = flags0) (hA : hy_A G ad0 w0 s.heap.size = A) (B : hy_B p l e (hy_rm 0 0 w0) s m args below meth c "HyphenPatternsModel" b_M_findException 5 (some .int) [] G A) (v0 : Nat) (v1 : Int32) (v2 : Int32) (w : hy_W) (nx : hy_N) (h : sg_M_findException_42 v0 v1 v2 w = some nx) (K : hy_Nx lay_M_findException p l e (hy_rm 0 0 w0) s m args below meth c 5 G A ad0 w0.1.length (hy_Q below G ad0 w0 o args s) o nx) : hy_At lay_M_findException p l e (hy_rm 0 0 w0) s m args below meth c 5 G A ad0 w0.1.length (hy_Q below G ad0 w0 o args s) (42, [.ref v0, .int v1, .int v2], w) := by
  intro ad H locs cells slots ls S hok hl
  have hx := B.1
  have hb := B.2.1
  dsimp only at S hok
  have hl : lv_has ls 5 [(0, .ref (ad v0)), (1, .int v1), (2, .int v2)] := hl
  show W p l e (hy_rm 0 0 w0) s m args below meth c H locs cells slots (hy_Q below G ad0 w0 o args s) (F0 m 42 ls [])
  have hv_v0 : v0 < w.1.length := hok (.ref v0) (List.mem_of_getElem? (i := 0) rfl) v0 rfl
  obtain ⟨a_v0, ha_v0⟩ : ∃ a, ad v0 = a := ⟨_, rfl⟩
  rw [ha_v0] at hl
  unfold sg_M_findException_42 at h
  refine lv_iconst (v := 0) hx hb d_M_findException_42 (by decide) ?_
  cases h
  exact hy_jump K S (hy_okr (by omega) (hy_oki (hy_oki (hy_oki hy_ok0)))) (lv_sub hl [0, 1, 2] rfl) (by subst ha_v0; rfl) (by subst ha_v0; rfl)
set_option maxHeartbeats 4000000 in
set_option maxRecDepth 100000 in
theorem sk_M_findException_43 {p : Program} {l : Launch} {e : Env} {s : State} {m : MethodId} {args : Array Value} {below : List Frame} {meth : Method} {c : Code} {G : hy_G} {A : Nat → Prop} {ad0 : Nat → Nat} {w0 : hy_W} {o : hy_O} (hl9 : l.flags = flags0) (hA : hy_A G ad0 w0 s.heap.size = A) (B : hy_B p l e (hy_rm 0 0 w0) s m args below meth c "HyphenPatternsModel" b_M_findException 5 (some .int) [] G A) (v0 : Nat) (v1 : Int32) (v2 : Int32) (s0 : Int32) (w : hy_W) (nx : hy_N) (h : sg_M_findException_43 v0 v1 v2 s0 w = some nx) (K : hy_Nx lay_M_findException p l e (hy_rm 0 0 w0) s m args below meth c 5 G A ad0 w0.1.length (hy_Q below G ad0 w0 o args s) o nx) : hy_At lay_M_findException p l e (hy_rm 0 0 w0) s m args below meth c 5 G A ad0 w0.1.length (hy_Q below G ad0 w0 o args s) (43, [.ref v0, .int v1, .int v2, .int s0], w) := by
  intro ad H locs cells slots ls S hok hl
  have hx := B.1
  have hb := B.2.1
  dsimp only at S hok
  have hl : lv_has ls 5 [(0, .ref (ad v0)), (1, .int v1), (2, .int v2)] := hl
  show W p l e (hy_rm 0 0 w0) s m args below meth c H locs cells slots (hy_Q below G ad0 w0 o args s) (F0 m 43 ls [.int s0])
  have hv_v0 : v0 < w.1.length := hok (.ref v0) (List.mem_of_getElem? (i := 0) rfl) v0 rfl
  obtain ⟨a_v0, ha_v0⟩ : ∃ a, ad v0 = a := ⟨_, rfl⟩
  rw [ha_v0] at hl
  unfold sg_M_findException_43 at h
  refine lv_istore_n (lv' := [(3, .int s0), (0, .ref a_v0), (1, .int v1), (2, .int v2)]) hx hb d_M_findException_43 rfl hl (Nat.le_of_ble_eq_true rfl) rfl (fun ls hl => ?_)
  refine lv_iconst (v := 0) hx hb d_M_findException_44 (by decide) ?_
  refine lv_istore (lv' := [(4, .int 0), (3, .int s0), (0, .ref a_v0), (1, .int v1), (2, .int v2)]) hx hb d_M_findException_45 hl (Nat.le_of_ble_eq_true rfl) rfl (fun ls hl => ?_)
  cases h
  exact hy_jump K S (hy_okr (by omega) (hy_oki (hy_oki (hy_oki (hy_oki hy_ok0))))) (lv_sub hl [2, 3, 4, 1, 0] rfl) (by subst ha_v0; rfl) (by subst ha_v0; rfl)
set_option maxHeartbeats 4000000 in
set_option maxRecDepth 100000 in
theorem sk_M_findException_47 {p : Program} {l : Launch} {e : Env} {s : State} {m : MethodId} {args : Array Value} {below : List Frame} {meth : Method} {c : Code} {G : hy_G} {A : Nat → Prop} {ad0 : Nat → Nat} {w0 : hy_W} {o : hy_O} (hl9 : l.flags = flags0) (hA : hy_A G ad0 w0 s.heap.size = A) (B : hy_B p l e (hy_rm 0 0 w0) s m args below meth c "HyphenPatternsModel" b_M_findException 5 (some .int) [] G A) (v0 : Nat) (v1 : Int32) (v2 : Int32) (v3 : Int32) (v4 : Int32) (w : hy_W) (nx : hy_N) (h : sg_M_findException_47 v0 v1 v2 v3 v4 w = some nx) (K : hy_Nx lay_M_findException p l e (hy_rm 0 0 w0) s m args below meth c 5 G A ad0 w0.1.length (hy_Q below G ad0 w0 o args s) o nx) : hy_At lay_M_findException p l e (hy_rm 0 0 w0) s m args below meth c 5 G A ad0 w0.1.length (hy_Q below G ad0 w0 o args s) (47, [.ref v0, .int v1, .int v2, .int v3, .int v4], w) := by
  intro ad H locs cells slots ls S hok hl
  have hx := B.1
  have hb := B.2.1
  dsimp only at S hok
  have hl : lv_has ls 5 [(0, .ref (ad v0)), (1, .int v1), (2, .int v2), (3, .int v3), (4, .int v4)] := hl
  show W p l e (hy_rm 0 0 w0) s m args below meth c H locs cells slots (hy_Q below G ad0 w0 o args s) (F0 m 47 ls [])
  have hv_v0 : v0 < w.1.length := hok (.ref v0) (List.mem_of_getElem? (i := 0) rfl) v0 rfl
  obtain ⟨a_v0, ha_v0⟩ : ∃ a, ad v0 = a := ⟨_, rfl⟩
  rw [ha_v0] at hl
  unfold sg_M_findException_47 at h
  refine lv_iload hx hb d_M_findException_47 (lv_at hl 4 rfl) ?_
  refine lv_aload_n hx hb d_M_findException_49 rfl (lv_at hl 0 rfl) ?_
  obtain ⟨x1, hx1, h⟩ := hy_bd h
  refine hy_geti B S ha_v0 hx1 rfl (Nat.le_of_ble_eq_true rfl) i_6 (j := 11) tw_661 (fun _ h => h) d_M_findException_50 ?_
  refine lv_icmp_ge (tgt := 94) hx hb d_M_findException_53 (by decide) (fun c2 => ?_) (fun c2 => ?_)
  · rw [if_pos c2] at h
    cases h
    exact hy_jump K S (hy_okr (by omega) (hy_oki (hy_oki (hy_oki hy_ok0)))) (lv_sub hl [0, 1, 2, 3] rfl) (by subst ha_v0; rfl) (by subst ha_v0; rfl)
  · rw [if_neg c2] at h
    refine lv_iload_n hx hb d_M_findException_56 rfl (lv_at hl 3 rfl) ?_
    refine lv_if_eq (tgt := 94) hx hb d_M_findException_57 (by decide) (fun c3 => ?_) (fun c3 => ?_)
    · rw [if_pos c3] at h
      cases h
      exact hy_jump K S (hy_okr (by omega) (hy_oki (hy_oki (hy_oki hy_ok0)))) (lv_sub hl [0, 1, 2, 3] rfl) (by subst ha_v0; rfl) (by subst ha_v0; rfl)
    · rw [if_neg c3] at h
      refine lv_aload_n hx hb d_M_findException_60 rfl (lv_at hl 0 rfl) ?_
      obtain ⟨r4, hr4, h⟩ := hy_bd h
      refine hy_getr B S ha_v0 hr4 rfl (Nat.le_of_ble_eq_true rfl) i_6 (j := 22) tw_672 (fun _ h => h) d_M_findException_61 (fun a_r4 ha_r4 hv_r4 => ?_)
      refine lv_bipush (v := 40) hx hb d_M_findException_64 (by decide) ?_
      refine lv_iload_n hx hb d_M_findException_66 rfl (lv_at hl 2 rfl) ?_
      refine lv_imul hx hb d_M_findException_67 ?_
      refine lv_iload hx hb d_M_findException_68 (lv_at hl 4 rfl) ?_
      refine lv_iadd hx hb d_M_findException_70 ?_
      obtain ⟨x5, hx5, h⟩ := hy_bd h
      refine hy_iald B S ha_r4 hx5 d_M_findException_71 ?_
      refine lv_aload_n hx hb d_M_findException_72 rfl (lv_at hl 0 rfl) ?_
      obtain ⟨r6, hr6, h⟩ := hy_bd h
      refine hy_getr B S ha_v0 hr6 rfl (Nat.le_of_ble_eq_true rfl) i_6 (j := 12) tw_662 (fun _ h => h) d_M_findException_73 (fun a_r6 ha_r6 hv_r6 => ?_)
      refine lv_iload hx hb d_M_findException_76 (lv_at hl 4 rfl) ?_
      obtain ⟨x7, hx7, h⟩ := hy_bd h
      refine hy_iald B S ha_r6 hx7 d_M_findException_78 ?_
      refine lv_icmp_ne (tgt := 86) hx hb d_M_findException_79 (by decide) (fun c8 => ?_) (fun c8 => ?_)
      · rw [if_neg c8] at h
        refine lv_iconst (v := 0) hx hb d_M_findException_86 (by decide) ?_
        cases h
        exact hy_jump K S (hy_okr (by omega) (hy_oki (hy_oki (hy_oki (hy_oki hy_ok0))))) (lv_sub hl [0, 1, 2, 4] rfl) (by subst ha_v0; rfl) (by subst ha_v0; rfl)
      · rw [if_pos c8] at h
        refine lv_iconst (v := 1) hx hb d_M_findException_82 (by decide) ?_
        refine lv_goto (tgt := 87) hx hb d_M_findException_83 (by decide) ?_
        cases h
        exact hy_jump K S (hy_okr (by omega) (hy_oki (hy_oki (hy_oki (hy_oki hy_ok0))))) (lv_sub hl [0, 1, 2, 4] rfl) (by subst ha_v0; rfl) (by subst ha_v0; rfl)
set_option maxHeartbeats 4000000 in
set_option maxRecDepth 100000 in
theorem sk_M_findException_87 {p : Program} {l : Launch} {e : Env} {s : State} {m : MethodId} {args : Array Value} {below : List Frame} {meth : Method} {c : Code} {G : hy_G} {A : Nat → Prop} {ad0 : Nat → Nat} {w0 : hy_W} {o : hy_O} (hl9 : l.flags = flags0) (hA : hy_A G ad0 w0 s.heap.size = A) (B : hy_B p l e (hy_rm 0 0 w0) s m args below meth c "HyphenPatternsModel" b_M_findException 5 (some .int) [] G A) (v0 : Nat) (v1 : Int32) (v2 : Int32) (v4 : Int32) (s0 : Int32) (w : hy_W) (nx : hy_N) (h : sg_M_findException_87 v0 v1 v2 v4 s0 w = some nx) (K : hy_Nx lay_M_findException p l e (hy_rm 0 0 w0) s m args below meth c 5 G A ad0 w0.1.length (hy_Q below G ad0 w0 o args s) o nx) : hy_At lay_M_findException p l e (hy_rm 0 0 w0) s m args below meth c 5 G A ad0 w0.1.length (hy_Q below G ad0 w0 o args s) (87, [.ref v0, .int v1, .int v2, .int v4, .int s0], w) := by
  intro ad H locs cells slots ls S hok hl
  have hx := B.1
  have hb := B.2.1
  dsimp only at S hok
  have hl : lv_has ls 5 [(0, .ref (ad v0)), (1, .int v1), (2, .int v2), (4, .int v4)] := hl
  show W p l e (hy_rm 0 0 w0) s m args below meth c H locs cells slots (hy_Q below G ad0 w0 o args s) (F0 m 87 ls [.int s0])
  have hv_v0 : v0 < w.1.length := hok (.ref v0) (List.mem_of_getElem? (i := 0) rfl) v0 rfl
  obtain ⟨a_v0, ha_v0⟩ : ∃ a, ad v0 = a := ⟨_, rfl⟩
  rw [ha_v0] at hl
  unfold sg_M_findException_87 at h
  refine lv_istore_n (lv' := [(3, .int s0), (0, .ref a_v0), (1, .int v1), (2, .int v2), (4, .int v4)]) hx hb d_M_findException_87 rfl hl (Nat.le_of_ble_eq_true rfl) rfl (fun ls hl => ?_)
  refine lv_iinc (v := (v4 + 1)) (lv' := [(4, .int (v4 + 1)), (3, .int s0), (0, .ref a_v0), (1, .int v1), (2, .int v2)]) hx hb d_M_findException_88 hl (k := 4) rfl rfl (Nat.le_of_ble_eq_true rfl) rfl (fun ls hl => ?_)
  refine lv_goto (tgt := 47) hx hb d_M_findException_91 (by decide) ?_
  cases h
  exact hy_jump K S (hy_okr (by omega) (hy_oki (hy_oki (hy_oki (hy_oki hy_ok0))))) (lv_sub hl [2, 3, 4, 1, 0] rfl) (by subst ha_v0; rfl) (by subst ha_v0; rfl)
set_option maxHeartbeats 4000000 in
set_option maxRecDepth 100000 in
theorem sk_M_findException_94 {p : Program} {l : Launch} {e : Env} {s : State} {m : MethodId} {args : Array Value} {below : List Frame} {meth : Method} {c : Code} {G : hy_G} {A : Nat → Prop} {ad0 : Nat → Nat} {w0 : hy_W} {o : hy_O} (hl9 : l.flags = flags0) (hA : hy_A G ad0 w0 s.heap.size = A) (B : hy_B p l e (hy_rm 0 0 w0) s m args below meth c "HyphenPatternsModel" b_M_findException 5 (some .int) [] G A) (v0 : Nat) (v1 : Int32) (v2 : Int32) (v3 : Int32) (w : hy_W) (nx : hy_N) (h : sg_M_findException_94 v0 v1 v2 v3 w = some nx) (K : hy_Nx lay_M_findException p l e (hy_rm 0 0 w0) s m args below meth c 5 G A ad0 w0.1.length (hy_Q below G ad0 w0 o args s) o nx) : hy_At lay_M_findException p l e (hy_rm 0 0 w0) s m args below meth c 5 G A ad0 w0.1.length (hy_Q below G ad0 w0 o args s) (94, [.ref v0, .int v1, .int v2, .int v3], w) := by
  intro ad H locs cells slots ls S hok hl
  have hx := B.1
  have hb := B.2.1
  dsimp only at S hok
  have hl : lv_has ls 5 [(0, .ref (ad v0)), (1, .int v1), (2, .int v2), (3, .int v3)] := hl
  show W p l e (hy_rm 0 0 w0) s m args below meth c H locs cells slots (hy_Q below G ad0 w0 o args s) (F0 m 94 ls [])
  have hv_v0 : v0 < w.1.length := hok (.ref v0) (List.mem_of_getElem? (i := 0) rfl) v0 rfl
  obtain ⟨a_v0, ha_v0⟩ : ∃ a, ad v0 = a := ⟨_, rfl⟩
  rw [ha_v0] at hl
  unfold sg_M_findException_94 at h
  refine lv_iload_n hx hb d_M_findException_94 rfl (lv_at hl 3 rfl) ?_
  refine lv_if_eq (tgt := 102) hx hb d_M_findException_95 (by decide) (fun c1 => ?_) (fun c1 => ?_)
  · rw [if_pos c1] at h
    refine lv_iload_n hx hb d_M_findException_102 rfl (lv_at hl 1 rfl) ?_
    cases h
    exact hy_jump K S (hy_okr (by omega) (hy_oki (hy_oki hy_ok0))) (lv_sub hl [0, 2] rfl) (by subst ha_v0; rfl) (by subst ha_v0; rfl)
  · rw [if_neg c1] at h
    refine lv_iload_n hx hb d_M_findException_98 rfl (lv_at hl 2 rfl) ?_
    refine lv_goto (tgt := 103) hx hb d_M_findException_99 (by decide) ?_
    cases h
    exact hy_jump K S (hy_okr (by omega) (hy_oki (hy_oki hy_ok0))) (lv_sub hl [0, 2] rfl) (by subst ha_v0; rfl) (by subst ha_v0; rfl)
set_option maxHeartbeats 4000000 in
set_option maxRecDepth 100000 in
theorem sk_M_findException_103 {p : Program} {l : Launch} {e : Env} {s : State} {m : MethodId} {args : Array Value} {below : List Frame} {meth : Method} {c : Code} {G : hy_G} {A : Nat → Prop} {ad0 : Nat → Nat} {w0 : hy_W} {o : hy_O} (hl9 : l.flags = flags0) (hA : hy_A G ad0 w0 s.heap.size = A) (B : hy_B p l e (hy_rm 0 0 w0) s m args below meth c "HyphenPatternsModel" b_M_findException 5 (some .int) [] G A) (v0 : Nat) (v2 : Int32) (s0 : Int32) (w : hy_W) (nx : hy_N) (h : sg_M_findException_103 v0 v2 s0 w = some nx) (K : hy_Nx lay_M_findException p l e (hy_rm 0 0 w0) s m args below meth c 5 G A ad0 w0.1.length (hy_Q below G ad0 w0 o args s) o nx) : hy_At lay_M_findException p l e (hy_rm 0 0 w0) s m args below meth c 5 G A ad0 w0.1.length (hy_Q below G ad0 w0 o args s) (103, [.ref v0, .int v2, .int s0], w) := by
  intro ad H locs cells slots ls S hok hl
  have hx := B.1
  have hb := B.2.1
  dsimp only at S hok
  have hl : lv_has ls 5 [(0, .ref (ad v0)), (2, .int v2)] := hl
  show W p l e (hy_rm 0 0 w0) s m args below meth c H locs cells slots (hy_Q below G ad0 w0 o args s) (F0 m 103 ls [.int s0])
  have hv_v0 : v0 < w.1.length := hok (.ref v0) (List.mem_of_getElem? (i := 0) rfl) v0 rfl
  obtain ⟨a_v0, ha_v0⟩ : ∃ a, ad v0 = a := ⟨_, rfl⟩
  rw [ha_v0] at hl
  unfold sg_M_findException_103 at h
  refine lv_istore_n (lv' := [(1, .int s0), (0, .ref a_v0), (2, .int v2)]) hx hb d_M_findException_103 rfl hl (Nat.le_of_ble_eq_true rfl) rfl (fun ls hl => ?_)
  refine lv_iinc (v := (v2 + 1)) (lv' := [(2, .int (v2 + 1)), (1, .int s0), (0, .ref a_v0)]) hx hb d_M_findException_104 hl (k := 2) rfl rfl (Nat.le_of_ble_eq_true rfl) rfl (fun ls hl => ?_)
  refine lv_goto (tgt := 4) hx hb d_M_findException_107 (by decide) ?_
  cases h
  exact hy_jump K S (hy_okr (by omega) (hy_oki (hy_oki hy_ok0))) (lv_sub hl [2, 1, 0] rfl) (by subst ha_v0; rfl) (by subst ha_v0; rfl)
theorem nk_M_findException {p : Program} {l : Launch} {e : Env} {s : State} {m : MethodId} {args : Array Value} {below : List Frame} {meth : Method} {c : Code} {G : hy_G} {A : Nat → Prop} {ad0 : Nat → Nat} {w0 : hy_W} {o : hy_O} (hl9 : l.flags = flags0) (hA : hy_A G ad0 w0 s.heap.size = A) (B : hy_B p l e (hy_rm 0 0 w0) s m args below meth c "HyphenPatternsModel" b_M_findException 5 (some .int) [] G A) (q : hy_P) (nx : hy_N) (hq : nx_M_findException q = some nx) (K : hy_Nx lay_M_findException p l e (hy_rm 0 0 w0) s m args below meth c 5 G A ad0 w0.1.length (hy_Q below G ad0 w0 o args s) o nx) : hy_At lay_M_findException p l e (hy_rm 0 0 w0) s m args below meth c 5 G A ad0 w0.1.length (hy_Q below G ad0 w0 o args s) q := by
  unfold nx_M_findException at hq
  split at hq
  · exact sk_M_findException_0 hl9 hA B _ _ nx hq K
  · exact sk_M_findException_4 hl9 hA B _ _ _ _ nx hq K
  · exact sk_M_findException_42 hl9 hA B _ _ _ _ nx hq K
  · exact sk_M_findException_43 hl9 hA B _ _ _ _ _ nx hq K
  · exact sk_M_findException_47 hl9 hA B _ _ _ _ _ _ nx hq K
  · exact sk_M_findException_87 hl9 hA B _ _ _ _ _ _ nx hq K
  · exact sk_M_findException_94 hl9 hA B _ _ _ _ _ nx hq K
  · exact sk_M_findException_103 hl9 hA B _ _ _ _ nx hq K
  · cases hq
theorem c_M_findException {l : Launch} (hl9 : l.flags = flags0) (G : hy_G) (ad : Nat → Nat) {v0 : Nat} {w : hy_W} {o : hy_O} (h : f_M_findException [.ref v0] w = some o) : hy_M l y_M_findException (Cond.code y_M_findException b_M_findException 5 (some .int) :: hy_T) 0 0 G ad [.ref v0] w o := by
  obtain ⟨n, hn⟩ := hy_fx_iff.mp h
  refine hy_ofW hl9 (by decide +kernel) (Nat.le_of_ble_eq_true rfl) (fun p e s m args below meth c A hA hi B S hok ls hl => ?_)
  exact hy_loop (nk_M_findException hl9 hA B) n _ hn ad s.heap [] 0 0 ls S hok hl
theorem d_M_exception_0 : decode b_M_exception 0 = .ok (.aload_n 0, 1) := by decide +kernel
theorem d_M_exception_1 : decode b_M_exception 1 = .ok (.invokevirtual 118, 3) := by decide +kernel
theorem d_M_exception_4 : decode b_M_exception 4 = .ok (.istore_n 1, 1) := by decide +kernel
theorem d_M_exception_5 : decode b_M_exception 5 = .ok (.iload_n 1, 1) := by decide +kernel
theorem d_M_exception_6 : decode b_M_exception 6 = .ok (.ifCond .eq 10, 3) := by decide +kernel
theorem d_M_exception_9 : decode b_M_exception 9 = .ok (.aload_n 0, 1) := by decide +kernel
theorem d_M_exception_10 : decode b_M_exception 10 = .ok (.invokevirtual 121, 3) := by decide +kernel
theorem d_M_exception_13 : decode b_M_exception 13 = .ok (.goto 4, 3) := by decide +kernel
theorem d_M_exception_16 : decode b_M_exception 16 = .ok (.iconst (-1), 1) := by decide +kernel
theorem d_M_exception_17 : decode b_M_exception 17 = .ok (.istore_n 2, 1) := by decide +kernel
theorem d_M_exception_18 : decode b_M_exception 18 = .ok (.aload_n 0, 1) := by decide +kernel
theorem d_M_exception_19 : decode b_M_exception 19 = .ok (.iload_n 1, 1) := by decide +kernel
theorem d_M_exception_20 : decode b_M_exception 20 = .ok (.ifCond .ne 7, 3) := by decide +kernel
theorem d_M_exception_23 : decode b_M_exception 23 = .ok (.iconst 1, 1) := by decide +kernel
theorem d_M_exception_24 : decode b_M_exception 24 = .ok (.goto 21, 3) := by decide +kernel
theorem d_M_exception_27 : decode b_M_exception 27 = .ok (.iload_n 2, 1) := by decide +kernel
theorem d_M_exception_28 : decode b_M_exception 28 = .ok (.ifCond .ge 16, 3) := by decide +kernel
theorem d_M_exception_31 : decode b_M_exception 31 = .ok (.aload_n 0, 1) := by decide +kernel
theorem d_M_exception_32 : decode b_M_exception 32 = .ok (.getfield 115, 3) := by decide +kernel
theorem d_M_exception_35 : decode b_M_exception 35 = .ok (.bipush 40, 2) := by decide +kernel
theorem d_M_exception_37 : decode b_M_exception 37 = .ok (.if_icmp .ne 7, 3) := by decide +kernel
theorem d_M_exception_40 : decode b_M_exception 40 = .ok (.iconst 2, 1) := by decide +kernel
theorem d_M_exception_41 : decode b_M_exception 41 = .ok (.goto 4, 3) := by decide +kernel
theorem d_M_exception_44 : decode b_M_exception 44 = .ok (.iconst 0, 1) := by decide +kernel
theorem d_M_exception_45 : decode b_M_exception 45 = .ok (.invokevirtual 72, 3) := by decide +kernel
theorem d_M_exception_48 : decode b_M_exception 48 = .ok (.ifCond .eq 5, 3) := by decide +kernel
theorem d_M_exception_51 : decode b_M_exception 51 = .ok (.iconst 0, 1) := by decide +kernel
theorem d_M_exception_52 : decode b_M_exception 52 = .ok (.ireturn, 1) := by decide +kernel
theorem d_M_exception_53 : decode b_M_exception 53 = .ok (.iload_n 2, 1) := by decide +kernel
theorem d_M_exception_54 : decode b_M_exception 54 = .ok (.ifCond .ge 18, 3) := by decide +kernel
theorem d_M_exception_57 : decode b_M_exception 57 = .ok (.aload_n 0, 1) := by decide +kernel
theorem d_M_exception_58 : decode b_M_exception 58 = .ok (.getfield 115, 3) := by decide +kernel
theorem d_M_exception_61 : decode b_M_exception 61 = .ok (.istore_n 2, 1) := by decide +kernel
theorem d_M_exception_62 : decode b_M_exception 62 = .ok (.aload_n 0, 1) := by decide +kernel
theorem d_M_exception_63 : decode b_M_exception 63 = .ok (.dup, 1) := by decide +kernel
theorem d_M_exception_64 : decode b_M_exception 64 = .ok (.getfield 115, 3) := by decide +kernel
theorem d_M_exception_67 : decode b_M_exception 67 = .ok (.iconst 1, 1) := by decide +kernel
theorem d_M_exception_68 : decode b_M_exception 68 = .ok (.iadd, 1) := by decide +kernel
theorem d_M_exception_69 : decode b_M_exception 69 = .ok (.putfield 115, 3) := by decide +kernel
theorem d_M_exception_72 : decode b_M_exception 72 = .ok (.aload_n 0, 1) := by decide +kernel
theorem d_M_exception_73 : decode b_M_exception 73 = .ok (.getfield 52, 3) := by decide +kernel
theorem d_M_exception_76 : decode b_M_exception 76 = .ok (.iload_n 2, 1) := by decide +kernel
theorem d_M_exception_77 : decode b_M_exception 77 = .ok (.aload_n 0, 1) := by decide +kernel
theorem d_M_exception_78 : decode b_M_exception 78 = .ok (.getfield 76, 3) := by decide +kernel
theorem d_M_exception_81 : decode b_M_exception 81 = .ok (.iastore, 1) := by decide +kernel
theorem d_M_exception_82 : decode b_M_exception 82 = .ok (.aload_n 0, 1) := by decide +kernel
theorem d_M_exception_83 : decode b_M_exception 83 = .ok (.getfield 55, 3) := by decide +kernel
theorem d_M_exception_86 : decode b_M_exception 86 = .ok (.iload_n 2, 1) := by decide +kernel
theorem d_M_exception_87 : decode b_M_exception 87 = .ok (.aload_n 0, 1) := by decide +kernel
theorem d_M_exception_88 : decode b_M_exception 88 = .ok (.getfield 99, 3) := by decide +kernel
theorem d_M_exception_91 : decode b_M_exception 91 = .ok (.iastore, 1) := by decide +kernel
theorem d_M_exception_92 : decode b_M_exception 92 = .ok (.iconst 0, 1) := by decide +kernel
theorem d_M_exception_93 : decode b_M_exception 93 = .ok (.istore_n 3, 1) := by decide +kernel
theorem d_M_exception_94 : decode b_M_exception 94 = .ok (.iload_n 3, 1) := by decide +kernel
theorem d_M_exception_95 : decode b_M_exception 95 = .ok (.aload_n 0, 1) := by decide +kernel
theorem d_M_exception_96 : decode b_M_exception 96 = .ok (.getfield 99, 3) := by decide +kernel
theorem d_M_exception_99 : decode b_M_exception 99 = .ok (.if_icmp .ge 26, 3) := by decide +kernel
theorem d_M_exception_102 : decode b_M_exception 102 = .ok (.aload_n 0, 1) := by decide +kernel
theorem d_M_exception_103 : decode b_M_exception 103 = .ok (.getfield 58, 3) := by decide +kernel
theorem d_M_exception_106 : decode b_M_exception 106 = .ok (.bipush 40, 2) := by decide +kernel
theorem d_M_exception_108 : decode b_M_exception 108 = .ok (.iload_n 2, 1) := by decide +kernel
theorem d_M_exception_109 : decode b_M_exception 109 = .ok (.imul, 1) := by decide +kernel
theorem d_M_exception_110 : decode b_M_exception 110 = .ok (.iload_n 3, 1) := by decide +kernel
theorem d_M_exception_111 : decode b_M_exception 111 = .ok (.iadd, 1) := by decide +kernel
theorem d_M_exception_112 : decode b_M_exception 112 = .ok (.aload_n 0, 1) := by decide +kernel
theorem d_M_exception_113 : decode b_M_exception 113 = .ok (.getfield 34, 3) := by decide +kernel
theorem d_M_exception_116 : decode b_M_exception 116 = .ok (.iload_n 3, 1) := by decide +kernel
theorem d_M_exception_117 : decode b_M_exception 117 = .ok (.iaload, 1) := by decide +kernel
theorem d_M_exception_118 : decode b_M_exception 118 = .ok (.iastore, 1) := by decide +kernel
theorem d_M_exception_119 : decode b_M_exception 119 = .ok (.iinc 3 1, 3) := by decide +kernel
theorem d_M_exception_122 : decode b_M_exception 122 = .ok (.goto (-28), 3) := by decide +kernel
theorem d_M_exception_125 : decode b_M_exception 125 = .ok (.iconst 0, 1) := by decide +kernel
theorem d_M_exception_126 : decode b_M_exception 126 = .ok (.istore_n 3, 1) := by decide +kernel
theorem d_M_exception_127 : decode b_M_exception 127 = .ok (.iload_n 3, 1) := by decide +kernel
theorem d_M_exception_128 : decode b_M_exception 128 = .ok (.aload_n 0, 1) := by decide +kernel
theorem d_M_exception_129 : decode b_M_exception 129 = .ok (.getfield 99, 3) := by decide +kernel
theorem d_M_exception_132 : decode b_M_exception 132 = .ok (.if_icmp .gt 36, 3) := by decide +kernel
theorem d_M_exception_135 : decode b_M_exception 135 = .ok (.aload_n 0, 1) := by decide +kernel
theorem d_M_exception_136 : decode b_M_exception 136 = .ok (.getfield 61, 3) := by decide +kernel
theorem d_M_exception_139 : decode b_M_exception 139 = .ok (.bipush 41, 2) := by decide +kernel
theorem d_M_exception_141 : decode b_M_exception 141 = .ok (.iload_n 2, 1) := by decide +kernel
theorem d_M_exception_142 : decode b_M_exception 142 = .ok (.imul, 1) := by decide +kernel
theorem d_M_exception_143 : decode b_M_exception 143 = .ok (.iload_n 3, 1) := by decide +kernel
theorem d_M_exception_144 : decode b_M_exception 144 = .ok (.iadd, 1) := by decide +kernel
theorem d_M_exception_145 : decode b_M_exception 145 = .ok (.aload_n 0, 1) := by decide +kernel
theorem d_M_exception_146 : decode b_M_exception 146 = .ok (.getfield 37, 3) := by decide +kernel
theorem d_M_exception_149 : decode b_M_exception 149 = .ok (.iload_n 3, 1) := by decide +kernel
theorem d_M_exception_150 : decode b_M_exception 150 = .ok (.iaload, 1) := by decide +kernel
theorem d_M_exception_151 : decode b_M_exception 151 = .ok (.bipush 10, 2) := by decide +kernel
theorem d_M_exception_153 : decode b_M_exception 153 = .ok (.if_icmp .ne 7, 3) := by decide +kernel
theorem d_M_exception_156 : decode b_M_exception 156 = .ok (.iconst 1, 1) := by decide +kernel
theorem d_M_exception_157 : decode b_M_exception 157 = .ok (.goto 4, 3) := by decide +kernel
theorem d_M_exception_160 : decode b_M_exception 160 = .ok (.iconst 0, 1) := by decide +kernel
theorem d_M_exception_161 : decode b_M_exception 161 = .ok (.iastore, 1) := by decide +kernel
theorem d_M_exception_162 : decode b_M_exception 162 = .ok (.iinc 3 1, 3) := by decide +kernel
theorem d_M_exception_165 : decode b_M_exception 165 = .ok (.goto (-38), 3) := by decide +kernel
theorem d_M_exception_168 : decode b_M_exception 168 = .ok (.aload_n 0, 1) := by decide +kernel
theorem d_M_exception_169 : decode b_M_exception 169 = .ok (.iconst 0, 1) := by decide +kernel
theorem d_M_exception_170 : decode b_M_exception 170 = .ok (.putfield 96, 3) := by decide +kernel
theorem d_M_exception_173 : decode b_M_exception 173 = .ok (.aload_n 0, 1) := by decide +kernel
theorem d_M_exception_174 : decode b_M_exception 174 = .ok (.getfield 99, 3) := by decide +kernel
theorem d_M_exception_177 : decode b_M_exception 177 = .ok (.ireturn, 1) := by decide +kernel
def lay_M_exception (pc : Nat) : List Nat := if pc = 0 then [0] else if pc = 17 then [0, 1] else if pc = 44 then [0, 2] else if pc = 45 then [0, 2] else if pc = 72 then [0, 2] else if pc = 94 then [0, 2, 3] else if pc = 127 then [0, 2, 3] else if pc = 161 then [0, 2, 3] else []
noncomputable def sg_M_exception_0 (v0 : Nat) (w : hy_W) : Option hy_N := if hy_ob w v0 6 = true then hy_bi (f_M_isException [.ref v0] w) fun x3 w1 => if x3 = 0 then (some (.inl (17, [.ref v0, .int x3, .int (-1)], w1))) else (if hy_ob w1 v0 6 = true then hy_bi (f_M_findException [.ref v0] w1) fun x8 w6 => some (.inl (17, [.ref v0, .int x3, .int x8], w6)) else none) else none
noncomputable def sg_M_exception_17 (v0 : Nat) (v1 : Int32) (s0 : Int32) (w : hy_W) : Option hy_N := if v1 = 0 then (some (.inl (45, [.ref v0, .int s0, .int 1, .ref v0], w))) else (if (0 : Int32) ≤ s0 then (some (.inl (44, [.ref v0, .int s0, .ref v0], w))) else ((hy_gi w v0 6 19).bind fun x3 => if x3 = 40 then (some (.inl (45, [.ref v0, .int s0, .int 2, .ref v0], w))) else (some (.inl (44, [.ref v0, .int s0, .ref v0], w)))))
noncomputable def sg_M_exception_44 (v0 : Nat) (v2 : Int32) (s0 : Nat) (w : hy_W) : Option hy_N := some (.inl (45, [.ref v0, .int v2, .int 0, .ref s0], w))
noncomputable def sg_M_exception_45 (v0 : Nat) (v2 : Int32) (s0 : Int32) (s1 : Nat) (w : hy_W) : Option hy_N := if hy_ob w s1 6 = true then hy_bi (f_M_refused [.ref s1, .int s0] w) fun x3 w1 => if x3 = 0 then (if (0 : Int32) ≤ v2 then (some (.inl (72, [.ref v0, .int v2], w1))) else ((hy_gi w1 v0 6 19).bind fun x7 => (hy_gi w1 v0 6 19).bind fun x8 => (hy_pf w1 v0 6 19 (.int (x8 + 1))).bind fun w9 => some (.inl (72, [.ref v0, .int x7], w9)))) else (some (.inr (.inl (some (.int 0)), w1))) else none
noncomputable def sg_M_exception_72 (v0 : Nat) (v2 : Int32) (w : hy_W) : Option hy_N := (hy_gr w v0 6 20).bind fun r1 => (hy_gi w v0 6 1).bind fun x2 => (hy_pa w 0 r1 v2 (.int x2)).bind fun w3 => (hy_gr w3 v0 6 21).bind fun r4 => (hy_gi w3 v0 6 11).bind fun x5 => (hy_pa w3 0 r4 v2 (.int x5)).bind fun w6 => some (.inl (94, [.ref v0, .int v2, .int 0], w6))
noncomputable def sg_M_exception_94 (v0 : Nat) (v2 : Int32) (v3 : Int32) (w : hy_W) : Option hy_N := (hy_gi w v0 6 11).bind fun x1 => if x1 ≤ v3 then (some (.inl (127, [.ref v0, .int v2, .int 0], w))) else ((hy_gr w v0 6 22).bind fun r3 => (hy_gr w v0 6 12).bind fun r4 => (hy_ai w r4 v3).bind fun x5 => (hy_pa w 0 r3 ((40 * v2) + v3) (.int x5)).bind fun w6 => some (.inl (94, [.ref v0, .int v2, .int (v3 + 1)], w6)))
noncomputable def sg_M_exception_127 (v0 : Nat) (v2 : Int32) (v3 : Int32) (w : hy_W) : Option hy_N := (hy_gi w v0 6 11).bind fun x1 => if x1 < v3 then ((hy_pf w v0 6 8 (.int 0)).bind fun w3 => (hy_gi w3 v0 6 11).bind fun x4 => some (.inr (.inl (some (.int x4)), w3))) else ((hy_gr w v0 6 23).bind fun r5 => (hy_gr w v0 6 13).bind fun r6 => (hy_ai w r6 v3).bind fun x7 => if x7 = 10 then (some (.inl (161, [.ref v0, .int v2, .int v3, .int 1, .int ((41 * v2) + v3), .ref r5], w))) else (some (.inl (161, [.ref v0, .int v2, .int v3, .int 0, .int ((41 * v2) + v3), .ref r5], w))))
noncomputable def sg_M_exception_161 (v0 : Nat) (v2 : Int32) (v3 : Int32) (s0 : Int32) (s1 : Int32) (s2 : Nat) (w : hy_W) : Option hy_N := (hy_pa w 0 s2 s1 (.int s0)).bind fun w1 => some (.inl (127, [.ref v0, .int v2, .int (v3 + 1)], w1))
noncomputable def nx_M_exception (q : hy_P) : Option hy_N := match q with
  | (0, [.ref v0], w) => sg_M_exception_0 v0 w
  | (17, [.ref v0, .int v1, .int s0], w) => sg_M_exception_17 v0 v1 s0 w
  | (44, [.ref v0, .int v2, .ref s0], w) => sg_M_exception_44 v0 v2 s0 w
  | (45, [.ref v0, .int v2, .int s0, .ref s1], w) => sg_M_exception_45 v0 v2 s0 s1 w
  | (72, [.ref v0, .int v2], w) => sg_M_exception_72 v0 v2 w
  | (94, [.ref v0, .int v2, .int v3], w) => sg_M_exception_94 v0 v2 v3 w
  | (127, [.ref v0, .int v2, .int v3], w) => sg_M_exception_127 v0 v2 v3 w
  | (161, [.ref v0, .int v2, .int v3, .int s0, .int s1, .ref s2], w) => sg_M_exception_161 v0 v2 v3 s0 s1 s2 w
  | _ => none
noncomputable def f_M_exception (av : List Value) (w : hy_W) : Option hy_O := hy_fx nx_M_exception (0, av, w)
set_option maxHeartbeats 4000000 in
set_option maxRecDepth 100000 in
theorem sk_M_exception_0 {p : Program} {l : Launch} {e : Env} {s : State} {m : MethodId} {args : Array Value} {below : List Frame} {meth : Method} {c : Code} {G : hy_G} {A : Nat → Prop} {ad0 : Nat → Nat} {w0 : hy_W} {o : hy_O} (hl9 : l.flags = flags0) (hA : hy_A G ad0 w0 s.heap.size = A) (B : hy_B p l e (hy_rm 2 44 w0) s m args below meth c "HyphenPatternsModel" b_M_exception 4 (some .int) [] G A) (v0 : Nat) (w : hy_W) (nx : hy_N) (h : sg_M_exception_0 v0 w = some nx) (K : hy_Nx lay_M_exception p l e (hy_rm 2 44 w0) s m args below meth c 4 G A ad0 w0.1.length (hy_Q below G ad0 w0 o args s) o nx) : hy_At lay_M_exception p l e (hy_rm 2 44 w0) s m args below meth c 4 G A ad0 w0.1.length (hy_Q below G ad0 w0 o args s) (0, [.ref v0], w) := by
  intro ad H locs cells slots ls S hok hl
  have hx := B.1
  have hb := B.2.1
  dsimp only at S hok
  have hl : lv_has ls 4 [(0, .ref (ad v0))] := hl
  show W p l e (hy_rm 2 44 w0) s m args below meth c H locs cells slots (hy_Q below G ad0 w0 o args s) (F0 m 0 ls [])
  have hv_v0 : v0 < w.1.length := hok (.ref v0) (List.mem_of_getElem? (i := 0) rfl) v0 rfl
  obtain ⟨a_v0, ha_v0⟩ : ∃ a, ad v0 = a := ⟨_, rfl⟩
  rw [ha_v0] at hl
  unfold sg_M_exception_0 at h
  refine lv_aload_n hx hb d_M_exception_0 rfl (lv_at hl 0 rfl) ?_
  obtain ⟨ob4, h⟩ := hy_if h
  obtain ⟨fs_ob4, hf_ob4, hg_ob4⟩ := hy_ob_spec ob4
  obtain ⟨x3, w1, hq_w1, h⟩ := hy_bi_spec h
  refine hy_calli (hy_runV (rest := []) (As := []) (r := v0) (b := a_v0) B S rfl ha_v0 (by rfl) (c_M_isException hl9 G ad hq_w1) (hy_okr (by omega) hy_ok0) tw_797 tw_9 tw_794 tw_796 sl_M_isException (by decide) rfl (Nat.le_of_ble_eq_true rfl) (Nat.le_of_ble_eq_true rfl) hf_ob4 hg_ob4 rfl hl.1 (Nat.le_of_ble_eq_true rfl) d_M_exception_1) (fun ad2 H locs cells slots hag hl_w1 S => ?_)
  have ha_v0 : ad2 v0 = a_v0 := (hag v0 (by omega)).trans ha_v0
  refine lv_istore_n (lv' := [(1, .int x3), (0, .ref a_v0)]) hx hb d_M_exception_4 rfl hl (Nat.le_of_ble_eq_true rfl) rfl (fun ls hl => ?_)
  refine lv_iload_n hx hb d_M_exception_5 rfl (lv_at hl 0 rfl) ?_
  refine lv_if_eq (tgt := 16) hx hb d_M_exception_6 (by decide) (fun c5 => ?_) (fun c5 => ?_)
  · rw [if_pos c5] at h
    refine lv_iconst (v := (-1)) hx hb d_M_exception_16 (by decide) ?_
    cases h
    exact hy_jump K S (hy_okr (by omega) (hy_oki (hy_oki hy_ok0))) (lv_sub hl [1, 0] rfl) (by subst ha_v0; rfl) (by subst ha_v0; rfl)
  · rw [if_neg c5] at h
    refine lv_aload_n hx hb d_M_exception_9 rfl (lv_at hl 1 rfl) ?_
    obtain ⟨ob9, h⟩ := hy_if h
    obtain ⟨fs_ob9, hf_ob9, hg_ob9⟩ := hy_ob_spec ob9
    obtain ⟨x8, w6, hq_w6, h⟩ := hy_bi_spec h
    refine hy_calli (hy_runV (rest := []) (As := []) (r := v0) (b := a_v0) B S rfl ha_v0 (by rfl) (c_M_findException hl9 G ad2 hq_w6) (hy_okr (by omega) hy_ok0) tw_801 tw_9 tw_798 tw_800 sl_M_findException (by decide) rfl (Nat.le_of_ble_eq_true rfl) (Nat.le_of_ble_eq_true rfl) hf_ob9 hg_ob9 rfl hl.1 (Nat.le_of_ble_eq_true rfl) d_M_exception_10) (fun ad7 H locs cells slots hag hl_w6 S => ?_)
    have ha_v0 : ad7 v0 = a_v0 := (hag v0 (by omega)).trans ha_v0
    refine lv_goto (tgt := 17) hx hb d_M_exception_13 (by decide) ?_
    cases h
    exact hy_jump K S (hy_okr (by omega) (hy_oki (hy_oki hy_ok0))) (lv_sub hl [1, 0] rfl) (by subst ha_v0; rfl) (by subst ha_v0; rfl)
set_option maxHeartbeats 4000000 in
set_option maxRecDepth 100000 in
theorem sk_M_exception_17 {p : Program} {l : Launch} {e : Env} {s : State} {m : MethodId} {args : Array Value} {below : List Frame} {meth : Method} {c : Code} {G : hy_G} {A : Nat → Prop} {ad0 : Nat → Nat} {w0 : hy_W} {o : hy_O} (hl9 : l.flags = flags0) (hA : hy_A G ad0 w0 s.heap.size = A) (B : hy_B p l e (hy_rm 2 44 w0) s m args below meth c "HyphenPatternsModel" b_M_exception 4 (some .int) [] G A) (v0 : Nat) (v1 : Int32) (s0 : Int32) (w : hy_W) (nx : hy_N) (h : sg_M_exception_17 v0 v1 s0 w = some nx) (K : hy_Nx lay_M_exception p l e (hy_rm 2 44 w0) s m args below meth c 4 G A ad0 w0.1.length (hy_Q below G ad0 w0 o args s) o nx) : hy_At lay_M_exception p l e (hy_rm 2 44 w0) s m args below meth c 4 G A ad0 w0.1.length (hy_Q below G ad0 w0 o args s) (17, [.ref v0, .int v1, .int s0], w) := by
  intro ad H locs cells slots ls S hok hl
  have hx := B.1
  have hb := B.2.1
  dsimp only at S hok
  have hl : lv_has ls 4 [(0, .ref (ad v0)), (1, .int v1)] := hl
  show W p l e (hy_rm 2 44 w0) s m args below meth c H locs cells slots (hy_Q below G ad0 w0 o args s) (F0 m 17 ls [.int s0])
  have hv_v0 : v0 < w.1.length := hok (.ref v0) (List.mem_of_getElem? (i := 0) rfl) v0 rfl
  obtain ⟨a_v0, ha_v0⟩ : ∃ a, ad v0 = a := ⟨_, rfl⟩
  rw [ha_v0] at hl
  unfold sg_M_exception_17 at h
  refine lv_istore_n (lv' := [(2, .int s0), (0, .ref a_v0), (1, .int v1)]) hx hb d_M_exception_17 rfl hl (Nat.le_of_ble_eq_true rfl) rfl (fun ls hl => ?_)
  refine lv_aload_n hx hb d_M_exception_18 rfl (lv_at hl 1 rfl) ?_
  refine lv_iload_n hx hb d_M_exception_19 rfl (lv_at hl 2 rfl) ?_
  refine lv_if_ne (tgt := 27) hx hb d_M_exception_20 (by decide) (fun c1 => ?_) (fun c1 => ?_)
  · rw [if_neg c1] at h
    refine lv_iload_n hx hb d_M_exception_27 rfl (lv_at hl 0 rfl) ?_
    refine lv_if_ge (tgt := 44) hx hb d_M_exception_28 (by decide) (fun c2 => ?_) (fun c2 => ?_)
    · rw [if_pos c2] at h
      cases h
      exact hy_jump K S (hy_okr (by omega) (hy_oki (hy_okr (by omega) hy_ok0))) (lv_sub hl [1, 0] rfl) (by subst ha_v0; rfl) (by subst ha_v0; rfl)
    · rw [if_neg c2] at h
      refine lv_aload_n hx hb d_M_exception_31 rfl (lv_at hl 1 rfl) ?_
      obtain ⟨x3, hx3, h⟩ := hy_bd h
      refine hy_geti B S ha_v0 hx3 rfl (Nat.le_of_ble_eq_true rfl) i_6 (j := 19) tw_669 (fun _ h => h) d_M_exception_32 ?_
      refine lv_bipush (v := 40) hx hb d_M_exception_35 (by decide) ?_
      refine lv_icmp_ne (tgt := 44) hx hb d_M_exception_37 (by decide) (fun c4 => ?_) (fun c4 => ?_)
      · rw [if_neg c4] at h
        cases h
        exact hy_jump K S (hy_okr (by omega) (hy_oki (hy_okr (by omega) hy_ok0))) (lv_sub hl [1, 0] rfl) (by subst ha_v0; rfl) (by subst ha_v0; rfl)
      · rw [if_pos c4] at h
        refine lv_iconst (v := 2) hx hb d_M_exception_40 (by decide) ?_
        refine lv_goto (tgt := 45) hx hb d_M_exception_41 (by decide) ?_
        cases h
        exact hy_jump K S (hy_okr (by omega) (hy_oki (hy_oki (hy_okr (by omega) hy_ok0)))) (lv_sub hl [1, 0] rfl) (by subst ha_v0; rfl) (by subst ha_v0; rfl)
  · rw [if_pos c1] at h
    refine lv_iconst (v := 1) hx hb d_M_exception_23 (by decide) ?_
    refine lv_goto (tgt := 45) hx hb d_M_exception_24 (by decide) ?_
    cases h
    exact hy_jump K S (hy_okr (by omega) (hy_oki (hy_oki (hy_okr (by omega) hy_ok0)))) (lv_sub hl [1, 0] rfl) (by subst ha_v0; rfl) (by subst ha_v0; rfl)
set_option maxHeartbeats 4000000 in
set_option maxRecDepth 100000 in
theorem sk_M_exception_44 {p : Program} {l : Launch} {e : Env} {s : State} {m : MethodId} {args : Array Value} {below : List Frame} {meth : Method} {c : Code} {G : hy_G} {A : Nat → Prop} {ad0 : Nat → Nat} {w0 : hy_W} {o : hy_O} (hl9 : l.flags = flags0) (hA : hy_A G ad0 w0 s.heap.size = A) (B : hy_B p l e (hy_rm 2 44 w0) s m args below meth c "HyphenPatternsModel" b_M_exception 4 (some .int) [] G A) (v0 : Nat) (v2 : Int32) (s0 : Nat) (w : hy_W) (nx : hy_N) (h : sg_M_exception_44 v0 v2 s0 w = some nx) (K : hy_Nx lay_M_exception p l e (hy_rm 2 44 w0) s m args below meth c 4 G A ad0 w0.1.length (hy_Q below G ad0 w0 o args s) o nx) : hy_At lay_M_exception p l e (hy_rm 2 44 w0) s m args below meth c 4 G A ad0 w0.1.length (hy_Q below G ad0 w0 o args s) (44, [.ref v0, .int v2, .ref s0], w) := by
  intro ad H locs cells slots ls S hok hl
  have hx := B.1
  have hb := B.2.1
  dsimp only at S hok
  have hl : lv_has ls 4 [(0, .ref (ad v0)), (2, .int v2)] := hl
  show W p l e (hy_rm 2 44 w0) s m args below meth c H locs cells slots (hy_Q below G ad0 w0 o args s) (F0 m 44 ls [.ref (ad s0)])
  have hv_v0 : v0 < w.1.length := hok (.ref v0) (List.mem_of_getElem? (i := 0) rfl) v0 rfl
  obtain ⟨a_v0, ha_v0⟩ : ∃ a, ad v0 = a := ⟨_, rfl⟩
  rw [ha_v0] at hl
  have hv_s0 : s0 < w.1.length := hok (.ref s0) (List.mem_of_getElem? (i := 2) rfl) s0 rfl
  obtain ⟨a_s0, ha_s0⟩ : ∃ a, ad s0 = a := ⟨_, rfl⟩
  rw [ha_s0]
  unfold sg_M_exception_44 at h
  refine lv_iconst (v := 0) hx hb d_M_exception_44 (by decide) ?_
  cases h
  exact hy_jump K S (hy_okr (by omega) (hy_oki (hy_oki (hy_okr (by omega) hy_ok0)))) (lv_sub hl [0, 1] rfl) (by subst ha_v0 ha_s0; rfl) (by subst ha_v0 ha_s0; rfl)
set_option maxHeartbeats 4000000 in
set_option maxRecDepth 100000 in
theorem sk_M_exception_45 {p : Program} {l : Launch} {e : Env} {s : State} {m : MethodId} {args : Array Value} {below : List Frame} {meth : Method} {c : Code} {G : hy_G} {A : Nat → Prop} {ad0 : Nat → Nat} {w0 : hy_W} {o : hy_O} (hl9 : l.flags = flags0) (hA : hy_A G ad0 w0 s.heap.size = A) (B : hy_B p l e (hy_rm 2 44 w0) s m args below meth c "HyphenPatternsModel" b_M_exception 4 (some .int) [] G A) (v0 : Nat) (v2 : Int32) (s0 : Int32) (s1 : Nat) (w : hy_W) (nx : hy_N) (h : sg_M_exception_45 v0 v2 s0 s1 w = some nx) (K : hy_Nx lay_M_exception p l e (hy_rm 2 44 w0) s m args below meth c 4 G A ad0 w0.1.length (hy_Q below G ad0 w0 o args s) o nx) : hy_At lay_M_exception p l e (hy_rm 2 44 w0) s m args below meth c 4 G A ad0 w0.1.length (hy_Q below G ad0 w0 o args s) (45, [.ref v0, .int v2, .int s0, .ref s1], w) := by
  intro ad H locs cells slots ls S hok hl
  have hx := B.1
  have hb := B.2.1
  dsimp only at S hok
  have hl : lv_has ls 4 [(0, .ref (ad v0)), (2, .int v2)] := hl
  show W p l e (hy_rm 2 44 w0) s m args below meth c H locs cells slots (hy_Q below G ad0 w0 o args s) (F0 m 45 ls [.int s0, .ref (ad s1)])
  have hv_v0 : v0 < w.1.length := hok (.ref v0) (List.mem_of_getElem? (i := 0) rfl) v0 rfl
  obtain ⟨a_v0, ha_v0⟩ : ∃ a, ad v0 = a := ⟨_, rfl⟩
  rw [ha_v0] at hl
  have hv_s1 : s1 < w.1.length := hok (.ref s1) (List.mem_of_getElem? (i := 3) rfl) s1 rfl
  obtain ⟨a_s1, ha_s1⟩ : ∃ a, ad s1 = a := ⟨_, rfl⟩
  rw [ha_s1]
  unfold sg_M_exception_45 at h
  obtain ⟨ob4, h⟩ := hy_if h
  obtain ⟨fs_ob4, hf_ob4, hg_ob4⟩ := hy_ob_spec ob4
  obtain ⟨x3, w1, hq_w1, h⟩ := hy_bi_spec h
  refine hy_calli (hy_runV (rest := []) (As := [.int s0]) (r := s1) (b := a_s1) B S rfl ha_s1 (by rfl) (c_M_refused hl9 G ad hq_w1) (hy_okr (by omega) (hy_oki hy_ok0)) tw_740 tw_9 tw_737 tw_739 sl_M_refused (by decide) rfl (Nat.le_of_ble_eq_true rfl) (Nat.le_of_ble_eq_true rfl) hf_ob4 hg_ob4 rfl hl.1 (Nat.le_of_ble_eq_true rfl) d_M_exception_45) (fun ad2 H locs cells slots hag hl_w1 S => ?_)
  have ha_v0 : ad2 v0 = a_v0 := (hag v0 (by omega)).trans ha_v0
  refine lv_if_eq (tgt := 53) hx hb d_M_exception_48 (by decide) (fun c5 => ?_) (fun c5 => ?_)
  · rw [if_pos c5] at h
    refine lv_iload_n hx hb d_M_exception_53 rfl (lv_at hl 1 rfl) ?_
    refine lv_if_ge (tgt := 72) hx hb d_M_exception_54 (by decide) (fun c6 => ?_) (fun c6 => ?_)
    · rw [if_pos c6] at h
      cases h
      exact hy_jump K S (hy_okr (by omega) (hy_oki hy_ok0)) (lv_sub hl [0, 1] rfl) (by subst ha_v0; rfl) (by subst ha_v0; rfl)
    · rw [if_neg c6] at h
      refine lv_aload_n hx hb d_M_exception_57 rfl (lv_at hl 0 rfl) ?_
      obtain ⟨x7, hx7, h⟩ := hy_bd h
      refine hy_geti B S ha_v0 hx7 rfl (Nat.le_of_ble_eq_true rfl) i_6 (j := 19) tw_669 (fun _ h => h) d_M_exception_58 ?_
      refine lv_istore_n (lv' := [(2, .int x7), (0, .ref a_v0)]) hx hb d_M_exception_61 rfl hl (Nat.le_of_ble_eq_true rfl) rfl (fun ls hl => ?_)
      refine lv_aload_n hx hb d_M_exception_62 rfl (lv_at hl 1 rfl) ?_
      refine lv_dup hx hb d_M_exception_63 rfl ?_
      obtain ⟨x8, hx8, h⟩ := hy_bd h
      refine hy_geti B S ha_v0 hx8 rfl (Nat.le_of_ble_eq_true rfl) i_6 (j := 19) tw_669 (fun _ h => h) d_M_exception_64 ?_
      refine lv_iconst (v := 1) hx hb d_M_exception_67 (by decide) ?_
      refine lv_iadd hx hb d_M_exception_68 ?_
      obtain ⟨w9, hw9, h⟩ := hy_bd h
      refine hy_put B S ha_v0 rfl hy_cvi hw9 rfl (Nat.le_of_ble_eq_true rfl) i_6 t_6 t_6_ok n_6 (j := 19) tw_669 (fun _ h => h) rfl rfl rfl d_M_exception_69 (fun H locs S hl_w9 => ?_)
      cases h
      exact hy_jump K S (hy_okr (by omega) (hy_oki hy_ok0)) (lv_sub hl [1, 0] rfl) (by subst ha_v0; rfl) (by subst ha_v0; rfl)
  · rw [if_neg c5] at h
    refine lv_iconst (v := 0) hx hb d_M_exception_51 (by decide) ?_
    cases h
    cases K
    exact hy_iret hA B S d_M_exception_52
set_option maxHeartbeats 4000000 in
set_option maxRecDepth 100000 in
theorem sk_M_exception_72 {p : Program} {l : Launch} {e : Env} {s : State} {m : MethodId} {args : Array Value} {below : List Frame} {meth : Method} {c : Code} {G : hy_G} {A : Nat → Prop} {ad0 : Nat → Nat} {w0 : hy_W} {o : hy_O} (hl9 : l.flags = flags0) (hA : hy_A G ad0 w0 s.heap.size = A) (B : hy_B p l e (hy_rm 2 44 w0) s m args below meth c "HyphenPatternsModel" b_M_exception 4 (some .int) [] G A) (v0 : Nat) (v2 : Int32) (w : hy_W) (nx : hy_N) (h : sg_M_exception_72 v0 v2 w = some nx) (K : hy_Nx lay_M_exception p l e (hy_rm 2 44 w0) s m args below meth c 4 G A ad0 w0.1.length (hy_Q below G ad0 w0 o args s) o nx) : hy_At lay_M_exception p l e (hy_rm 2 44 w0) s m args below meth c 4 G A ad0 w0.1.length (hy_Q below G ad0 w0 o args s) (72, [.ref v0, .int v2], w) := by
  intro ad H locs cells slots ls S hok hl
  have hx := B.1
  have hb := B.2.1
  dsimp only at S hok
  have hl : lv_has ls 4 [(0, .ref (ad v0)), (2, .int v2)] := hl
  show W p l e (hy_rm 2 44 w0) s m args below meth c H locs cells slots (hy_Q below G ad0 w0 o args s) (F0 m 72 ls [])
  have hv_v0 : v0 < w.1.length := hok (.ref v0) (List.mem_of_getElem? (i := 0) rfl) v0 rfl
  obtain ⟨a_v0, ha_v0⟩ : ∃ a, ad v0 = a := ⟨_, rfl⟩
  rw [ha_v0] at hl
  unfold sg_M_exception_72 at h
  refine lv_aload_n hx hb d_M_exception_72 rfl (lv_at hl 0 rfl) ?_
  obtain ⟨r1, hr1, h⟩ := hy_bd h
  refine hy_getr B S ha_v0 hr1 rfl (Nat.le_of_ble_eq_true rfl) i_6 (j := 20) tw_670 (fun _ h => h) d_M_exception_73 (fun a_r1 ha_r1 hv_r1 => ?_)
  refine lv_iload_n hx hb d_M_exception_76 rfl (lv_at hl 1 rfl) ?_
  refine lv_aload_n hx hb d_M_exception_77 rfl (lv_at hl 0 rfl) ?_
  obtain ⟨x2, hx2, h⟩ := hy_bd h
  refine hy_geti B S ha_v0 hx2 rfl (Nat.le_of_ble_eq_true rfl) i_6 (j := 1) tw_651 (fun _ h => h) d_M_exception_78 ?_
  obtain ⟨w3, hw3, h⟩ := hy_bd h
  refine hy_iast B S ha_r1 hw3 d_M_exception_81 (fun H locs S hl_w3 => ?_)
  refine lv_aload_n hx hb d_M_exception_82 rfl (lv_at hl 0 rfl) ?_
  obtain ⟨r4, hr4, h⟩ := hy_bd h
  refine hy_getr B S ha_v0 hr4 rfl (Nat.le_of_ble_eq_true rfl) i_6 (j := 21) tw_671 (fun _ h => h) d_M_exception_83 (fun a_r4 ha_r4 hv_r4 => ?_)
  refine lv_iload_n hx hb d_M_exception_86 rfl (lv_at hl 1 rfl) ?_
  refine lv_aload_n hx hb d_M_exception_87 rfl (lv_at hl 0 rfl) ?_
  obtain ⟨x5, hx5, h⟩ := hy_bd h
  refine hy_geti B S ha_v0 hx5 rfl (Nat.le_of_ble_eq_true rfl) i_6 (j := 11) tw_661 (fun _ h => h) d_M_exception_88 ?_
  obtain ⟨w6, hw6, h⟩ := hy_bd h
  refine hy_iast B S ha_r4 hw6 d_M_exception_91 (fun H locs S hl_w6 => ?_)
  refine lv_iconst (v := 0) hx hb d_M_exception_92 (by decide) ?_
  refine lv_istore_n (lv' := [(3, .int 0), (0, .ref a_v0), (2, .int v2)]) hx hb d_M_exception_93 rfl hl (Nat.le_of_ble_eq_true rfl) rfl (fun ls hl => ?_)
  cases h
  exact hy_jump K S (hy_okr (by omega) (hy_oki (hy_oki hy_ok0))) (lv_sub hl [1, 2, 0] rfl) (by subst ha_v0; rfl) (by subst ha_v0; rfl)
set_option maxHeartbeats 4000000 in
set_option maxRecDepth 100000 in
theorem sk_M_exception_94 {p : Program} {l : Launch} {e : Env} {s : State} {m : MethodId} {args : Array Value} {below : List Frame} {meth : Method} {c : Code} {G : hy_G} {A : Nat → Prop} {ad0 : Nat → Nat} {w0 : hy_W} {o : hy_O} (hl9 : l.flags = flags0) (hA : hy_A G ad0 w0 s.heap.size = A) (B : hy_B p l e (hy_rm 2 44 w0) s m args below meth c "HyphenPatternsModel" b_M_exception 4 (some .int) [] G A) (v0 : Nat) (v2 : Int32) (v3 : Int32) (w : hy_W) (nx : hy_N) (h : sg_M_exception_94 v0 v2 v3 w = some nx) (K : hy_Nx lay_M_exception p l e (hy_rm 2 44 w0) s m args below meth c 4 G A ad0 w0.1.length (hy_Q below G ad0 w0 o args s) o nx) : hy_At lay_M_exception p l e (hy_rm 2 44 w0) s m args below meth c 4 G A ad0 w0.1.length (hy_Q below G ad0 w0 o args s) (94, [.ref v0, .int v2, .int v3], w) := by
  intro ad H locs cells slots ls S hok hl
  have hx := B.1
  have hb := B.2.1
  dsimp only at S hok
  have hl : lv_has ls 4 [(0, .ref (ad v0)), (2, .int v2), (3, .int v3)] := hl
  show W p l e (hy_rm 2 44 w0) s m args below meth c H locs cells slots (hy_Q below G ad0 w0 o args s) (F0 m 94 ls [])
  have hv_v0 : v0 < w.1.length := hok (.ref v0) (List.mem_of_getElem? (i := 0) rfl) v0 rfl
  obtain ⟨a_v0, ha_v0⟩ : ∃ a, ad v0 = a := ⟨_, rfl⟩
  rw [ha_v0] at hl
  unfold sg_M_exception_94 at h
  refine lv_iload_n hx hb d_M_exception_94 rfl (lv_at hl 2 rfl) ?_
  refine lv_aload_n hx hb d_M_exception_95 rfl (lv_at hl 0 rfl) ?_
  obtain ⟨x1, hx1, h⟩ := hy_bd h
  refine hy_geti B S ha_v0 hx1 rfl (Nat.le_of_ble_eq_true rfl) i_6 (j := 11) tw_661 (fun _ h => h) d_M_exception_96 ?_
  refine lv_icmp_ge (tgt := 125) hx hb d_M_exception_99 (by decide) (fun c2 => ?_) (fun c2 => ?_)
  · rw [if_pos c2] at h
    refine lv_iconst (v := 0) hx hb d_M_exception_125 (by decide) ?_
    refine lv_istore_n (lv' := [(3, .int 0), (0, .ref a_v0), (2, .int v2)]) hx hb d_M_exception_126 rfl hl (Nat.le_of_ble_eq_true rfl) rfl (fun ls hl => ?_)
    cases h
    exact hy_jump K S (hy_okr (by omega) (hy_oki (hy_oki hy_ok0))) (lv_sub hl [1, 2, 0] rfl) (by subst ha_v0; rfl) (by subst ha_v0; rfl)
  · rw [if_neg c2] at h
    refine lv_aload_n hx hb d_M_exception_102 rfl (lv_at hl 0 rfl) ?_
    obtain ⟨r3, hr3, h⟩ := hy_bd h
    refine hy_getr B S ha_v0 hr3 rfl (Nat.le_of_ble_eq_true rfl) i_6 (j := 22) tw_672 (fun _ h => h) d_M_exception_103 (fun a_r3 ha_r3 hv_r3 => ?_)
    refine lv_bipush (v := 40) hx hb d_M_exception_106 (by decide) ?_
    refine lv_iload_n hx hb d_M_exception_108 rfl (lv_at hl 1 rfl) ?_
    refine lv_imul hx hb d_M_exception_109 ?_
    refine lv_iload_n hx hb d_M_exception_110 rfl (lv_at hl 2 rfl) ?_
    refine lv_iadd hx hb d_M_exception_111 ?_
    refine lv_aload_n hx hb d_M_exception_112 rfl (lv_at hl 0 rfl) ?_
    obtain ⟨r4, hr4, h⟩ := hy_bd h
    refine hy_getr B S ha_v0 hr4 rfl (Nat.le_of_ble_eq_true rfl) i_6 (j := 12) tw_662 (fun _ h => h) d_M_exception_113 (fun a_r4 ha_r4 hv_r4 => ?_)
    refine lv_iload_n hx hb d_M_exception_116 rfl (lv_at hl 2 rfl) ?_
    obtain ⟨x5, hx5, h⟩ := hy_bd h
    refine hy_iald B S ha_r4 hx5 d_M_exception_117 ?_
    obtain ⟨w6, hw6, h⟩ := hy_bd h
    refine hy_iast B S ha_r3 hw6 d_M_exception_118 (fun H locs S hl_w6 => ?_)
    refine lv_iinc (v := (v3 + 1)) (lv' := [(3, .int (v3 + 1)), (0, .ref a_v0), (2, .int v2)]) hx hb d_M_exception_119 hl (k := 2) rfl rfl (Nat.le_of_ble_eq_true rfl) rfl (fun ls hl => ?_)
    refine lv_goto (tgt := 94) hx hb d_M_exception_122 (by decide) ?_
    cases h
    exact hy_jump K S (hy_okr (by omega) (hy_oki (hy_oki hy_ok0))) (lv_sub hl [1, 2, 0] rfl) (by subst ha_v0; rfl) (by subst ha_v0; rfl)
set_option maxHeartbeats 4000000 in
set_option maxRecDepth 100000 in
theorem sk_M_exception_127 {p : Program} {l : Launch} {e : Env} {s : State} {m : MethodId} {args : Array Value} {below : List Frame} {meth : Method} {c : Code} {G : hy_G} {A : Nat → Prop} {ad0 : Nat → Nat} {w0 : hy_W} {o : hy_O} (hl9 : l.flags = flags0) (hA : hy_A G ad0 w0 s.heap.size = A) (B : hy_B p l e (hy_rm 2 44 w0) s m args below meth c "HyphenPatternsModel" b_M_exception 4 (some .int) [] G A) (v0 : Nat) (v2 : Int32) (v3 : Int32) (w : hy_W) (nx : hy_N) (h : sg_M_exception_127 v0 v2 v3 w = some nx) (K : hy_Nx lay_M_exception p l e (hy_rm 2 44 w0) s m args below meth c 4 G A ad0 w0.1.length (hy_Q below G ad0 w0 o args s) o nx) : hy_At lay_M_exception p l e (hy_rm 2 44 w0) s m args below meth c 4 G A ad0 w0.1.length (hy_Q below G ad0 w0 o args s) (127, [.ref v0, .int v2, .int v3], w) := by
  intro ad H locs cells slots ls S hok hl
  have hx := B.1
  have hb := B.2.1
  dsimp only at S hok
  have hl : lv_has ls 4 [(0, .ref (ad v0)), (2, .int v2), (3, .int v3)] := hl
  show W p l e (hy_rm 2 44 w0) s m args below meth c H locs cells slots (hy_Q below G ad0 w0 o args s) (F0 m 127 ls [])
  have hv_v0 : v0 < w.1.length := hok (.ref v0) (List.mem_of_getElem? (i := 0) rfl) v0 rfl
  obtain ⟨a_v0, ha_v0⟩ : ∃ a, ad v0 = a := ⟨_, rfl⟩
  rw [ha_v0] at hl
  unfold sg_M_exception_127 at h
  refine lv_iload_n hx hb d_M_exception_127 rfl (lv_at hl 2 rfl) ?_
  refine lv_aload_n hx hb d_M_exception_128 rfl (lv_at hl 0 rfl) ?_
  obtain ⟨x1, hx1, h⟩ := hy_bd h
  refine hy_geti B S ha_v0 hx1 rfl (Nat.le_of_ble_eq_true rfl) i_6 (j := 11) tw_661 (fun _ h => h) d_M_exception_129 ?_
  refine lv_icmp_gt (tgt := 168) hx hb d_M_exception_132 (by decide) (fun c2 => ?_) (fun c2 => ?_)
  · rw [if_pos c2] at h
    refine lv_aload_n hx hb d_M_exception_168 rfl (lv_at hl 0 rfl) ?_
    refine lv_iconst (v := 0) hx hb d_M_exception_169 (by decide) ?_
    obtain ⟨w3, hw3, h⟩ := hy_bd h
    refine hy_put B S ha_v0 rfl hy_cvi hw3 rfl (Nat.le_of_ble_eq_true rfl) i_6 t_6 t_6_ok n_6 (j := 8) tw_658 (fun _ h => h) rfl rfl rfl d_M_exception_170 (fun H locs S hl_w3 => ?_)
    refine lv_aload_n hx hb d_M_exception_173 rfl (lv_at hl 0 rfl) ?_
    obtain ⟨x4, hx4, h⟩ := hy_bd h
    refine hy_geti B S ha_v0 hx4 rfl (Nat.le_of_ble_eq_true rfl) i_6 (j := 11) tw_661 (fun _ h => h) d_M_exception_174 ?_
    cases h
    cases K
    exact hy_iret hA B S d_M_exception_177
  · rw [if_neg c2] at h
    refine lv_aload_n hx hb d_M_exception_135 rfl (lv_at hl 0 rfl) ?_
    obtain ⟨r5, hr5, h⟩ := hy_bd h
    refine hy_getr B S ha_v0 hr5 rfl (Nat.le_of_ble_eq_true rfl) i_6 (j := 23) tw_673 (fun _ h => h) d_M_exception_136 (fun a_r5 ha_r5 hv_r5 => ?_)
    refine lv_bipush (v := 41) hx hb d_M_exception_139 (by decide) ?_
    refine lv_iload_n hx hb d_M_exception_141 rfl (lv_at hl 1 rfl) ?_
    refine lv_imul hx hb d_M_exception_142 ?_
    refine lv_iload_n hx hb d_M_exception_143 rfl (lv_at hl 2 rfl) ?_
    refine lv_iadd hx hb d_M_exception_144 ?_
    refine lv_aload_n hx hb d_M_exception_145 rfl (lv_at hl 0 rfl) ?_
    obtain ⟨r6, hr6, h⟩ := hy_bd h
    refine hy_getr B S ha_v0 hr6 rfl (Nat.le_of_ble_eq_true rfl) i_6 (j := 13) tw_663 (fun _ h => h) d_M_exception_146 (fun a_r6 ha_r6 hv_r6 => ?_)
    refine lv_iload_n hx hb d_M_exception_149 rfl (lv_at hl 2 rfl) ?_
    obtain ⟨x7, hx7, h⟩ := hy_bd h
    refine hy_iald B S ha_r6 hx7 d_M_exception_150 ?_
    refine lv_bipush (v := 10) hx hb d_M_exception_151 (by decide) ?_
    refine lv_icmp_ne (tgt := 160) hx hb d_M_exception_153 (by decide) (fun c8 => ?_) (fun c8 => ?_)
    · rw [if_neg c8] at h
      refine lv_iconst (v := 0) hx hb d_M_exception_160 (by decide) ?_
      cases h
      exact hy_jump K S (hy_okr (by omega) (hy_oki (hy_oki (hy_oki (hy_oki (hy_okr (by omega) hy_ok0)))))) (lv_sub hl [0, 1, 2] rfl) (by subst ha_v0 ha_r5; rfl) (by subst ha_v0 ha_r5; rfl)
    · rw [if_pos c8] at h
      refine lv_iconst (v := 1) hx hb d_M_exception_156 (by decide) ?_
      refine lv_goto (tgt := 161) hx hb d_M_exception_157 (by decide) ?_
      cases h
      exact hy_jump K S (hy_okr (by omega) (hy_oki (hy_oki (hy_oki (hy_oki (hy_okr (by omega) hy_ok0)))))) (lv_sub hl [0, 1, 2] rfl) (by subst ha_v0 ha_r5; rfl) (by subst ha_v0 ha_r5; rfl)
set_option maxHeartbeats 4000000 in
set_option maxRecDepth 100000 in
theorem sk_M_exception_161 {p : Program} {l : Launch} {e : Env} {s : State} {m : MethodId} {args : Array Value} {below : List Frame} {meth : Method} {c : Code} {G : hy_G} {A : Nat → Prop} {ad0 : Nat → Nat} {w0 : hy_W} {o : hy_O} (hl9 : l.flags = flags0) (hA : hy_A G ad0 w0 s.heap.size = A) (B : hy_B p l e (hy_rm 2 44 w0) s m args below meth c "HyphenPatternsModel" b_M_exception 4 (some .int) [] G A) (v0 : Nat) (v2 : Int32) (v3 : Int32) (s0 : Int32) (s1 : Int32) (s2 : Nat) (w : hy_W) (nx : hy_N) (h : sg_M_exception_161 v0 v2 v3 s0 s1 s2 w = some nx) (K : hy_Nx lay_M_exception p l e (hy_rm 2 44 w0) s m args below meth c 4 G A ad0 w0.1.length (hy_Q below G ad0 w0 o args s) o nx) : hy_At lay_M_exception p l e (hy_rm 2 44 w0) s m args below meth c 4 G A ad0 w0.1.length (hy_Q below G ad0 w0 o args s) (161, [.ref v0, .int v2, .int v3, .int s0, .int s1, .ref s2], w) := by
  intro ad H locs cells slots ls S hok hl
  have hx := B.1
  have hb := B.2.1
  dsimp only at S hok
  have hl : lv_has ls 4 [(0, .ref (ad v0)), (2, .int v2), (3, .int v3)] := hl
  show W p l e (hy_rm 2 44 w0) s m args below meth c H locs cells slots (hy_Q below G ad0 w0 o args s) (F0 m 161 ls [.int s0, .int s1, .ref (ad s2)])
  have hv_v0 : v0 < w.1.length := hok (.ref v0) (List.mem_of_getElem? (i := 0) rfl) v0 rfl
  obtain ⟨a_v0, ha_v0⟩ : ∃ a, ad v0 = a := ⟨_, rfl⟩
  rw [ha_v0] at hl
  have hv_s2 : s2 < w.1.length := hok (.ref s2) (List.mem_of_getElem? (i := 5) rfl) s2 rfl
  obtain ⟨a_s2, ha_s2⟩ : ∃ a, ad s2 = a := ⟨_, rfl⟩
  rw [ha_s2]
  unfold sg_M_exception_161 at h
  obtain ⟨w1, hw1, h⟩ := hy_bd h
  refine hy_iast B S ha_s2 hw1 d_M_exception_161 (fun H locs S hl_w1 => ?_)
  refine lv_iinc (v := (v3 + 1)) (lv' := [(3, .int (v3 + 1)), (0, .ref a_v0), (2, .int v2)]) hx hb d_M_exception_162 hl (k := 2) rfl rfl (Nat.le_of_ble_eq_true rfl) rfl (fun ls hl => ?_)
  refine lv_goto (tgt := 127) hx hb d_M_exception_165 (by decide) ?_
  cases h
  exact hy_jump K S (hy_okr (by omega) (hy_oki (hy_oki hy_ok0))) (lv_sub hl [1, 2, 0] rfl) (by subst ha_v0; rfl) (by subst ha_v0; rfl)
theorem nk_M_exception {p : Program} {l : Launch} {e : Env} {s : State} {m : MethodId} {args : Array Value} {below : List Frame} {meth : Method} {c : Code} {G : hy_G} {A : Nat → Prop} {ad0 : Nat → Nat} {w0 : hy_W} {o : hy_O} (hl9 : l.flags = flags0) (hA : hy_A G ad0 w0 s.heap.size = A) (B : hy_B p l e (hy_rm 2 44 w0) s m args below meth c "HyphenPatternsModel" b_M_exception 4 (some .int) [] G A) (q : hy_P) (nx : hy_N) (hq : nx_M_exception q = some nx) (K : hy_Nx lay_M_exception p l e (hy_rm 2 44 w0) s m args below meth c 4 G A ad0 w0.1.length (hy_Q below G ad0 w0 o args s) o nx) : hy_At lay_M_exception p l e (hy_rm 2 44 w0) s m args below meth c 4 G A ad0 w0.1.length (hy_Q below G ad0 w0 o args s) q := by
  unfold nx_M_exception at hq
  split at hq
  · exact sk_M_exception_0 hl9 hA B _ _ nx hq K
  · exact sk_M_exception_17 hl9 hA B _ _ _ _ nx hq K
  · exact sk_M_exception_44 hl9 hA B _ _ _ _ nx hq K
  · exact sk_M_exception_45 hl9 hA B _ _ _ _ _ nx hq K
  · exact sk_M_exception_72 hl9 hA B _ _ _ nx hq K
  · exact sk_M_exception_94 hl9 hA B _ _ _ _ nx hq K
  · exact sk_M_exception_127 hl9 hA B _ _ _ _ nx hq K
  · exact sk_M_exception_161 hl9 hA B _ _ _ _ _ _ _ nx hq K
  · cases hq
theorem c_M_exception {l : Launch} (hl9 : l.flags = flags0) (G : hy_G) (ad : Nat → Nat) {v0 : Nat} {w : hy_W} {o : hy_O} (h : f_M_exception [.ref v0] w = some o) : hy_M l y_M_exception (Cond.code y_M_exception b_M_exception 4 (some .int) :: hy_T) 2 44 G ad [.ref v0] w o := by
  obtain ⟨n, hn⟩ := hy_fx_iff.mp h
  refine hy_ofW hl9 (by decide +kernel) (Nat.le_of_ble_eq_true rfl) (fun p e s m args below meth c A hA hi B S hok ls hl => ?_)
  exact hy_loop (nk_M_exception hl9 hA B) n _ hn ad s.heap [] 0 0 ls S hok hl
theorem d_M_movePattern_0 : decode b_M_movePattern 0 = .ok (.aload_n 0, 1) := by decide +kernel
theorem d_M_movePattern_1 : decode b_M_movePattern 1 = .ok (.getfield 40, 3) := by decide +kernel
theorem d_M_movePattern_4 : decode b_M_movePattern 4 = .ok (.iload_n 2, 1) := by decide +kernel
theorem d_M_movePattern_5 : decode b_M_movePattern 5 = .ok (.aload_n 0, 1) := by decide +kernel
theorem d_M_movePattern_6 : decode b_M_movePattern 6 = .ok (.getfield 40, 3) := by decide +kernel
theorem d_M_movePattern_9 : decode b_M_movePattern 9 = .ok (.iload_n 1, 1) := by decide +kernel
theorem d_M_movePattern_10 : decode b_M_movePattern 10 = .ok (.iaload, 1) := by decide +kernel
theorem d_M_movePattern_11 : decode b_M_movePattern 11 = .ok (.iastore, 1) := by decide +kernel
theorem d_M_movePattern_12 : decode b_M_movePattern 12 = .ok (.aload_n 0, 1) := by decide +kernel
theorem d_M_movePattern_13 : decode b_M_movePattern 13 = .ok (.getfield 43, 3) := by decide +kernel
theorem d_M_movePattern_16 : decode b_M_movePattern 16 = .ok (.iload_n 2, 1) := by decide +kernel
theorem d_M_movePattern_17 : decode b_M_movePattern 17 = .ok (.aload_n 0, 1) := by decide +kernel
theorem d_M_movePattern_18 : decode b_M_movePattern 18 = .ok (.getfield 43, 3) := by decide +kernel
theorem d_M_movePattern_21 : decode b_M_movePattern 21 = .ok (.iload_n 1, 1) := by decide +kernel
theorem d_M_movePattern_22 : decode b_M_movePattern 22 = .ok (.iaload, 1) := by decide +kernel
theorem d_M_movePattern_23 : decode b_M_movePattern 23 = .ok (.iastore, 1) := by decide +kernel
theorem d_M_movePattern_24 : decode b_M_movePattern 24 = .ok (.iconst 0, 1) := by decide +kernel
theorem d_M_movePattern_25 : decode b_M_movePattern 25 = .ok (.istore_n 3, 1) := by decide +kernel
theorem d_M_movePattern_26 : decode b_M_movePattern 26 = .ok (.iload_n 3, 1) := by decide +kernel
theorem d_M_movePattern_27 : decode b_M_movePattern 27 = .ok (.bipush 16, 2) := by decide +kernel
theorem d_M_movePattern_29 : decode b_M_movePattern 29 = .ok (.if_icmp .ge 31, 3) := by decide +kernel
theorem d_M_movePattern_32 : decode b_M_movePattern 32 = .ok (.aload_n 0, 1) := by decide +kernel
theorem d_M_movePattern_33 : decode b_M_movePattern 33 = .ok (.getfield 46, 3) := by decide +kernel
theorem d_M_movePattern_36 : decode b_M_movePattern 36 = .ok (.bipush 16, 2) := by decide +kernel
theorem d_M_movePattern_38 : decode b_M_movePattern 38 = .ok (.iload_n 2, 1) := by decide +kernel
theorem d_M_movePattern_39 : decode b_M_movePattern 39 = .ok (.imul, 1) := by decide +kernel
theorem d_M_movePattern_40 : decode b_M_movePattern 40 = .ok (.iload_n 3, 1) := by decide +kernel
theorem d_M_movePattern_41 : decode b_M_movePattern 41 = .ok (.iadd, 1) := by decide +kernel
theorem d_M_movePattern_42 : decode b_M_movePattern 42 = .ok (.aload_n 0, 1) := by decide +kernel
theorem d_M_movePattern_43 : decode b_M_movePattern 43 = .ok (.getfield 46, 3) := by decide +kernel
theorem d_M_movePattern_46 : decode b_M_movePattern 46 = .ok (.bipush 16, 2) := by decide +kernel
theorem d_M_movePattern_48 : decode b_M_movePattern 48 = .ok (.iload_n 1, 1) := by decide +kernel
theorem d_M_movePattern_49 : decode b_M_movePattern 49 = .ok (.imul, 1) := by decide +kernel
theorem d_M_movePattern_50 : decode b_M_movePattern 50 = .ok (.iload_n 3, 1) := by decide +kernel
theorem d_M_movePattern_51 : decode b_M_movePattern 51 = .ok (.iadd, 1) := by decide +kernel
theorem d_M_movePattern_52 : decode b_M_movePattern 52 = .ok (.iaload, 1) := by decide +kernel
theorem d_M_movePattern_53 : decode b_M_movePattern 53 = .ok (.iastore, 1) := by decide +kernel
theorem d_M_movePattern_54 : decode b_M_movePattern 54 = .ok (.iinc 3 1, 3) := by decide +kernel
theorem d_M_movePattern_57 : decode b_M_movePattern 57 = .ok (.goto (-31), 3) := by decide +kernel
theorem d_M_movePattern_60 : decode b_M_movePattern 60 = .ok (.iconst 0, 1) := by decide +kernel
theorem d_M_movePattern_61 : decode b_M_movePattern 61 = .ok (.istore_n 3, 1) := by decide +kernel
theorem d_M_movePattern_62 : decode b_M_movePattern 62 = .ok (.iload_n 3, 1) := by decide +kernel
theorem d_M_movePattern_63 : decode b_M_movePattern 63 = .ok (.bipush 17, 2) := by decide +kernel
theorem d_M_movePattern_65 : decode b_M_movePattern 65 = .ok (.if_icmp .ge 31, 3) := by decide +kernel
theorem d_M_movePattern_68 : decode b_M_movePattern 68 = .ok (.aload_n 0, 1) := by decide +kernel
theorem d_M_movePattern_69 : decode b_M_movePattern 69 = .ok (.getfield 49, 3) := by decide +kernel
theorem d_M_movePattern_72 : decode b_M_movePattern 72 = .ok (.bipush 17, 2) := by decide +kernel
theorem d_M_movePattern_74 : decode b_M_movePattern 74 = .ok (.iload_n 2, 1) := by decide +kernel
theorem d_M_movePattern_75 : decode b_M_movePattern 75 = .ok (.imul, 1) := by decide +kernel
theorem d_M_movePattern_76 : decode b_M_movePattern 76 = .ok (.iload_n 3, 1) := by decide +kernel
theorem d_M_movePattern_77 : decode b_M_movePattern 77 = .ok (.iadd, 1) := by decide +kernel
theorem d_M_movePattern_78 : decode b_M_movePattern 78 = .ok (.aload_n 0, 1) := by decide +kernel
theorem d_M_movePattern_79 : decode b_M_movePattern 79 = .ok (.getfield 49, 3) := by decide +kernel
theorem d_M_movePattern_82 : decode b_M_movePattern 82 = .ok (.bipush 17, 2) := by decide +kernel
theorem d_M_movePattern_84 : decode b_M_movePattern 84 = .ok (.iload_n 1, 1) := by decide +kernel
theorem d_M_movePattern_85 : decode b_M_movePattern 85 = .ok (.imul, 1) := by decide +kernel
theorem d_M_movePattern_86 : decode b_M_movePattern 86 = .ok (.iload_n 3, 1) := by decide +kernel
theorem d_M_movePattern_87 : decode b_M_movePattern 87 = .ok (.iadd, 1) := by decide +kernel
theorem d_M_movePattern_88 : decode b_M_movePattern 88 = .ok (.iaload, 1) := by decide +kernel
theorem d_M_movePattern_89 : decode b_M_movePattern 89 = .ok (.iastore, 1) := by decide +kernel
theorem d_M_movePattern_90 : decode b_M_movePattern 90 = .ok (.iinc 3 1, 3) := by decide +kernel
theorem d_M_movePattern_93 : decode b_M_movePattern 93 = .ok (.goto (-31), 3) := by decide +kernel
theorem d_M_movePattern_96 : decode b_M_movePattern 96 = .ok (.return_, 1) := by decide +kernel
def lay_M_movePattern (pc : Nat) : List Nat := if pc = 0 then [0, 1, 2] else if pc = 26 then [0, 1, 2, 3] else if pc = 62 then [0, 1, 2, 3] else []
noncomputable def sg_M_movePattern_0 (v0 : Nat) (v1 : Int32) (v2 : Int32) (w : hy_W) : Option hy_N := (hy_gr w v0 6 15).bind fun r1 => (hy_gr w v0 6 15).bind fun r2 => (hy_ai w r2 v1).bind fun x3 => (hy_pa w 0 r1 v2 (.int x3)).bind fun w4 => (hy_gr w4 v0 6 16).bind fun r5 => (hy_gr w4 v0 6 16).bind fun r6 => (hy_ai w4 r6 v1).bind fun x7 => (hy_pa w4 0 r5 v2 (.int x7)).bind fun w8 => some (.inl (26, [.ref v0, .int v1, .int v2, .int 0], w8))
noncomputable def sg_M_movePattern_26 (v0 : Nat) (v1 : Int32) (v2 : Int32) (v3 : Int32) (w : hy_W) : Option hy_N := if (16 : Int32) ≤ v3 then (some (.inl (62, [.ref v0, .int v1, .int v2, .int 0], w))) else ((hy_gr w v0 6 17).bind fun r2 => (hy_gr w v0 6 17).bind fun r3 => (hy_ai w r3 ((16 * v1) + v3)).bind fun x4 => (hy_pa w 0 r2 ((16 * v2) + v3) (.int x4)).bind fun w5 => some (.inl (26, [.ref v0, .int v1, .int v2, .int (v3 + 1)], w5)))
noncomputable def sg_M_movePattern_62 (v0 : Nat) (v1 : Int32) (v2 : Int32) (v3 : Int32) (w : hy_W) : Option hy_N := if (17 : Int32) ≤ v3 then (some (.inr (.inl none, w))) else ((hy_gr w v0 6 18).bind fun r2 => (hy_gr w v0 6 18).bind fun r3 => (hy_ai w r3 ((17 * v1) + v3)).bind fun x4 => (hy_pa w 0 r2 ((17 * v2) + v3) (.int x4)).bind fun w5 => some (.inl (62, [.ref v0, .int v1, .int v2, .int (v3 + 1)], w5)))
noncomputable def nx_M_movePattern (q : hy_P) : Option hy_N := match q with
  | (0, [.ref v0, .int v1, .int v2], w) => sg_M_movePattern_0 v0 v1 v2 w
  | (26, [.ref v0, .int v1, .int v2, .int v3], w) => sg_M_movePattern_26 v0 v1 v2 v3 w
  | (62, [.ref v0, .int v1, .int v2, .int v3], w) => sg_M_movePattern_62 v0 v1 v2 v3 w
  | _ => none
noncomputable def f_M_movePattern (av : List Value) (w : hy_W) : Option hy_O := hy_fx nx_M_movePattern (0, av, w)
set_option maxHeartbeats 4000000 in
set_option maxRecDepth 100000 in
theorem sk_M_movePattern_0 {p : Program} {l : Launch} {e : Env} {s : State} {m : MethodId} {args : Array Value} {below : List Frame} {meth : Method} {c : Code} {G : hy_G} {A : Nat → Prop} {ad0 : Nat → Nat} {w0 : hy_W} {o : hy_O} (hl9 : l.flags = flags0) (hA : hy_A G ad0 w0 s.heap.size = A) (B : hy_B p l e (hy_rm 0 0 w0) s m args below meth c "HyphenPatternsModel" b_M_movePattern 4 none [] G A) (v0 : Nat) (v1 : Int32) (v2 : Int32) (w : hy_W) (nx : hy_N) (h : sg_M_movePattern_0 v0 v1 v2 w = some nx) (K : hy_Nx lay_M_movePattern p l e (hy_rm 0 0 w0) s m args below meth c 4 G A ad0 w0.1.length (hy_Q below G ad0 w0 o args s) o nx) : hy_At lay_M_movePattern p l e (hy_rm 0 0 w0) s m args below meth c 4 G A ad0 w0.1.length (hy_Q below G ad0 w0 o args s) (0, [.ref v0, .int v1, .int v2], w) := by
  intro ad H locs cells slots ls S hok hl
  have hx := B.1
  have hb := B.2.1
  dsimp only at S hok
  have hl : lv_has ls 4 [(0, .ref (ad v0)), (1, .int v1), (2, .int v2)] := hl
  show W p l e (hy_rm 0 0 w0) s m args below meth c H locs cells slots (hy_Q below G ad0 w0 o args s) (F0 m 0 ls [])
  have hv_v0 : v0 < w.1.length := hok (.ref v0) (List.mem_of_getElem? (i := 0) rfl) v0 rfl
  obtain ⟨a_v0, ha_v0⟩ : ∃ a, ad v0 = a := ⟨_, rfl⟩
  rw [ha_v0] at hl
  unfold sg_M_movePattern_0 at h
  refine lv_aload_n hx hb d_M_movePattern_0 rfl (lv_at hl 0 rfl) ?_
  obtain ⟨r1, hr1, h⟩ := hy_bd h
  refine hy_getr B S ha_v0 hr1 rfl (Nat.le_of_ble_eq_true rfl) i_6 (j := 15) tw_665 (fun _ h => h) d_M_movePattern_1 (fun a_r1 ha_r1 hv_r1 => ?_)
  refine lv_iload_n hx hb d_M_movePattern_4 rfl (lv_at hl 2 rfl) ?_
  refine lv_aload_n hx hb d_M_movePattern_5 rfl (lv_at hl 0 rfl) ?_
  obtain ⟨r2, hr2, h⟩ := hy_bd h
  refine hy_getr B S ha_v0 hr2 rfl (Nat.le_of_ble_eq_true rfl) i_6 (j := 15) tw_665 (fun _ h => h) d_M_movePattern_6 (fun a_r2 ha_r2 hv_r2 => ?_)
  refine lv_iload_n hx hb d_M_movePattern_9 rfl (lv_at hl 1 rfl) ?_
  obtain ⟨x3, hx3, h⟩ := hy_bd h
  refine hy_iald B S ha_r2 hx3 d_M_movePattern_10 ?_
  obtain ⟨w4, hw4, h⟩ := hy_bd h
  refine hy_iast B S ha_r1 hw4 d_M_movePattern_11 (fun H locs S hl_w4 => ?_)
  refine lv_aload_n hx hb d_M_movePattern_12 rfl (lv_at hl 0 rfl) ?_
  obtain ⟨r5, hr5, h⟩ := hy_bd h
  refine hy_getr B S ha_v0 hr5 rfl (Nat.le_of_ble_eq_true rfl) i_6 (j := 16) tw_666 (fun _ h => h) d_M_movePattern_13 (fun a_r5 ha_r5 hv_r5 => ?_)
  refine lv_iload_n hx hb d_M_movePattern_16 rfl (lv_at hl 2 rfl) ?_
  refine lv_aload_n hx hb d_M_movePattern_17 rfl (lv_at hl 0 rfl) ?_
  obtain ⟨r6, hr6, h⟩ := hy_bd h
  refine hy_getr B S ha_v0 hr6 rfl (Nat.le_of_ble_eq_true rfl) i_6 (j := 16) tw_666 (fun _ h => h) d_M_movePattern_18 (fun a_r6 ha_r6 hv_r6 => ?_)
  refine lv_iload_n hx hb d_M_movePattern_21 rfl (lv_at hl 1 rfl) ?_
  obtain ⟨x7, hx7, h⟩ := hy_bd h
  refine hy_iald B S ha_r6 hx7 d_M_movePattern_22 ?_
  obtain ⟨w8, hw8, h⟩ := hy_bd h
  refine hy_iast B S ha_r5 hw8 d_M_movePattern_23 (fun H locs S hl_w8 => ?_)
  refine lv_iconst (v := 0) hx hb d_M_movePattern_24 (by decide) ?_
  refine lv_istore_n (lv' := [(3, .int 0), (0, .ref a_v0), (1, .int v1), (2, .int v2)]) hx hb d_M_movePattern_25 rfl hl (Nat.le_of_ble_eq_true rfl) rfl (fun ls hl => ?_)
  cases h
  exact hy_jump K S (hy_okr (by omega) (hy_oki (hy_oki (hy_oki hy_ok0)))) (lv_sub hl [1, 2, 3, 0] rfl) (by subst ha_v0; rfl) (by subst ha_v0; rfl)
set_option maxHeartbeats 4000000 in
set_option maxRecDepth 100000 in
theorem sk_M_movePattern_26 {p : Program} {l : Launch} {e : Env} {s : State} {m : MethodId} {args : Array Value} {below : List Frame} {meth : Method} {c : Code} {G : hy_G} {A : Nat → Prop} {ad0 : Nat → Nat} {w0 : hy_W} {o : hy_O} (hl9 : l.flags = flags0) (hA : hy_A G ad0 w0 s.heap.size = A) (B : hy_B p l e (hy_rm 0 0 w0) s m args below meth c "HyphenPatternsModel" b_M_movePattern 4 none [] G A) (v0 : Nat) (v1 : Int32) (v2 : Int32) (v3 : Int32) (w : hy_W) (nx : hy_N) (h : sg_M_movePattern_26 v0 v1 v2 v3 w = some nx) (K : hy_Nx lay_M_movePattern p l e (hy_rm 0 0 w0) s m args below meth c 4 G A ad0 w0.1.length (hy_Q below G ad0 w0 o args s) o nx) : hy_At lay_M_movePattern p l e (hy_rm 0 0 w0) s m args below meth c 4 G A ad0 w0.1.length (hy_Q below G ad0 w0 o args s) (26, [.ref v0, .int v1, .int v2, .int v3], w) := by
  intro ad H locs cells slots ls S hok hl
  have hx := B.1
  have hb := B.2.1
  dsimp only at S hok
  have hl : lv_has ls 4 [(0, .ref (ad v0)), (1, .int v1), (2, .int v2), (3, .int v3)] := hl
  show W p l e (hy_rm 0 0 w0) s m args below meth c H locs cells slots (hy_Q below G ad0 w0 o args s) (F0 m 26 ls [])
  have hv_v0 : v0 < w.1.length := hok (.ref v0) (List.mem_of_getElem? (i := 0) rfl) v0 rfl
  obtain ⟨a_v0, ha_v0⟩ : ∃ a, ad v0 = a := ⟨_, rfl⟩
  rw [ha_v0] at hl
  unfold sg_M_movePattern_26 at h
  refine lv_iload_n hx hb d_M_movePattern_26 rfl (lv_at hl 3 rfl) ?_
  refine lv_bipush (v := 16) hx hb d_M_movePattern_27 (by decide) ?_
  refine lv_icmp_ge (tgt := 60) hx hb d_M_movePattern_29 (by decide) (fun c1 => ?_) (fun c1 => ?_)
  · rw [if_pos c1] at h
    refine lv_iconst (v := 0) hx hb d_M_movePattern_60 (by decide) ?_
    refine lv_istore_n (lv' := [(3, .int 0), (0, .ref a_v0), (1, .int v1), (2, .int v2)]) hx hb d_M_movePattern_61 rfl hl (Nat.le_of_ble_eq_true rfl) rfl (fun ls hl => ?_)
    cases h
    exact hy_jump K S (hy_okr (by omega) (hy_oki (hy_oki (hy_oki hy_ok0)))) (lv_sub hl [1, 2, 3, 0] rfl) (by subst ha_v0; rfl) (by subst ha_v0; rfl)
  · rw [if_neg c1] at h
    refine lv_aload_n hx hb d_M_movePattern_32 rfl (lv_at hl 0 rfl) ?_
    obtain ⟨r2, hr2, h⟩ := hy_bd h
    refine hy_getr B S ha_v0 hr2 rfl (Nat.le_of_ble_eq_true rfl) i_6 (j := 17) tw_667 (fun _ h => h) d_M_movePattern_33 (fun a_r2 ha_r2 hv_r2 => ?_)
    refine lv_bipush (v := 16) hx hb d_M_movePattern_36 (by decide) ?_
    refine lv_iload_n hx hb d_M_movePattern_38 rfl (lv_at hl 2 rfl) ?_
    refine lv_imul hx hb d_M_movePattern_39 ?_
    refine lv_iload_n hx hb d_M_movePattern_40 rfl (lv_at hl 3 rfl) ?_
    refine lv_iadd hx hb d_M_movePattern_41 ?_
    refine lv_aload_n hx hb d_M_movePattern_42 rfl (lv_at hl 0 rfl) ?_
    obtain ⟨r3, hr3, h⟩ := hy_bd h
    refine hy_getr B S ha_v0 hr3 rfl (Nat.le_of_ble_eq_true rfl) i_6 (j := 17) tw_667 (fun _ h => h) d_M_movePattern_43 (fun a_r3 ha_r3 hv_r3 => ?_)
    refine lv_bipush (v := 16) hx hb d_M_movePattern_46 (by decide) ?_
    refine lv_iload_n hx hb d_M_movePattern_48 rfl (lv_at hl 1 rfl) ?_
    refine lv_imul hx hb d_M_movePattern_49 ?_
    refine lv_iload_n hx hb d_M_movePattern_50 rfl (lv_at hl 3 rfl) ?_
    refine lv_iadd hx hb d_M_movePattern_51 ?_
    obtain ⟨x4, hx4, h⟩ := hy_bd h
    refine hy_iald B S ha_r3 hx4 d_M_movePattern_52 ?_
    obtain ⟨w5, hw5, h⟩ := hy_bd h
    refine hy_iast B S ha_r2 hw5 d_M_movePattern_53 (fun H locs S hl_w5 => ?_)
    refine lv_iinc (v := (v3 + 1)) (lv' := [(3, .int (v3 + 1)), (0, .ref a_v0), (1, .int v1), (2, .int v2)]) hx hb d_M_movePattern_54 hl (k := 3) rfl rfl (Nat.le_of_ble_eq_true rfl) rfl (fun ls hl => ?_)
    refine lv_goto (tgt := 26) hx hb d_M_movePattern_57 (by decide) ?_
    cases h
    exact hy_jump K S (hy_okr (by omega) (hy_oki (hy_oki (hy_oki hy_ok0)))) (lv_sub hl [1, 2, 3, 0] rfl) (by subst ha_v0; rfl) (by subst ha_v0; rfl)
set_option maxHeartbeats 4000000 in
set_option maxRecDepth 100000 in
theorem sk_M_movePattern_62 {p : Program} {l : Launch} {e : Env} {s : State} {m : MethodId} {args : Array Value} {below : List Frame} {meth : Method} {c : Code} {G : hy_G} {A : Nat → Prop} {ad0 : Nat → Nat} {w0 : hy_W} {o : hy_O} (hl9 : l.flags = flags0) (hA : hy_A G ad0 w0 s.heap.size = A) (B : hy_B p l e (hy_rm 0 0 w0) s m args below meth c "HyphenPatternsModel" b_M_movePattern 4 none [] G A) (v0 : Nat) (v1 : Int32) (v2 : Int32) (v3 : Int32) (w : hy_W) (nx : hy_N) (h : sg_M_movePattern_62 v0 v1 v2 v3 w = some nx) (K : hy_Nx lay_M_movePattern p l e (hy_rm 0 0 w0) s m args below meth c 4 G A ad0 w0.1.length (hy_Q below G ad0 w0 o args s) o nx) : hy_At lay_M_movePattern p l e (hy_rm 0 0 w0) s m args below meth c 4 G A ad0 w0.1.length (hy_Q below G ad0 w0 o args s) (62, [.ref v0, .int v1, .int v2, .int v3], w) := by
  intro ad H locs cells slots ls S hok hl
  have hx := B.1
  have hb := B.2.1
  dsimp only at S hok
  have hl : lv_has ls 4 [(0, .ref (ad v0)), (1, .int v1), (2, .int v2), (3, .int v3)] := hl
  show W p l e (hy_rm 0 0 w0) s m args below meth c H locs cells slots (hy_Q below G ad0 w0 o args s) (F0 m 62 ls [])
  have hv_v0 : v0 < w.1.length := hok (.ref v0) (List.mem_of_getElem? (i := 0) rfl) v0 rfl
  obtain ⟨a_v0, ha_v0⟩ : ∃ a, ad v0 = a := ⟨_, rfl⟩
  rw [ha_v0] at hl
  unfold sg_M_movePattern_62 at h
  refine lv_iload_n hx hb d_M_movePattern_62 rfl (lv_at hl 3 rfl) ?_
  refine lv_bipush (v := 17) hx hb d_M_movePattern_63 (by decide) ?_
  refine lv_icmp_ge (tgt := 96) hx hb d_M_movePattern_65 (by decide) (fun c1 => ?_) (fun c1 => ?_)
  · rw [if_pos c1] at h
    cases h
    cases K
    exact hy_vret hA B S d_M_movePattern_96
  · rw [if_neg c1] at h
    refine lv_aload_n hx hb d_M_movePattern_68 rfl (lv_at hl 0 rfl) ?_
    obtain ⟨r2, hr2, h⟩ := hy_bd h
    refine hy_getr B S ha_v0 hr2 rfl (Nat.le_of_ble_eq_true rfl) i_6 (j := 18) tw_668 (fun _ h => h) d_M_movePattern_69 (fun a_r2 ha_r2 hv_r2 => ?_)
    refine lv_bipush (v := 17) hx hb d_M_movePattern_72 (by decide) ?_
    refine lv_iload_n hx hb d_M_movePattern_74 rfl (lv_at hl 2 rfl) ?_
    refine lv_imul hx hb d_M_movePattern_75 ?_
    refine lv_iload_n hx hb d_M_movePattern_76 rfl (lv_at hl 3 rfl) ?_
    refine lv_iadd hx hb d_M_movePattern_77 ?_
    refine lv_aload_n hx hb d_M_movePattern_78 rfl (lv_at hl 0 rfl) ?_
    obtain ⟨r3, hr3, h⟩ := hy_bd h
    refine hy_getr B S ha_v0 hr3 rfl (Nat.le_of_ble_eq_true rfl) i_6 (j := 18) tw_668 (fun _ h => h) d_M_movePattern_79 (fun a_r3 ha_r3 hv_r3 => ?_)
    refine lv_bipush (v := 17) hx hb d_M_movePattern_82 (by decide) ?_
    refine lv_iload_n hx hb d_M_movePattern_84 rfl (lv_at hl 1 rfl) ?_
    refine lv_imul hx hb d_M_movePattern_85 ?_
    refine lv_iload_n hx hb d_M_movePattern_86 rfl (lv_at hl 3 rfl) ?_
    refine lv_iadd hx hb d_M_movePattern_87 ?_
    obtain ⟨x4, hx4, h⟩ := hy_bd h
    refine hy_iald B S ha_r3 hx4 d_M_movePattern_88 ?_
    obtain ⟨w5, hw5, h⟩ := hy_bd h
    refine hy_iast B S ha_r2 hw5 d_M_movePattern_89 (fun H locs S hl_w5 => ?_)
    refine lv_iinc (v := (v3 + 1)) (lv' := [(3, .int (v3 + 1)), (0, .ref a_v0), (1, .int v1), (2, .int v2)]) hx hb d_M_movePattern_90 hl (k := 3) rfl rfl (Nat.le_of_ble_eq_true rfl) rfl (fun ls hl => ?_)
    refine lv_goto (tgt := 62) hx hb d_M_movePattern_93 (by decide) ?_
    cases h
    exact hy_jump K S (hy_okr (by omega) (hy_oki (hy_oki (hy_oki hy_ok0)))) (lv_sub hl [1, 2, 3, 0] rfl) (by subst ha_v0; rfl) (by subst ha_v0; rfl)
theorem nk_M_movePattern {p : Program} {l : Launch} {e : Env} {s : State} {m : MethodId} {args : Array Value} {below : List Frame} {meth : Method} {c : Code} {G : hy_G} {A : Nat → Prop} {ad0 : Nat → Nat} {w0 : hy_W} {o : hy_O} (hl9 : l.flags = flags0) (hA : hy_A G ad0 w0 s.heap.size = A) (B : hy_B p l e (hy_rm 0 0 w0) s m args below meth c "HyphenPatternsModel" b_M_movePattern 4 none [] G A) (q : hy_P) (nx : hy_N) (hq : nx_M_movePattern q = some nx) (K : hy_Nx lay_M_movePattern p l e (hy_rm 0 0 w0) s m args below meth c 4 G A ad0 w0.1.length (hy_Q below G ad0 w0 o args s) o nx) : hy_At lay_M_movePattern p l e (hy_rm 0 0 w0) s m args below meth c 4 G A ad0 w0.1.length (hy_Q below G ad0 w0 o args s) q := by
  unfold nx_M_movePattern at hq
  split at hq
  · exact sk_M_movePattern_0 hl9 hA B _ _ _ _ nx hq K
  · exact sk_M_movePattern_26 hl9 hA B _ _ _ _ _ nx hq K
  · exact sk_M_movePattern_62 hl9 hA B _ _ _ _ _ nx hq K
  · cases hq
theorem c_M_movePattern {l : Launch} (hl9 : l.flags = flags0) (G : hy_G) (ad : Nat → Nat) {v0 : Nat} {v1 : Int32} {v2 : Int32} {w : hy_W} {o : hy_O} (h : f_M_movePattern [.ref v0, .int v1, .int v2] w = some o) : hy_M l y_M_movePattern (Cond.code y_M_movePattern b_M_movePattern 4 none :: hy_T) 0 0 G ad [.ref v0, .int v1, .int v2] w o := by
  obtain ⟨n, hn⟩ := hy_fx_iff.mp h
  refine hy_ofW hl9 (by decide +kernel) (Nat.le_of_ble_eq_true rfl) (fun p e s m args below meth c A hA hi B S hok ls hl => ?_)
  exact hy_loop (nk_M_movePattern hl9 hA B) n _ hn ad s.heap [] 0 0 ls S hok hl
