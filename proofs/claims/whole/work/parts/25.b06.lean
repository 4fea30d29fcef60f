/-! BODIES (printed by our translator): D_toRule, J_newLength, J_copyO3, J_copyO2, A_grow1, A_grow0, A_add3, A_add1, A_set, H_keepDraft, H_pattern, X_pattern -/
theorem d_D_toRule_0 : decode b_D_toRule 0 = .ok (.new 45, 3) := by decide +kernel
theorem d_D_toRule_3 : decode b_D_toRule 3 = .ok (.dup, 1) := by decide +kernel
theorem d_D_toRule_4 : decode b_D_toRule 4 = .ok (.aload_n 0, 1) := by decide +kernel
theorem d_D_toRule_5 : decode b_D_toRule 5 = .ok (.getfield 9, 3) := by decide +kernel
theorem d_D_toRule_8 : decode b_D_toRule 8 = .ok (.aload_n 0, 1) := by decide +kernel
theorem d_D_toRule_9 : decode b_D_toRule 9 = .ok (.getfield 18, 3) := by decide +kernel
theorem d_D_toRule_12 : decode b_D_toRule 12 = .ok (.invokestatic 47, 3) := by decide +kernel
theorem d_D_toRule_15 : decode b_D_toRule 15 = .ok (.aload_n 0, 1) := by decide +kernel
theorem d_D_toRule_16 : decode b_D_toRule 16 = .ok (.getfield 15, 3) := by decide +kernel
theorem d_D_toRule_19 : decode b_D_toRule 19 = .ok (.aload_n 0, 1) := by decide +kernel
theorem d_D_toRule_20 : decode b_D_toRule 20 = .ok (.getfield 18, 3) := by decide +kernel
theorem d_D_toRule_23 : decode b_D_toRule 23 = .ok (.iconst 1, 1) := by decide +kernel
theorem d_D_toRule_24 : decode b_D_toRule 24 = .ok (.iadd, 1) := by decide +kernel
theorem d_D_toRule_25 : decode b_D_toRule 25 = .ok (.invokestatic 47, 3) := by decide +kernel
theorem d_D_toRule_28 : decode b_D_toRule 28 = .ok (.invokespecial 53, 3) := by decide +kernel
theorem d_D_toRule_31 : decode b_D_toRule 31 = .ok (.areturn, 1) := by decide +kernel
def lay_D_toRule (pc : Nat) : List Nat := if pc = 0 then [0] else []
noncomputable def sg_D_toRule_0 (v0 : Nat) (w : hy_W) : Option hy_N := (hy_nw w (.inl (4, [.null, .null])) 2).bind fun w1 => (hy_gr w1 v0 0 0).bind fun r4 => (hy_gi w1 v0 0 2).bind fun x5 => hy_br (f_J_copyI [.ref r4, .int x5] w1) fun r8 w6 => (hy_gr w6 v0 0 1).bind fun r9 => (hy_gi w6 v0 0 2).bind fun x10 => hy_br (f_J_copyI [.ref r9, .int (x10 + 1)] w6) fun r13 w11 => hy_bv (f_U_init [.ref w.1.length, .ref r8, .ref r13] w11) fun w14 => some (.inr (.inl (some (.ref w.1.length)), w14))
noncomputable def nx_D_toRule (q : hy_P) : Option hy_N := match q with
  | (0, [.ref v0], w) => sg_D_toRule_0 v0 w
  | _ => none
noncomputable def f_D_toRule (av : List Value) (w : hy_W) : Option hy_O := hy_fx nx_D_toRule (0, av, w)
set_option maxHeartbeats 4000000 in
set_option maxRecDepth 100000 in
theorem sk_D_toRule_0 {p : Program} {l : Launch} {e : Env} {s : State} {m : MethodId} {args : Array Value} {below : List Frame} {meth : Method} {c : Code} {G : hy_G} {A : Nat → Prop} {ad0 : Nat → Nat} {w0 : hy_W} {o : hy_O} (hl9 : l.flags = flags0) (hA : hy_A G ad0 w0 s.heap.size = A) (B : hy_B p l e (hy_rm 2 40 w0) s m args below meth c "HyphenPatterns$Draft" b_D_toRule 1 (some (.object "HyphenPatterns$Rule")) [] G A) (v0 : Nat) (w : hy_W) (nx : hy_N) (h : sg_D_toRule_0 v0 w = some nx) (K : hy_Nx lay_D_toRule p l e (hy_rm 2 40 w0) s m args below meth c 1 G A ad0 w0.1.length (hy_Q below G ad0 w0 o args s) o nx) : hy_At lay_D_toRule p l e (hy_rm 2 40 w0) s m args below meth c 1 G A ad0 w0.1.length (hy_Q below G ad0 w0 o args s) (0, [.ref v0], w) := by
  intro ad H locs cells slots ls S hok hl
  have hx := B.1
  have hb := B.2.1
  dsimp only at S hok
  have hl : lv_has ls 1 [(0, .ref (ad v0))] := hl
  show W p l e (hy_rm 2 40 w0) s m args below meth c H locs cells slots (hy_Q below G ad0 w0 o args s) (F0 m 0 ls [])
  have hv_v0 : v0 < w.1.length := hok (.ref v0) (List.mem_of_getElem? (i := 0) rfl) v0 rfl
  obtain ⟨a_v0, ha_v0⟩ : ∃ a, ad v0 = a := ⟨_, rfl⟩
  rw [ha_v0] at hl
  unfold sg_D_toRule_0 at h
  obtain ⟨w1, hw1, h⟩ := hy_bd h
  refine hy_new B S hw1 rfl i_4 t_4 t_4_ok tw_512 tw_513 tw_19 hy_df4 hy_no4 d_D_toRule_0 (fun ad2 a_q3 H hag ha_q3 S hl_w1 => ?_)
  have ha_v0 : ad2 v0 = a_v0 := (hag v0 (by omega)).trans ha_v0
  refine lv_dup hx hb d_D_toRule_3 rfl ?_
  refine lv_aload_n hx hb d_D_toRule_4 rfl (lv_at hl 0 rfl) ?_
  obtain ⟨r4, hr4, h⟩ := hy_bd h
  refine hy_getr B S ha_v0 hr4 rfl (Nat.le_of_ble_eq_true rfl) i_0 (j := 0) tw_63 (fun _ h => h) d_D_toRule_5 (fun a_r4 ha_r4 hv_r4 => ?_)
  refine lv_aload_n hx hb d_D_toRule_8 rfl (lv_at hl 0 rfl) ?_
  obtain ⟨x5, hx5, h⟩ := hy_bd h
  refine hy_geti B S ha_v0 hx5 rfl (Nat.le_of_ble_eq_true rfl) i_0 (j := 2) tw_66 (fun _ h => h) d_D_toRule_9 ?_
  obtain ⟨r8, w6, hq_w6, h⟩ := hy_br_spec h
  refine hy_callr (hy_runS (rest := [.ref a_q3, .ref a_q3]) (As := [.ref a_r4, .int x5]) B S (by subst ha_r4; rfl) (c_J_copyI hl9 G ad2 hq_w6) (hy_okr (by omega) (hy_oki hy_ok0)) tw_516 tw_20 tw_514 tw_515 (by decide) rfl (Nat.le_of_ble_eq_true rfl) (Nat.le_of_ble_eq_true rfl) hl.1 (Nat.le_of_ble_eq_true rfl) d_D_toRule_12) (fun ad7 H locs cells slots hag hl_w6 S a_r8 ha_r8 hv_r8 => ?_)
  have ha_v0 : ad7 v0 = a_v0 := (hag v0 (by omega)).trans ha_v0
  have ha_q3 : ad7 w.1.length = a_q3 := (hag w.1.length (by omega)).trans ha_q3
  refine lv_aload_n hx hb d_D_toRule_15 rfl (lv_at hl 0 rfl) ?_
  obtain ⟨r9, hr9, h⟩ := hy_bd h
  refine hy_getr B S ha_v0 hr9 rfl (Nat.le_of_ble_eq_true rfl) i_0 (j := 1) tw_65 (fun _ h => h) d_D_toRule_16 (fun a_r9 ha_r9 hv_r9 => ?_)
  refine lv_aload_n hx hb d_D_toRule_19 rfl (lv_at hl 0 rfl) ?_
  obtain ⟨x10, hx10, h⟩ := hy_bd h
  refine hy_geti B S ha_v0 hx10 rfl (Nat.le_of_ble_eq_true rfl) i_0 (j := 2) tw_66 (fun _ h => h) d_D_toRule_20 ?_
  refine lv_iconst (v := 1) hx hb d_D_toRule_23 (by decide) ?_
  refine lv_iadd hx hb d_D_toRule_24 ?_
  obtain ⟨r13, w11, hq_w11, h⟩ := hy_br_spec h
  refine hy_callr (hy_runS (rest := [.ref a_r8, .ref a_q3, .ref a_q3]) (As := [.ref a_r9, .int (x10 + 1)]) B S (by subst ha_r9; rfl) (c_J_copyI hl9 G ad7 hq_w11) (hy_okr (by omega) (hy_oki hy_ok0)) tw_516 tw_20 tw_514 tw_515 (by decide) rfl (Nat.le_of_ble_eq_true rfl) (Nat.le_of_ble_eq_true rfl) hl.1 (Nat.le_of_ble_eq_true rfl) d_D_toRule_25) (fun ad12 H locs cells slots hag hl_w11 S a_r13 ha_r13 hv_r13 => ?_)
  have ha_v0 : ad12 v0 = a_v0 := (hag v0 (by omega)).trans ha_v0
  have ha_r8 : ad12 r8 = a_r8 := (hag r8 (by omega)).trans ha_r8
  have ha_q3 : ad12 w.1.length = a_q3 := (hag w.1.length (by omega)).trans ha_q3
  obtain ⟨w14, hq_w14, h⟩ := hy_bv_spec h
  refine hy_callv (hy_runI (rest := [.ref a_q3]) (As := [.ref a_r8, .ref a_r13]) (r := w.1.length) (b := a_q3) B S rfl ha_q3 (by subst ha_r8 ha_r13; rfl) (c_U_init hl9 G ad12 hq_w14) (hy_okr (by omega) (hy_okr (by omega) (hy_okr (by omega) hy_ok0))) tw_530 tw_19 tw_528 tw_529 rfl (by decide) rfl (Nat.le_of_ble_eq_true rfl) (Nat.le_of_ble_eq_true rfl) hl.1 (Nat.le_of_ble_eq_true rfl) d_D_toRule_28) (fun ad15 H locs cells slots hag hl_w14 S => ?_)
  have ha_v0 : ad15 v0 = a_v0 := (hag v0 (by omega)).trans ha_v0
  have ha_q3 : ad15 w.1.length = a_q3 := (hag w.1.length (by omega)).trans ha_q3
  cases h
  cases K
  exact hy_aret hA B S (Or.inl ⟨_, rfl⟩) ha_q3 (by omega) d_D_toRule_31
theorem nk_D_toRule {p : Program} {l : Launch} {e : Env} {s : State} {m : MethodId} {args : Array Value} {below : List Frame} {meth : Method} {c : Code} {G : hy_G} {A : Nat → Prop} {ad0 : Nat → Nat} {w0 : hy_W} {o : hy_O} (hl9 : l.flags = flags0) (hA : hy_A G ad0 w0 s.heap.size = A) (B : hy_B p l e (hy_rm 2 40 w0) s m args below meth c "HyphenPatterns$Draft" b_D_toRule 1 (some (.object "HyphenPatterns$Rule")) [] G A) (q : hy_P) (nx : hy_N) (hq : nx_D_toRule q = some nx) (K : hy_Nx lay_D_toRule p l e (hy_rm 2 40 w0) s m args below meth c 1 G A ad0 w0.1.length (hy_Q below G ad0 w0 o args s) o nx) : hy_At lay_D_toRule p l e (hy_rm 2 40 w0) s m args below meth c 1 G A ad0 w0.1.length (hy_Q below G ad0 w0 o args s) q := by
  unfold nx_D_toRule at hq
  split at hq
  · exact sk_D_toRule_0 hl9 hA B _ _ nx hq K
  · cases hq
theorem c_D_toRule {l : Launch} (hl9 : l.flags = flags0) (G : hy_G) (ad : Nat → Nat) {v0 : Nat} {w : hy_W} {o : hy_O} (h : f_D_toRule [.ref v0] w = some o) : hy_M l y_D_toRule (Cond.code y_D_toRule b_D_toRule 1 (some (.object "HyphenPatterns$Rule")) :: hy_T) 2 40 G ad [.ref v0] w o := by
  obtain ⟨n, hn⟩ := hy_fx_iff.mp h
  refine hy_ofW hl9 (by decide +kernel) (Nat.le_of_ble_eq_true rfl) (fun p e s m args below meth c A hA hi B S hok ls hl => ?_)
  exact hy_loop (nk_D_toRule hl9 hA B) n _ hn ad s.heap [] 0 0 ls S hok hl
theorem d_J_newLength_0 : decode b_J_newLength 0 = .ok (.iload_n 0, 1) := by decide +kernel
theorem d_J_newLength_1 : decode b_J_newLength 1 = .ok (.iload_n 1, 1) := by decide +kernel
theorem d_J_newLength_2 : decode b_J_newLength 2 = .ok (.iload_n 2, 1) := by decide +kernel
theorem d_J_newLength_3 : decode b_J_newLength 3 = .ok (.invokestatic 194, 3) := by decide +kernel
theorem d_J_newLength_6 : decode b_J_newLength 6 = .ok (.iadd, 1) := by decide +kernel
theorem d_J_newLength_7 : decode b_J_newLength 7 = .ok (.istore_n 3, 1) := by decide +kernel
theorem d_J_newLength_8 : decode b_J_newLength 8 = .ok (.iconst 0, 1) := by decide +kernel
theorem d_J_newLength_9 : decode b_J_newLength 9 = .ok (.iload_n 3, 1) := by decide +kernel
theorem d_J_newLength_10 : decode b_J_newLength 10 = .ok (.if_icmp .ge 11, 3) := by decide +kernel
theorem d_J_newLength_13 : decode b_J_newLength 13 = .ok (.iload_n 3, 1) := by decide +kernel
theorem d_J_newLength_14 : decode b_J_newLength 14 = .ok (.ldc 200, 2) := by decide +kernel
theorem d_J_newLength_16 : decode b_J_newLength 16 = .ok (.if_icmp .gt 5, 3) := by decide +kernel
theorem d_J_newLength_19 : decode b_J_newLength 19 = .ok (.iload_n 3, 1) := by decide +kernel
theorem d_J_newLength_20 : decode b_J_newLength 20 = .ok (.ireturn, 1) := by decide +kernel
theorem d_J_newLength_21 : decode b_J_newLength 21 = .ok (.iload_n 0, 1) := by decide +kernel
theorem d_J_newLength_22 : decode b_J_newLength 22 = .ok (.iload_n 1, 1) := by decide +kernel
theorem d_J_newLength_23 : decode b_J_newLength 23 = .ok (.invokestatic 201, 3) := by decide +kernel
theorem d_J_newLength_26 : decode b_J_newLength 26 = .ok (.ireturn, 1) := by decide +kernel
def lay_J_newLength (pc : Nat) : List Nat := if pc = 0 then [0, 1, 2] else if pc = 21 then [0, 1] else []
noncomputable def sg_J_newLength_0 (v0 : Int32) (v1 : Int32) (v2 : Int32) (w : hy_W) : Option hy_N := if (v0 + (if v1 < v2 then v2 else v1)) ≤ 0 then (some (.inl (21, [.int v0, .int v1], w))) else (if (2147483639 : Int32) < (v0 + (if v1 < v2 then v2 else v1)) then (some (.inl (21, [.int v0, .int v1], w))) else (some (.inr (.inl (some (.int (v0 + (if v1 < v2 then v2 else v1)))), w))))
noncomputable def sg_J_newLength_21 (v0 : Int32) (v1 : Int32) (w : hy_W) : Option hy_N := none
noncomputable def nx_J_newLength (q : hy_P) : Option hy_N := match q with
  | (0, [.int v0, .int v1, .int v2], w) => sg_J_newLength_0 v0 v1 v2 w
  | (21, [.int v0, .int v1], w) => sg_J_newLength_21 v0 v1 w
  | _ => none
noncomputable def f_J_newLength (av : List Value) (w : hy_W) : Option hy_O := hy_fx nx_J_newLength (0, av, w)
set_option maxHeartbeats 4000000 in
set_option maxRecDepth 100000 in
theorem sk_J_newLength_0 {p : Program} {l : Launch} {e : Env} {s : State} {m : MethodId} {args : Array Value} {below : List Frame} {meth : Method} {c : Code} {G : hy_G} {A : Nat → Prop} {ad0 : Nat → Nat} {w0 : hy_W} {o : hy_O} (hl9 : l.flags = flags0) (hA : hy_A G ad0 w0 s.heap.size = A) (B : hy_B p l e (hy_rm 1 14 w0) s m args below meth c "jdk/internal/util/ArraysSupport" b_J_newLength 4 (some .int) [] G A) (v0 : Int32) (v1 : Int32) (v2 : Int32) (w : hy_W) (nx : hy_N) (h : sg_J_newLength_0 v0 v1 v2 w = some nx) (K : hy_Nx lay_J_newLength p l e (hy_rm 1 14 w0) s m args below meth c 4 G A ad0 w0.1.length (hy_Q below G ad0 w0 o args s) o nx) : hy_At lay_J_newLength p l e (hy_rm 1 14 w0) s m args below meth c 4 G A ad0 w0.1.length (hy_Q below G ad0 w0 o args s) (0, [.int v0, .int v1, .int v2], w) := by
  intro ad H locs cells slots ls S hok hl
  have hx := B.1
  have hb := B.2.1
  dsimp only at S hok
  have hl : lv_has ls 4 [(0, .int v0), (1, .int v1), (2, .int v2)] := hl
  show W p l e (hy_rm 1 14 w0) s m args below meth c H locs cells slots (hy_Q below G ad0 w0 o args s) (F0 m 0 ls [])
  unfold sg_J_newLength_0 at h
  refine lv_iload_n hx hb d_J_newLength_0 rfl (lv_at hl 0 rfl) ?_
  refine lv_iload_n hx hb d_J_newLength_1 rfl (lv_at hl 1 rfl) ?_
  refine lv_iload_n hx hb d_J_newLength_2 rfl (lv_at hl 2 rfl) ?_
  refine va_mmax hx hb (by rw [B.2.2.1]; exact hl.1.symm) B.2.2.2.1 (B.2.2.2.2.1 _ tw_561) (B.2.2.2.2.1 _ tw_283) (B.2.2.2.2.1 _ tw_21) (B.2.2.2.2.1 _ tw_284) (Nat.le_of_ble_eq_true rfl) (Nat.le_of_ble_eq_true rfl) (by have := S.2.2.2.2.1; omega) (by have := S.2.2.2.2.2; omega) d_J_newLength_3 ?_
  refine lv_iadd hx hb d_J_newLength_6 ?_
  refine lv_istore_n (lv' := [(3, .int (v0 + (if v1 < v2 then v2 else v1))), (0, .int v0), (1, .int v1), (2, .int v2)]) hx hb d_J_newLength_7 rfl hl (Nat.le_of_ble_eq_true rfl) rfl (fun ls hl => ?_)
  refine lv_iconst (v := 0) hx hb d_J_newLength_8 (by decide) ?_
  refine lv_iload_n hx hb d_J_newLength_9 rfl (lv_at hl 0 rfl) ?_
  refine lv_icmp_ge (tgt := 21) hx hb d_J_newLength_10 (by decide) (fun c1 => ?_) (fun c1 => ?_)
  · rw [if_pos c1] at h
    cases h
    exact hy_jump K S (hy_oki (hy_oki hy_ok0)) (lv_sub hl [1, 2] rfl) (by rfl) (by rfl)
  · rw [if_neg c1] at h
    refine lv_iload_n hx hb d_J_newLength_13 rfl (lv_at hl 0 rfl) ?_
    refine lv_ldc (v := 2147483639) hx hb B.2.2.2.1 (B.2.2.2.2.1 _ tw_562) d_J_newLength_14 ?_
    refine lv_icmp_gt (tgt := 21) hx hb d_J_newLength_16 (by decide) (fun c2 => ?_) (fun c2 => ?_)
    · rw [if_pos c2] at h
      cases h
      exact hy_jump K S (hy_oki (hy_oki hy_ok0)) (lv_sub hl [1, 2] rfl) (by rfl) (by rfl)
    · rw [if_neg c2] at h
      refine lv_iload_n hx hb d_J_newLength_19 rfl (lv_at hl 0 rfl) ?_
      cases h
      cases K
      exact hy_iret hA B S d_J_newLength_20
set_option maxHeartbeats 4000000 in
set_option maxRecDepth 100000 in
theorem sk_J_newLength_21 {p : Program} {l : Launch} {e : Env} {s : State} {m : MethodId} {args : Array Value} {below : List Frame} {meth : Method} {c : Code} {G : hy_G} {A : Nat → Prop} {ad0 : Nat → Nat} {w0 : hy_W} {o : hy_O} (hl9 : l.flags = flags0) (hA : hy_A G ad0 w0 s.heap.size = A) (B : hy_B p l e (hy_rm 1 14 w0) s m args below meth c "jdk/internal/util/ArraysSupport" b_J_newLength 4 (some .int) [] G A) (v0 : Int32) (v1 : Int32) (w : hy_W) (nx : hy_N) (h : sg_J_newLength_21 v0 v1 w = some nx) (K : hy_Nx lay_J_newLength p l e (hy_rm 1 14 w0) s m args below meth c 4 G A ad0 w0.1.length (hy_Q below G ad0 w0 o args s) o nx) : hy_At lay_J_newLength p l e (hy_rm 1 14 w0) s m args below meth c 4 G A ad0 w0.1.length (hy_Q below G ad0 w0 o args s) (21, [.int v0, .int v1], w) := by
  intro ad H locs cells slots ls S hok hl
  have hx := B.1
  have hb := B.2.1
  dsimp only at S hok
  have hl : lv_has ls 4 [(0, .int v0), (1, .int v1)] := hl
  show W p l e (hy_rm 1 14 w0) s m args below meth c H locs cells slots (hy_Q below G ad0 w0 o args s) (F0 m 21 ls [])
  unfold sg_J_newLength_21 at h
  refine lv_iload_n hx hb d_J_newLength_21 rfl (lv_at hl 0 rfl) ?_
  refine lv_iload_n hx hb d_J_newLength_22 rfl (lv_at hl 1 rfl) ?_
  cases h
theorem nk_J_newLength {p : Program} {l : Launch} {e : Env} {s : State} {m : MethodId} {args : Array Value} {below : List Frame} {meth : Method} {c : Code} {G : hy_G} {A : Nat → Prop} {ad0 : Nat → Nat} {w0 : hy_W} {o : hy_O} (hl9 : l.flags = flags0) (hA : hy_A G ad0 w0 s.heap.size = A) (B : hy_B p l e (hy_rm 1 14 w0) s m args below meth c "jdk/internal/util/ArraysSupport" b_J_newLength 4 (some .int) [] G A) (q : hy_P) (nx : hy_N) (hq : nx_J_newLength q = some nx) (K : hy_Nx lay_J_newLength p l e (hy_rm 1 14 w0) s m args below meth c 4 G A ad0 w0.1.length (hy_Q below G ad0 w0 o args s) o nx) : hy_At lay_J_newLength p l e (hy_rm 1 14 w0) s m args below meth c 4 G A ad0 w0.1.length (hy_Q below G ad0 w0 o args s) q := by
  unfold nx_J_newLength at hq
  split at hq
  · exact sk_J_newLength_0 hl9 hA B _ _ _ _ nx hq K
  · exact sk_J_newLength_21 hl9 hA B _ _ _ nx hq K
  · cases hq
theorem c_J_newLength {l : Launch} (hl9 : l.flags = flags0) (G : hy_G) (ad : Nat → Nat) {v0 : Int32} {v1 : Int32} {v2 : Int32} {w : hy_W} {o : hy_O} (h : f_J_newLength [.int v0, .int v1, .int v2] w = some o) : hy_M l y_J_newLength (Cond.code y_J_newLength b_J_newLength 4 (some .int) :: hy_T) 1 14 G ad [.int v0, .int v1, .int v2] w o := by
  obtain ⟨n, hn⟩ := hy_fx_iff.mp h
  refine hy_ofW hl9 (by decide +kernel) (Nat.le_of_ble_eq_true rfl) (fun p e s m args below meth c A hA hi B S hok ls hl => ?_)
  exact hy_loop (nk_J_newLength hl9 hA B) n _ hn ad s.heap [] 0 0 ls S hok hl
theorem d_J_copyO3_0 : decode b_J_copyO3 0 = .ok (.aload_n 2, 1) := by decide +kernel
theorem d_J_copyO3_1 : decode b_J_copyO3 1 = .ok (.ldc 110, 2) := by decide +kernel
theorem d_J_copyO3_3 : decode b_J_copyO3 3 = .ok (.if_acmp .ne 10, 3) := by decide +kernel
theorem d_J_copyO3_6 : decode b_J_copyO3 6 = .ok (.iload_n 1, 1) := by decide +kernel
theorem d_J_copyO3_7 : decode b_J_copyO3 7 = .ok (.anewarray 2, 3) := by decide +kernel
theorem d_J_copyO3_10 : decode b_J_copyO3 10 = .ok (.goto 14, 3) := by decide +kernel
theorem d_J_copyO3_13 : decode b_J_copyO3 13 = .ok (.aload_n 2, 1) := by decide +kernel
theorem d_J_copyO3_14 : decode b_J_copyO3 14 = .ok (.invokevirtual 90, 3) := by decide +kernel
theorem d_J_copyO3_17 : decode b_J_copyO3 17 = .ok (.iload_n 1, 1) := by decide +kernel
theorem d_J_copyO3_18 : decode b_J_copyO3 18 = .ok (.invokestatic 95, 3) := by decide +kernel
theorem d_J_copyO3_21 : decode b_J_copyO3 21 = .ok (.checkcast 110, 3) := by decide +kernel
theorem d_J_copyO3_24 : decode b_J_copyO3 24 = .ok (.astore_n 3, 1) := by decide +kernel
theorem d_J_copyO3_25 : decode b_J_copyO3 25 = .ok (.aload_n 0, 1) := by decide +kernel
theorem d_J_copyO3_26 : decode b_J_copyO3 26 = .ok (.iconst 0, 1) := by decide +kernel
theorem d_J_copyO3_27 : decode b_J_copyO3 27 = .ok (.aload_n 3, 1) := by decide +kernel
theorem d_J_copyO3_28 : decode b_J_copyO3 28 = .ok (.iconst 0, 1) := by decide +kernel
theorem d_J_copyO3_29 : decode b_J_copyO3 29 = .ok (.aload_n 0, 1) := by decide +kernel
theorem d_J_copyO3_30 : decode b_J_copyO3 30 = .ok (.arraylength, 1) := by decide +kernel
theorem d_J_copyO3_31 : decode b_J_copyO3 31 = .ok (.iload_n 1, 1) := by decide +kernel
theorem d_J_copyO3_32 : decode b_J_copyO3 32 = .ok (.invokestatic 304, 3) := by decide +kernel
theorem d_J_copyO3_35 : decode b_J_copyO3 35 = .ok (.invokestatic 150, 3) := by decide +kernel
theorem d_J_copyO3_38 : decode b_J_copyO3 38 = .ok (.aload_n 3, 1) := by decide +kernel
theorem d_J_copyO3_39 : decode b_J_copyO3 39 = .ok (.areturn, 1) := by decide +kernel
def lay_J_copyO3 (pc : Nat) : List Nat := if pc = 0 then [0, 1, 2] else if pc = 24 then [0, 1] else []
noncomputable def sg_J_copyO3_0 (v0 : Nat) (v1 : Int32) (v2 : Nat) (w : hy_W) : Option hy_N := if v2 = 1 then ((hy_na w 3 v1).bind fun w2 => some (.inl (24, [.ref v0, .int v1, .ref w.1.length], w2))) else (if v2 ≠ 1 ∧ 1 ≠ 1 then none else none)
noncomputable def sg_J_copyO3_24 (v0 : Nat) (v1 : Int32) (s0 : Nat) (w : hy_W) : Option hy_N := if v0 ≠ 1 then (hy_ln w 3 v0).bind fun n1 => (hy_ac w 3 v0 s0 0 0 (if v1 < (nI n1) then v1 else (nI n1))).bind fun w2 => some (.inr (.inl (some (.ref s0)), w2)) else none
noncomputable def nx_J_copyO3 (q : hy_P) : Option hy_N := match q with
  | (0, [.ref v0, .int v1, .ref v2], w) => sg_J_copyO3_0 v0 v1 v2 w
  | (24, [.ref v0, .int v1, .ref s0], w) => sg_J_copyO3_24 v0 v1 s0 w
  | _ => none
noncomputable def f_J_copyO3 (av : List Value) (w : hy_W) : Option hy_O := hy_fx nx_J_copyO3 (0, av, w)
set_option maxHeartbeats 4000000 in
set_option maxRecDepth 100000 in
theorem sk_J_copyO3_0 {p : Program} {l : Launch} {e : Env} {s : State} {m : MethodId} {args : Array Value} {below : List Frame} {meth : Method} {c : Code} {G : hy_G} {A : Nat → Prop} {ad0 : Nat → Nat} {w0 : hy_W} {o : hy_O} (hl9 : l.flags = flags0) (hA : hy_A G ad0 w0 s.heap.size = A) (B : hy_B p l e (hy_rm 1 18 w0) s m args below meth c "java/util/Arrays" b_J_copyO3 4 (some (.array (.object "java/lang/Object"))) [] G A) (v0 : Nat) (v1 : Int32) (v2 : Nat) (w : hy_W) (nx : hy_N) (h : sg_J_copyO3_0 v0 v1 v2 w = some nx) (K : hy_Nx lay_J_copyO3 p l e (hy_rm 1 18 w0) s m args below meth c 4 G A ad0 w0.1.length (hy_Q below G ad0 w0 o args s) o nx) : hy_At lay_J_copyO3 p l e (hy_rm 1 18 w0) s m args below meth c 4 G A ad0 w0.1.length (hy_Q below G ad0 w0 o args s) (0, [.ref v0, .int v1, .ref v2], w) := by
  intro ad H locs cells slots ls S hok hl
  have hx := B.1
  have hb := B.2.1
  dsimp only at S hok
  have hl : lv_has ls 4 [(0, .ref (ad v0)), (1, .int v1), (2, .ref (ad v2))] := hl
  show W p l e (hy_rm 1 18 w0) s m args below meth c H locs cells slots (hy_Q below G ad0 w0 o args s) (F0 m 0 ls [])
  have hv_v0 : v0 < w.1.length := hok (.ref v0) (List.mem_of_getElem? (i := 0) rfl) v0 rfl
  obtain ⟨a_v0, ha_v0⟩ : ∃ a, ad v0 = a := ⟨_, rfl⟩
  rw [ha_v0] at hl
  have hv_v2 : v2 < w.1.length := hok (.ref v2) (List.mem_of_getElem? (i := 2) rfl) v2 rfl
  obtain ⟨a_v2, ha_v2⟩ : ∃ a, ad v2 = a := ⟨_, rfl⟩
  rw [ha_v2] at hl
  unfold sg_J_copyO3_0 at h
  refine lv_aload_n hx hb d_J_copyO3_0 rfl (lv_at hl 2 rfl) ?_
  obtain ⟨a_m1, ha_m1⟩ : ∃ a, ad 1 = a := ⟨_, rfl⟩
  have hv_m1 : 1 < w.1.length := S.1.2.2.2.1
  refine va_ldcM (mi := a_m1) hx hb B.2.2.2.1 (B.2.2.2.2.1 _ tw_587) (by rw [← ha_m1, S.1.2.2.2.2.2.1]; exact B.2.2.2.2.2.2.2.2.2.1.2.2.2.2.2.1) d_J_copyO3_1 ?_
  refine hy_acmp_ne (tgt := 13) B S ha_v2 ha_m1 (by omega) (by omega) (by by_cases z : v2 = 1; exact Or.inl z; rw [if_neg z] at h; exact Or.inr (hy_if h).1) d_J_copyO3_3 (by decide) (fun c1 => ?_) (fun c1 => ?_)
  · rw [if_neg c1] at h
    obtain ⟨-, h⟩ := hy_if h
    refine lv_aload_n hx hb d_J_copyO3_13 rfl (lv_at hl 2 rfl) ?_
    cases h
  · rw [if_pos c1] at h
    refine lv_iload_n hx hb d_J_copyO3_6 rfl (lv_at hl 1 rfl) ?_
    obtain ⟨w2, hw2, h⟩ := hy_bd h
    refine hy_newq B S hw2 (C := "java/lang/Object") (Nat.le_of_ble_eq_true rfl) rfl tw_589 B.2.2.2.2.2.2.2.2.2.1.2.2.2.1.2 d_J_copyO3_7 (fun ad3 a_q4 H _ hag ha_q4 S hl_w2 => ?_)
    have ha_v0 : ad3 v0 = a_v0 := (hag v0 (by omega)).trans ha_v0
    have ha_v2 : ad3 v2 = a_v2 := (hag v2 (by omega)).trans ha_v2
    refine lv_goto (tgt := 24) hx hb d_J_copyO3_10 (by decide) ?_
    cases h
    exact hy_jump K S (hy_okr (by omega) (hy_oki (hy_okr (by omega) hy_ok0))) (lv_sub hl [0, 1] rfl) (by subst ha_v0 ha_q4; rfl) (by subst ha_v0 ha_q4; rfl)
set_option maxHeartbeats 4000000 in
set_option maxRecDepth 100000 in
theorem sk_J_copyO3_24 {p : Program} {l : Launch} {e : Env} {s : State} {m : MethodId} {args : Array Value} {below : List Frame} {meth : Method} {c : Code} {G : hy_G} {A : Nat → Prop} {ad0 : Nat → Nat} {w0 : hy_W} {o : hy_O} (hl9 : l.flags = flags0) (hA : hy_A G ad0 w0 s.heap.size = A) (B : hy_B p l e (hy_rm 1 18 w0) s m args below meth c "java/util/Arrays" b_J_copyO3 4 (some (.array (.object "java/lang/Object"))) [] G A) (v0 : Nat) (v1 : Int32) (s0 : Nat) (w : hy_W) (nx : hy_N) (h : sg_J_copyO3_24 v0 v1 s0 w = some nx) (K : hy_Nx lay_J_copyO3 p l e (hy_rm 1 18 w0) s m args below meth c 4 G A ad0 w0.1.length (hy_Q below G ad0 w0 o args s) o nx) : hy_At lay_J_copyO3 p l e (hy_rm 1 18 w0) s m args below meth c 4 G A ad0 w0.1.length (hy_Q below G ad0 w0 o args s) (24, [.ref v0, .int v1, .ref s0], w) := by
  intro ad H locs cells slots ls S hok hl
  have hx := B.1
  have hb := B.2.1
  dsimp only at S hok
  have hl : lv_has ls 4 [(0, .ref (ad v0)), (1, .int v1)] := hl
  show W p l e (hy_rm 1 18 w0) s m args below meth c H locs cells slots (hy_Q below G ad0 w0 o args s) (F0 m 24 ls [.ref (ad s0)])
  have hv_v0 : v0 < w.1.length := hok (.ref v0) (List.mem_of_getElem? (i := 0) rfl) v0 rfl
  obtain ⟨a_v0, ha_v0⟩ : ∃ a, ad v0 = a := ⟨_, rfl⟩
  rw [ha_v0] at hl
  have hv_s0 : s0 < w.1.length := hok (.ref s0) (List.mem_of_getElem? (i := 2) rfl) s0 rfl
  obtain ⟨a_s0, ha_s0⟩ : ∃ a, ad s0 = a := ⟨_, rfl⟩
  rw [ha_s0]
  unfold sg_J_copyO3_24 at h
  refine lv_astore_n (lv' := [(3, .ref a_s0), (0, .ref a_v0), (1, .int v1)]) hx hb d_J_copyO3_24 rfl hl (Nat.le_of_ble_eq_true rfl) rfl (fun ls hl => ?_)
  refine lv_aload_n hx hb d_J_copyO3_25 rfl (lv_at hl 1 rfl) ?_
  refine lv_iconst (v := 0) hx hb d_J_copyO3_26 (by decide) ?_
  refine lv_aload_n hx hb d_J_copyO3_27 rfl (lv_at hl 0 rfl) ?_
  refine lv_iconst (v := 0) hx hb d_J_copyO3_28 (by decide) ?_
  refine lv_aload_n hx hb d_J_copyO3_29 rfl (lv_at hl 1 rfl) ?_
  obtain ⟨h1n1, h⟩ := hy_if h
  obtain ⟨n1, hn1, h⟩ := hy_bd h
  refine hy_alen B S ha_v0 (t := 3) (Nat.le_of_ble_eq_true rfl) hn1 h1n1 d_J_copyO3_30 ?_
  refine lv_iload_n hx hb d_J_copyO3_31 rfl (lv_at hl 2 rfl) ?_
  refine va_mmin hx hb (by rw [B.2.2.1]; exact hl.1.symm) B.2.2.2.1 (B.2.2.2.2.1 _ tw_524) (B.2.2.2.2.1 _ tw_525) (B.2.2.2.2.1 _ tw_21) (B.2.2.2.2.1 _ tw_526) (Nat.le_of_ble_eq_true rfl) (Nat.le_of_ble_eq_true rfl) (by have := S.2.2.2.2.1; omega) (by have := S.2.2.2.2.2; omega) d_J_copyO3_32 ?_
  obtain ⟨w2, hw2, h⟩ := hy_bd h
  refine hy_copyq B S ha_v0 ha_s0 hw2 tw_527 tw_465 tw_464 tw_16 (by decide +kernel) hl.1 (Nat.le_of_ble_eq_true rfl) (Nat.le_of_ble_eq_true rfl) d_J_copyO3_35 (fun H locs S hl_w2 => ?_)
  refine lv_aload_n hx hb d_J_copyO3_38 rfl (lv_at hl 0 rfl) ?_
  cases h
  cases K
  exact hy_aret hA B S (Or.inr ⟨_, rfl⟩) ha_s0 (by omega) d_J_copyO3_39
theorem nk_J_copyO3 {p : Program} {l : Launch} {e : Env} {s : State} {m : MethodId} {args : Array Value} {below : List Frame} {meth : Method} {c : Code} {G : hy_G} {A : Nat → Prop} {ad0 : Nat → Nat} {w0 : hy_W} {o : hy_O} (hl9 : l.flags = flags0) (hA : hy_A G ad0 w0 s.heap.size = A) (B : hy_B p l e (hy_rm 1 18 w0) s m args below meth c "java/util/Arrays" b_J_copyO3 4 (some (.array (.object "java/lang/Object"))) [] G A) (q : hy_P) (nx : hy_N) (hq : nx_J_copyO3 q = some nx) (K : hy_Nx lay_J_copyO3 p l e (hy_rm 1 18 w0) s m args below meth c 4 G A ad0 w0.1.length (hy_Q below G ad0 w0 o args s) o nx) : hy_At lay_J_copyO3 p l e (hy_rm 1 18 w0) s m args below meth c 4 G A ad0 w0.1.length (hy_Q below G ad0 w0 o args s) q := by
  unfold nx_J_copyO3 at hq
  split at hq
  · exact sk_J_copyO3_0 hl9 hA B _ _ _ _ nx hq K
  · exact sk_J_copyO3_24 hl9 hA B _ _ _ _ nx hq K
  · cases hq
theorem c_J_copyO3 {l : Launch} (hl9 : l.flags = flags0) (G : hy_G) (ad : Nat → Nat) {v0 : Nat} {v1 : Int32} {v2 : Nat} {w : hy_W} {o : hy_O} (h : f_J_copyO3 [.ref v0, .int v1, .ref v2] w = some o) : hy_M l y_J_copyO3 (Cond.code y_J_copyO3 b_J_copyO3 4 (some (.array (.object "java/lang/Object"))) :: hy_T) 1 18 G ad [.ref v0, .int v1, .ref v2] w o := by
  obtain ⟨n, hn⟩ := hy_fx_iff.mp h
  refine hy_ofW hl9 (by decide +kernel) (Nat.le_of_ble_eq_true rfl) (fun p e s m args below meth c A hA hi B S hok ls hl => ?_)
  exact hy_loop (nk_J_copyO3 hl9 hA B) n _ hn ad s.heap [] 0 0 ls S hok hl
theorem d_J_copyO2_0 : decode b_J_copyO2 0 = .ok (.aload_n 0, 1) := by decide +kernel
theorem d_J_copyO2_1 : decode b_J_copyO2 1 = .ok (.iload_n 1, 1) := by decide +kernel
theorem d_J_copyO2_2 : decode b_J_copyO2 2 = .ok (.aload_n 0, 1) := by decide +kernel
theorem d_J_copyO2_3 : decode b_J_copyO2 3 = .ok (.invokevirtual 86, 3) := by decide +kernel
theorem d_J_copyO2_6 : decode b_J_copyO2 6 = .ok (.invokestatic 300, 3) := by decide +kernel
theorem d_J_copyO2_9 : decode b_J_copyO2 9 = .ok (.areturn, 1) := by decide +kernel
def lay_J_copyO2 (pc : Nat) : List Nat := if pc = 0 then [0, 1] else []
noncomputable def sg_J_copyO2_0 (v0 : Nat) (v1 : Int32) (w : hy_W) : Option hy_N := if hy_ar0 w v0 3 = true then hy_br (f_J_copyO3 [.ref v0, .int v1, .ref 1] w) fun r4 w2 => some (.inr (.inl (some (.ref r4)), w2)) else none
noncomputable def nx_J_copyO2 (q : hy_P) : Option hy_N := match q with
  | (0, [.ref v0, .int v1], w) => sg_J_copyO2_0 v0 v1 w
  | _ => none
noncomputable def f_J_copyO2 (av : List Value) (w : hy_W) : Option hy_O := hy_fx nx_J_copyO2 (0, av, w)
set_option maxHeartbeats 4000000 in
set_option maxRecDepth 100000 in
theorem sk_J_copyO2_0 {p : Program} {l : Launch} {e : Env} {s : State} {m : MethodId} {args : Array Value} {below : List Frame} {meth : Method} {c : Code} {G : hy_G} {A : Nat → Prop} {ad0 : Nat → Nat} {w0 : hy_W} {o : hy_O} (hl9 : l.flags = flags0) (hA : hy_A G ad0 w0 s.heap.size = A) (B : hy_B p l e (hy_rm 2 41 w0) s m args below meth c "java/util/Arrays" b_J_copyO2 2 (some (.array (.object "java/lang/Object"))) [] G A) (v0 : Nat) (v1 : Int32) (w : hy_W) (nx : hy_N) (h : sg_J_copyO2_0 v0 v1 w = some nx) (K : hy_Nx lay_J_copyO2 p l e (hy_rm 2 41 w0) s m args below meth c 2 G A ad0 w0.1.length (hy_Q below G ad0 w0 o args s) o nx) : hy_At lay_J_copyO2 p l e (hy_rm 2 41 w0) s m args below meth c 2 G A ad0 w0.1.length (hy_Q below G ad0 w0 o args s) (0, [.ref v0, .int v1], w) := by
  intro ad H locs cells slots ls S hok hl
  have hx := B.1
  have hb := B.2.1
  dsimp only at S hok
  have hl : lv_has ls 2 [(0, .ref (ad v0)), (1, .int v1)] := hl
  show W p l e (hy_rm 2 41 w0) s m args below meth c H locs cells slots (hy_Q below G ad0 w0 o args s) (F0 m 0 ls [])
  have hv_v0 : v0 < w.1.length := hok (.ref v0) (List.mem_of_getElem? (i := 0) rfl) v0 rfl
  obtain ⟨a_v0, ha_v0⟩ : ∃ a, ad v0 = a := ⟨_, rfl⟩
  rw [ha_v0] at hl
  unfold sg_J_copyO2_0 at h
  refine lv_aload_n hx hb d_J_copyO2_0 rfl (lv_at hl 0 rfl) ?_
  refine lv_iload_n hx hb d_J_copyO2_1 rfl (lv_at hl 1 rfl) ?_
  refine lv_aload_n hx hb d_J_copyO2_2 rfl (lv_at hl 0 rfl) ?_
  obtain ⟨ob1, h⟩ := hy_if h
  obtain ⟨fs_ob1, hf_ob1, hg_ob1⟩ := hy_ar0_spec ob1
  obtain ⟨a_m1, ha_m1⟩ : ∃ a, ad 1 = a := ⟨_, rfl⟩
  have hv_m1 : 1 < w.1.length := S.1.2.2.2.1
  refine va_getC (mi := a_m1) (C := "[Ljava/lang/Object;") hx hb (by rw [B.2.2.1]; exact hl.1.symm) B.2.2.2.1 (B.2.2.2.2.1 _ tw_569) (va_Nw.use rfl (B.2.2.2.2.2.2.2.2.2.1.2.1 _ (by decide +kernel))) (B.2.2.2.2.1 _ tw_910) (B.2.2.2.2.1 _ tw_570) (B.2.2.2.2.1 _ tw_583) (by rw [← ha_m1, S.1.2.2.2.2.2.1]; exact B.2.2.2.2.2.2.2.2.2.1.2.2.2.2.2.1) (hy_isA B S ha_v0 hf_ob1 hg_ob1) (Nat.le_of_ble_eq_true rfl) (Nat.le_of_ble_eq_true rfl) d_J_copyO2_3 ?_
  obtain ⟨r4, w2, hq_w2, h⟩ := hy_br_spec h
  refine hy_callr (hy_runS (rest := []) (As := [.ref a_v0, .int v1, .ref a_m1]) B S (by subst ha_v0 ha_m1; rfl) (c_J_copyO3 hl9 G ad hq_w2) (hy_okr (by omega) (hy_oki (hy_okr (by omega) hy_ok0))) tw_586 tw_20 tw_584 tw_585 (by decide) rfl (Nat.le_of_ble_eq_true rfl) (Nat.le_of_ble_eq_true rfl) hl.1 (Nat.le_of_ble_eq_true rfl) d_J_copyO2_6) (fun ad3 H locs cells slots hag hl_w2 S a_r4 ha_r4 hv_r4 => ?_)
  have ha_v0 : ad3 v0 = a_v0 := (hag v0 (by omega)).trans ha_v0
  cases h
  cases K
  exact hy_aret hA B S (Or.inr ⟨_, rfl⟩) ha_r4 (by omega) d_J_copyO2_9
theorem nk_J_copyO2 {p : Program} {l : Launch} {e : Env} {s : State} {m : MethodId} {args : Array Value} {below : List Frame} {meth : Method} {c : Code} {G : hy_G} {A : Nat → Prop} {ad0 : Nat → Nat} {w0 : hy_W} {o : hy_O} (hl9 : l.flags = flags0) (hA : hy_A G ad0 w0 s.heap.size = A) (B : hy_B p l e (hy_rm 2 41 w0) s m args below meth c "java/util/Arrays" b_J_copyO2 2 (some (.array (.object "java/lang/Object"))) [] G A) (q : hy_P) (nx : hy_N) (hq : nx_J_copyO2 q = some nx) (K : hy_Nx lay_J_copyO2 p l e (hy_rm 2 41 w0) s m args below meth c 2 G A ad0 w0.1.length (hy_Q below G ad0 w0 o args s) o nx) : hy_At lay_J_copyO2 p l e (hy_rm 2 41 w0) s m args below meth c 2 G A ad0 w0.1.length (hy_Q below G ad0 w0 o args s) q := by
  unfold nx_J_copyO2 at hq
  split at hq
  · exact sk_J_copyO2_0 hl9 hA B _ _ _ nx hq K
  · cases hq
theorem c_J_copyO2 {l : Launch} (hl9 : l.flags = flags0) (G : hy_G) (ad : Nat → Nat) {v0 : Nat} {v1 : Int32} {w : hy_W} {o : hy_O} (h : f_J_copyO2 [.ref v0, .int v1] w = some o) : hy_M l y_J_copyO2 (Cond.code y_J_copyO2 b_J_copyO2 2 (some (.array (.object "java/lang/Object"))) :: hy_T) 2 41 G ad [.ref v0, .int v1] w o := by
  obtain ⟨n, hn⟩ := hy_fx_iff.mp h
  refine hy_ofW hl9 (by decide +kernel) (Nat.le_of_ble_eq_true rfl) (fun p e s m args below meth c A hA hi B S hok ls hl => ?_)
  exact hy_loop (nk_J_copyO2 hl9 hA B) n _ hn ad s.heap [] 0 0 ls S hok hl
theorem d_A_grow1_0 : decode b_A_grow1 0 = .ok (.aload_n 0, 1) := by decide +kernel
theorem d_A_grow1_1 : decode b_A_grow1 1 = .ok (.getfield 9, 3) := by decide +kernel
theorem d_A_grow1_4 : decode b_A_grow1 4 = .ok (.arraylength, 1) := by decide +kernel
theorem d_A_grow1_5 : decode b_A_grow1 5 = .ok (.istore_n 2, 1) := by decide +kernel
theorem d_A_grow1_6 : decode b_A_grow1 6 = .ok (.iload_n 2, 1) := by decide +kernel
theorem d_A_grow1_7 : decode b_A_grow1 7 = .ok (.ifCond .gt 13, 3) := by decide +kernel
theorem d_A_grow1_10 : decode b_A_grow1 10 = .ok (.aload_n 0, 1) := by decide +kernel
theorem d_A_grow1_11 : decode b_A_grow1 11 = .ok (.getfield 9, 3) := by decide +kernel
theorem d_A_grow1_14 : decode b_A_grow1 14 = .ok (.getstatic 39, 3) := by decide +kernel
theorem d_A_grow1_17 : decode b_A_grow1 17 = .ok (.if_acmp .eq 28, 3) := by decide +kernel
theorem d_A_grow1_20 : decode b_A_grow1 20 = .ok (.iload_n 2, 1) := by decide +kernel
theorem d_A_grow1_21 : decode b_A_grow1 21 = .ok (.iload_n 1, 1) := by decide +kernel
theorem d_A_grow1_22 : decode b_A_grow1 22 = .ok (.iload_n 2, 1) := by decide +kernel
theorem d_A_grow1_23 : decode b_A_grow1 23 = .ok (.isub, 1) := by decide +kernel
theorem d_A_grow1_24 : decode b_A_grow1 24 = .ok (.iload_n 2, 1) := by decide +kernel
theorem d_A_grow1_25 : decode b_A_grow1 25 = .ok (.iconst 1, 1) := by decide +kernel
theorem d_A_grow1_26 : decode b_A_grow1 26 = .ok (.ishr, 1) := by decide +kernel
theorem d_A_grow1_27 : decode b_A_grow1 27 = .ok (.invokestatic 73, 3) := by decide +kernel
theorem d_A_grow1_30 : decode b_A_grow1 30 = .ok (.istore_n 3, 1) := by decide +kernel
theorem d_A_grow1_31 : decode b_A_grow1 31 = .ok (.aload_n 0, 1) := by decide +kernel
theorem d_A_grow1_32 : decode b_A_grow1 32 = .ok (.aload_n 0, 1) := by decide +kernel
theorem d_A_grow1_33 : decode b_A_grow1 33 = .ok (.getfield 9, 3) := by decide +kernel
theorem d_A_grow1_36 : decode b_A_grow1 36 = .ok (.iload_n 3, 1) := by decide +kernel
theorem d_A_grow1_37 : decode b_A_grow1 37 = .ok (.invokestatic 66, 3) := by decide +kernel
theorem d_A_grow1_40 : decode b_A_grow1 40 = .ok (.dup_x1, 1) := by decide +kernel
theorem d_A_grow1_41 : decode b_A_grow1 41 = .ok (.putfield 9, 3) := by decide +kernel
theorem d_A_grow1_44 : decode b_A_grow1 44 = .ok (.areturn, 1) := by decide +kernel
theorem d_A_grow1_45 : decode b_A_grow1 45 = .ok (.aload_n 0, 1) := by decide +kernel
theorem d_A_grow1_46 : decode b_A_grow1 46 = .ok (.bipush 10, 2) := by decide +kernel
theorem d_A_grow1_48 : decode b_A_grow1 48 = .ok (.iload_n 1, 1) := by decide +kernel
theorem d_A_grow1_49 : decode b_A_grow1 49 = .ok (.invokestatic 79, 3) := by decide +kernel
theorem d_A_grow1_52 : decode b_A_grow1 52 = .ok (.anewarray 7, 3) := by decide +kernel
theorem d_A_grow1_55 : decode b_A_grow1 55 = .ok (.dup_x1, 1) := by decide +kernel
theorem d_A_grow1_56 : decode b_A_grow1 56 = .ok (.putfield 9, 3) := by decide +kernel
theorem d_A_grow1_59 : decode b_A_grow1 59 = .ok (.areturn, 1) := by decide +kernel
def lay_A_grow1 (pc : Nat) : List Nat := if pc = 0 then [0, 1] else if pc = 20 then [0, 1, 2] else []
noncomputable def sg_A_grow1_0 (v0 : Nat) (v1 : Int32) (w : hy_W) : Option hy_N := (hy_gr w v0 7 0).bind fun r1 => if r1 ≠ 1 then (hy_ln w 3 r1).bind fun n2 => if (0 : Int32) < (nI n2) then (some (.inl (20, [.ref v0, .int v1, .int (nI n2)], w))) else ((hy_gr w v0 7 0).bind fun r4 => if r4 = 0 then ((hy_na w 3 (if 10 < v1 then v1 else 10)).bind fun w7 => (hy_pf w7 v0 7 0 (.ref w.1.length)).bind fun w10 => some (.inr (.inl (some (.ref w.1.length)), w10))) else (if r4 ≠ 1 ∧ 0 ≠ 1 then (some (.inl (20, [.ref v0, .int v1, .int (nI n2)], w))) else none)) else none
noncomputable def sg_A_grow1_20 (v0 : Nat) (v1 : Int32) (v2 : Int32) (w : hy_W) : Option hy_N := hy_bi (f_J_newLength [.int v2, .int (v1 - v2), .int (v2 >>> (1 &&& 31))] w) fun x3 w1 => (hy_gr w1 v0 7 0).bind fun r4 => hy_br (f_J_copyO2 [.ref r4, .int x3] w1) fun r7 w5 => (hy_pf w5 v0 7 0 (.ref r7)).bind fun w8 => some (.inr (.inl (some (.ref r7)), w8))
noncomputable def nx_A_grow1 (q : hy_P) : Option hy_N := match q with
  | (0, [.ref v0, .int v1], w) => sg_A_grow1_0 v0 v1 w
  | (20, [.ref v0, .int v1, .int v2], w) => sg_A_grow1_20 v0 v1 v2 w
  | _ => none
noncomputable def f_A_grow1 (av : List Value) (w : hy_W) : Option hy_O := hy_fx nx_A_grow1 (0, av, w)
set_option maxHeartbeats 4000000 in
set_option maxRecDepth 100000 in
theorem sk_A_grow1_0 {p : Program} {l : Launch} {e : Env} {s : State} {m : MethodId} {args : Array Value} {below : List Frame} {meth : Method} {c : Code} {G : hy_G} {A : Nat → Prop} {ad0 : Nat → Nat} {w0 : hy_W} {o : hy_O} (hl9 : l.flags = flags0) (hA : hy_A G ad0 w0 s.heap.size = A) (B : hy_B p l e (hy_rm 3 62 w0) s m args below meth c "java/util/ArrayList" b_A_grow1 4 (some (.array (.object "java/lang/Object"))) [] G A) (v0 : Nat) (v1 : Int32) (w : hy_W) (nx : hy_N) (h : sg_A_grow1_0 v0 v1 w = some nx) (K : hy_Nx lay_A_grow1 p l e (hy_rm 3 62 w0) s m args below meth c 4 G A ad0 w0.1.length (hy_Q below G ad0 w0 o args s) o nx) : hy_At lay_A_grow1 p l e (hy_rm 3 62 w0) s m args below meth c 4 G A ad0 w0.1.length (hy_Q below G ad0 w0 o args s) (0, [.ref v0, .int v1], w) := by
  intro ad H locs cells slots ls S hok hl
  have hx := B.1
  have hb := B.2.1
  dsimp only at S hok
  have hl : lv_has ls 4 [(0, .ref (ad v0)), (1, .int v1)] := hl
  show W p l e (hy_rm 3 62 w0) s m args below meth c H locs cells slots (hy_Q below G ad0 w0 o args s) (F0 m 0 ls [])
  have hv_v0 : v0 < w.1.length := hok (.ref v0) (List.mem_of_getElem? (i := 0) rfl) v0 rfl
  obtain ⟨a_v0, ha_v0⟩ : ∃ a, ad v0 = a := ⟨_, rfl⟩
  rw [ha_v0] at hl
  unfold sg_A_grow1_0 at h
  refine lv_aload_n hx hb d_A_grow1_0 rfl (lv_at hl 0 rfl) ?_
  obtain ⟨r1, hr1, h⟩ := hy_bd h
  refine hy_getr B S ha_v0 hr1 rfl (Nat.le_of_ble_eq_true rfl) i_7 (j := 0) tw_117 (fun _ h => h) d_A_grow1_1 (fun a_r1 ha_r1 hv_r1 => ?_)
  obtain ⟨h1n2, h⟩ := hy_if h
  obtain ⟨n2, hn2, h⟩ := hy_bd h
  refine hy_alen B S ha_r1 (t := 3) (Nat.le_of_ble_eq_true rfl) hn2 h1n2 d_A_grow1_4 ?_
  refine lv_istore_n (lv' := [(2, .int (nI n2)), (0, .ref a_v0), (1, .int v1)]) hx hb d_A_grow1_5 rfl hl (Nat.le_of_ble_eq_true rfl) rfl (fun ls hl => ?_)
  refine lv_iload_n hx hb d_A_grow1_6 rfl (lv_at hl 0 rfl) ?_
  refine lv_if_gt (tgt := 20) hx hb d_A_grow1_7 (by decide) (fun c3 => ?_) (fun c3 => ?_)
  · rw [if_pos c3] at h
    cases h
    exact hy_jump K S (hy_okr (by omega) (hy_oki (hy_oki hy_ok0))) (lv_sub hl [1, 2, 0] rfl) (by subst ha_v0; rfl) (by subst ha_v0; rfl)
  · rw [if_neg c3] at h
    refine lv_aload_n hx hb d_A_grow1_10 rfl (lv_at hl 1 rfl) ?_
    obtain ⟨r4, hr4, h⟩ := hy_bd h
    refine hy_getr B S ha_v0 hr4 rfl (Nat.le_of_ble_eq_true rfl) i_7 (j := 0) tw_117 (fun _ h => h) d_A_grow1_11 (fun a_r4 ha_r4 hv_r4 => ?_)
    refine hy_gets B S tw_115 d_A_grow1_14 (fun a_e5 ha_e5 hv_e5 => ?_)
    refine hy_acmp_eq (tgt := 45) B S ha_r4 ha_e5 (by omega) (by omega) (by by_cases z : r4 = 0; exact Or.inl z; rw [if_neg z] at h; exact Or.inr (hy_if h).1) d_A_grow1_17 (by decide) (fun c6 => ?_) (fun c6 => ?_)
    · rw [if_pos c6] at h
      refine lv_aload_n hx hb d_A_grow1_45 rfl (lv_at hl 1 rfl) ?_
      refine lv_bipush (v := 10) hx hb d_A_grow1_46 (by decide) ?_
      refine lv_iload_n hx hb d_A_grow1_48 rfl (lv_at hl 2 rfl) ?_
      refine va_mmax hx hb (by rw [B.2.2.1]; exact hl.1.symm) B.2.2.2.1 (B.2.2.2.2.1 _ tw_590) (B.2.2.2.2.1 _ tw_283) (B.2.2.2.2.1 _ tw_21) (B.2.2.2.2.1 _ tw_284) (Nat.le_of_ble_eq_true rfl) (Nat.le_of_ble_eq_true rfl) (by have := S.2.2.2.2.1; omega) (by have := S.2.2.2.2.2; omega) d_A_grow1_49 ?_
      obtain ⟨w7, hw7, h⟩ := hy_bd h
      refine hy_newq B S hw7 (C := "java/lang/Object") (Nat.le_of_ble_eq_true rfl) rfl tw_591 B.2.2.2.2.2.2.2.2.2.1.2.2.2.1.2 d_A_grow1_52 (fun ad8 a_q9 H _ hag ha_q9 S hl_w7 => ?_)
      have ha_v0 : ad8 v0 = a_v0 := (hag v0 (by omega)).trans ha_v0
      refine lv_dup_x1 hx hb d_A_grow1_55 rfl rfl ?_
      obtain ⟨w10, hw10, h⟩ := hy_bd h
      refine hy_put B S ha_v0 (by rw [hy_v_ref, ha_q9]) (hy_cvr (by omega)) hw10 rfl (Nat.le_of_ble_eq_true rfl) i_7 t_7 t_7_ok n_7 (j := 0) tw_117 (fun _ h => h) rfl rfl rfl d_A_grow1_56 (fun H locs S hl_w10 => ?_)
      cases h
      cases K
      exact hy_aret hA B S (Or.inr ⟨_, rfl⟩) ha_q9 (by omega) d_A_grow1_59
    · rw [if_neg c6] at h
      obtain ⟨-, h⟩ := hy_if h
      cases h
      exact hy_jump K S (hy_okr (by omega) (hy_oki (hy_oki hy_ok0))) (lv_sub hl [1, 2, 0] rfl) (by subst ha_v0; rfl) (by subst ha_v0; rfl)
set_option maxHeartbeats 4000000 in
set_option maxRecDepth 100000 in
theorem sk_A_grow1_20 {p : Program} {l : Launch} {e : Env} {s : State} {m : MethodId} {args : Array Value} {below : List Frame} {meth : Method} {c : Code} {G : hy_G} {A : Nat → Prop} {ad0 : Nat → Nat} {w0 : hy_W} {o : hy_O} (hl9 : l.flags = flags0) (hA : hy_A G ad0 w0 s.heap.size = A) (B : hy_B p l e (hy_rm 3 62 w0) s m args below meth c "java/util/ArrayList" b_A_grow1 4 (some (.array (.object "java/lang/Object"))) [] G A) (v0 : Nat) (v1 : Int32) (v2 : Int32) (w : hy_W) (nx : hy_N) (h : sg_A_grow1_20 v0 v1 v2 w = some nx) (K : hy_Nx lay_A_grow1 p l e (hy_rm 3 62 w0) s m args below meth c 4 G A ad0 w0.1.length (hy_Q below G ad0 w0 o args s) o nx) : hy_At lay_A_grow1 p l e (hy_rm 3 62 w0) s m args below meth c 4 G A ad0 w0.1.length (hy_Q below G ad0 w0 o args s) (20, [.ref v0, .int v1, .int v2], w) := by
  intro ad H locs cells slots ls S hok hl
  have hx := B.1
  have hb := B.2.1
  dsimp only at S hok
  have hl : lv_has ls 4 [(0, .ref (ad v0)), (1, .int v1), (2, .int v2)] := hl
  show W p l e (hy_rm 3 62 w0) s m args below meth c H locs cells slots (hy_Q below G ad0 w0 o args s) (F0 m 20 ls [])
  have hv_v0 : v0 < w.1.length := hok (.ref v0) (List.mem_of_getElem? (i := 0) rfl) v0 rfl
  obtain ⟨a_v0, ha_v0⟩ : ∃ a, ad v0 = a := ⟨_, rfl⟩
  rw [ha_v0] at hl
  unfold sg_A_grow1_20 at h
  refine lv_iload_n hx hb d_A_grow1_20 rfl (lv_at hl 2 rfl) ?_
  refine lv_iload_n hx hb d_A_grow1_21 rfl (lv_at hl 1 rfl) ?_
  refine lv_iload_n hx hb d_A_grow1_22 rfl (lv_at hl 2 rfl) ?_
  refine lv_isub hx hb d_A_grow1_23 ?_
  refine lv_iload_n hx hb d_A_grow1_24 rfl (lv_at hl 2 rfl) ?_
  refine lv_iconst (v := 1) hx hb d_A_grow1_25 (by decide) ?_
  refine lv_ishr hx hb d_A_grow1_26 ?_
  obtain ⟨x3, w1, hq_w1, h⟩ := hy_bi_spec h
  refine hy_calli (hy_runS (rest := []) (As := [.int v2, .int (v1 - v2), .int (v2 >>> (1 &&& 31))]) B S (by rfl) (c_J_newLength hl9 G ad hq_w1) (hy_oki (hy_oki (hy_oki hy_ok0))) tw_560 tw_22 tw_558 tw_559 (by decide) rfl (Nat.le_of_ble_eq_true rfl) (Nat.le_of_ble_eq_true rfl) hl.1 (Nat.le_of_ble_eq_true rfl) d_A_grow1_27) (fun ad2 H locs cells slots hag hl_w1 S => ?_)
  have ha_v0 : ad2 v0 = a_v0 := (hag v0 (by omega)).trans ha_v0
  refine lv_istore_n (lv' := [(3, .int x3), (0, .ref a_v0), (1, .int v1), (2, .int v2)]) hx hb d_A_grow1_30 rfl hl (Nat.le_of_ble_eq_true rfl) rfl (fun ls hl => ?_)
  refine lv_aload_n hx hb d_A_grow1_31 rfl (lv_at hl 1 rfl) ?_
  refine lv_aload_n hx hb d_A_grow1_32 rfl (lv_at hl 1 rfl) ?_
  obtain ⟨r4, hr4, h⟩ := hy_bd h
  refine hy_getr B S ha_v0 hr4 rfl (Nat.le_of_ble_eq_true rfl) i_7 (j := 0) tw_117 (fun _ h => h) d_A_grow1_33 (fun a_r4 ha_r4 hv_r4 => ?_)
  refine lv_iload_n hx hb d_A_grow1_36 rfl (lv_at hl 0 rfl) ?_
  obtain ⟨r7, w5, hq_w5, h⟩ := hy_br_spec h
  refine hy_callr (hy_runS (rest := [.ref a_v0]) (As := [.ref a_r4, .int x3]) B S (by subst ha_r4; rfl) (c_J_copyO2 hl9 G ad2 hq_w5) (hy_okr (by omega) (hy_oki hy_ok0)) tw_568 tw_20 tw_566 tw_567 (by decide) rfl (Nat.le_of_ble_eq_true rfl) (Nat.le_of_ble_eq_true rfl) hl.1 (Nat.le_of_ble_eq_true rfl) d_A_grow1_37) (fun ad6 H locs cells slots hag hl_w5 S a_r7 ha_r7 hv_r7 => ?_)
  have ha_v0 : ad6 v0 = a_v0 := (hag v0 (by omega)).trans ha_v0
  refine lv_dup_x1 hx hb d_A_grow1_40 rfl rfl ?_
  obtain ⟨w8, hw8, h⟩ := hy_bd h
  refine hy_put B S ha_v0 (by rw [hy_v_ref, ha_r7]) (hy_cvr (by omega)) hw8 rfl (Nat.le_of_ble_eq_true rfl) i_7 t_7 t_7_ok n_7 (j := 0) tw_117 (fun _ h => h) rfl rfl rfl d_A_grow1_41 (fun H locs S hl_w8 => ?_)
  cases h
  cases K
  exact hy_aret hA B S (Or.inr ⟨_, rfl⟩) ha_r7 (by omega) d_A_grow1_44
theorem nk_A_grow1 {p : Program} {l : Launch} {e : Env} {s : State} {m : MethodId} {args : Array Value} {below : List Frame} {meth : Method} {c : Code} {G : hy_G} {A : Nat → Prop} {ad0 : Nat → Nat} {w0 : hy_W} {o : hy_O} (hl9 : l.flags = flags0) (hA : hy_A G ad0 w0 s.heap.size = A) (B : hy_B p l e (hy_rm 3 62 w0) s m args below meth c "java/util/ArrayList" b_A_grow1 4 (some (.array (.object "java/lang/Object"))) [] G A) (q : hy_P) (nx : hy_N) (hq : nx_A_grow1 q = some nx) (K : hy_Nx lay_A_grow1 p l e (hy_rm 3 62 w0) s m args below meth c 4 G A ad0 w0.1.length (hy_Q below G ad0 w0 o args s) o nx) : hy_At lay_A_grow1 p l e (hy_rm 3 62 w0) s m args below meth c 4 G A ad0 w0.1.length (hy_Q below G ad0 w0 o args s) q := by
  unfold nx_A_grow1 at hq
  split at hq
  · exact sk_A_grow1_0 hl9 hA B _ _ _ nx hq K
  · exact sk_A_grow1_20 hl9 hA B _ _ _ _ nx hq K
  · cases hq
theorem c_A_grow1 {l : Launch} (hl9 : l.flags = flags0) (G : hy_G) (ad : Nat → Nat) {v0 : Nat} {v1 : Int32} {w : hy_W} {o : hy_O} (h : f_A_grow1 [.ref v0, .int v1] w = some o) : hy_M l y_A_grow1 (Cond.code y_A_grow1 b_A_grow1 4 (some (.array (.object "java/lang/Object"))) :: hy_T) 3 62 G ad [.ref v0, .int v1] w o := by
  obtain ⟨n, hn⟩ := hy_fx_iff.mp h
  refine hy_ofW hl9 (by decide +kernel) (Nat.le_of_ble_eq_true rfl) (fun p e s m args below meth c A hA hi B S hok ls hl => ?_)
  exact hy_loop (nk_A_grow1 hl9 hA B) n _ hn ad s.heap [] 0 0 ls S hok hl
theorem d_A_grow0_0 : decode b_A_grow0 0 = .ok (.aload_n 0, 1) := by decide +kernel
theorem d_A_grow0_1 : decode b_A_grow0 1 = .ok (.aload_n 0, 1) := by decide +kernel
theorem d_A_grow0_2 : decode b_A_grow0 2 = .ok (.getfield 48, 3) := by decide +kernel
theorem d_A_grow0_5 : decode b_A_grow0 5 = .ok (.iconst 1, 1) := by decide +kernel
theorem d_A_grow0_6 : decode b_A_grow0 6 = .ok (.iadd, 1) := by decide +kernel
theorem d_A_grow0_7 : decode b_A_grow0 7 = .ok (.invokevirtual 69, 3) := by decide +kernel
theorem d_A_grow0_10 : decode b_A_grow0 10 = .ok (.areturn, 1) := by decide +kernel
def lay_A_grow0 (pc : Nat) : List Nat := if pc = 0 then [0] else []
noncomputable def sg_A_grow0_0 (v0 : Nat) (w : hy_W) : Option hy_N := (hy_gi w v0 7 1).bind fun x1 => if hy_ob w v0 7 = true then hy_br (f_A_grow1 [.ref v0, .int (x1 + 1)] w) fun r4 w2 => some (.inr (.inl (some (.ref r4)), w2)) else none
noncomputable def nx_A_grow0 (q : hy_P) : Option hy_N := match q with
  | (0, [.ref v0], w) => sg_A_grow0_0 v0 w
  | _ => none
noncomputable def f_A_grow0 (av : List Value) (w : hy_W) : Option hy_O := hy_fx nx_A_grow0 (0, av, w)
set_option maxHeartbeats 4000000 in
set_option maxRecDepth 100000 in
theorem sk_A_grow0_0 {p : Program} {l : Launch} {e : Env} {s : State} {m : MethodId} {args : Array Value} {below : List Frame} {meth : Method} {c : Code} {G : hy_G} {A : Nat → Prop} {ad0 : Nat → Nat} {w0 : hy_W} {o : hy_O} (hl9 : l.flags = flags0) (hA : hy_A G ad0 w0 s.heap.size = A) (B : hy_B p l e (hy_rm 4 85 w0) s m args below meth c "java/util/ArrayList" b_A_grow0 1 (some (.array (.object "java/lang/Object"))) [] G A) (v0 : Nat) (w : hy_W) (nx : hy_N) (h : sg_A_grow0_0 v0 w = some nx) (K : hy_Nx lay_A_grow0 p l e (hy_rm 4 85 w0) s m args below meth c 1 G A ad0 w0.1.length (hy_Q below G ad0 w0 o args s) o nx) : hy_At lay_A_grow0 p l e (hy_rm 4 85 w0) s m args below meth c 1 G A ad0 w0.1.length (hy_Q below G ad0 w0 o args s) (0, [.ref v0], w) := by
  intro ad H locs cells slots ls S hok hl
  have hx := B.1
  have hb := B.2.1
  dsimp only at S hok
  have hl : lv_has ls 1 [(0, .ref (ad v0))] := hl
  show W p l e (hy_rm 4 85 w0) s m args below meth c H locs cells slots (hy_Q below G ad0 w0 o args s) (F0 m 0 ls [])
  have hv_v0 : v0 < w.1.length := hok (.ref v0) (List.mem_of_getElem? (i := 0) rfl) v0 rfl
  obtain ⟨a_v0, ha_v0⟩ : ∃ a, ad v0 = a := ⟨_, rfl⟩
  rw [ha_v0] at hl
  unfold sg_A_grow0_0 at h
  refine lv_aload_n hx hb d_A_grow0_0 rfl (lv_at hl 0 rfl) ?_
  refine lv_aload_n hx hb d_A_grow0_1 rfl (lv_at hl 0 rfl) ?_
  obtain ⟨x1, hx1, h⟩ := hy_bd h
  refine hy_geti B S ha_v0 hx1 rfl (Nat.le_of_ble_eq_true rfl) i_7 (j := 1) tw_118 (fun _ h => h) d_A_grow0_2 ?_
  refine lv_iconst (v := 1) hx hb d_A_grow0_5 (by decide) ?_
  refine lv_iadd hx hb d_A_grow0_6 ?_
  obtain ⟨ob5, h⟩ := hy_if h
  obtain ⟨fs_ob5, hf_ob5, hg_ob5⟩ := hy_ob_spec ob5
  obtain ⟨r4, w2, hq_w2, h⟩ := hy_br_spec h
  refine hy_callr (hy_runV (rest := []) (As := [.int (x1 + 1)]) (r := v0) (b := a_v0) B S rfl ha_v0 (by rfl) (c_A_grow1 hl9 G ad hq_w2) (hy_okr (by omega) (hy_oki hy_ok0)) tw_557 tw_8 tw_554 tw_556 sl_A_grow1 (by decide) rfl (Nat.le_of_ble_eq_true rfl) (Nat.le_of_ble_eq_true rfl) hf_ob5 hg_ob5 rfl hl.1 (Nat.le_of_ble_eq_true rfl) d_A_grow0_7) (fun ad3 H locs cells slots hag hl_w2 S a_r4 ha_r4 hv_r4 => ?_)
  have ha_v0 : ad3 v0 = a_v0 := (hag v0 (by omega)).trans ha_v0
  cases h
  cases K
  exact hy_aret hA B S (Or.inr ⟨_, rfl⟩) ha_r4 (by omega) d_A_grow0_10
theorem nk_A_grow0 {p : Program} {l : Launch} {e : Env} {s : State} {m : MethodId} {args : Array Value} {below : List Frame} {meth : Method} {c : Code} {G : hy_G} {A : Nat → Prop} {ad0 : Nat → Nat} {w0 : hy_W} {o : hy_O} (hl9 : l.flags = flags0) (hA : hy_A G ad0 w0 s.heap.size = A) (B : hy_B p l e (hy_rm 4 85 w0) s m args below meth c "java/util/ArrayList" b_A_grow0 1 (some (.array (.object "java/lang/Object"))) [] G A) (q : hy_P) (nx : hy_N) (hq : nx_A_grow0 q = some nx) (K : hy_Nx lay_A_grow0 p l e (hy_rm 4 85 w0) s m args below meth c 1 G A ad0 w0.1.length (hy_Q below G ad0 w0 o args s) o nx) : hy_At lay_A_grow0 p l e (hy_rm 4 85 w0) s m args below meth c 1 G A ad0 w0.1.length (hy_Q below G ad0 w0 o args s) q := by
  unfold nx_A_grow0 at hq
  split at hq
  · exact sk_A_grow0_0 hl9 hA B _ _ nx hq K
  · cases hq
theorem c_A_grow0 {l : Launch} (hl9 : l.flags = flags0) (G : hy_G) (ad : Nat → Nat) {v0 : Nat} {w : hy_W} {o : hy_O} (h : f_A_grow0 [.ref v0] w = some o) : hy_M l y_A_grow0 (Cond.code y_A_grow0 b_A_grow0 1 (some (.array (.object "java/lang/Object"))) :: hy_T) 4 85 G ad [.ref v0] w o := by
  obtain ⟨n, hn⟩ := hy_fx_iff.mp h
  refine hy_ofW hl9 (by decide +kernel) (Nat.le_of_ble_eq_true rfl) (fun p e s m args below meth c A hA hi B S hok ls hl => ?_)
  exact hy_loop (nk_A_grow0 hl9 hA B) n _ hn ad s.heap [] 0 0 ls S hok hl
theorem d_A_add3_0 : decode b_A_add3 0 = .ok (.iload_n 3, 1) := by decide +kernel
theorem d_A_add3_1 : decode b_A_add3 1 = .ok (.aload_n 2, 1) := by decide +kernel
theorem d_A_add3_2 : decode b_A_add3 2 = .ok (.arraylength, 1) := by decide +kernel
theorem d_A_add3_3 : decode b_A_add3 3 = .ok (.if_icmp .ne 8, 3) := by decide +kernel
theorem d_A_add3_6 : decode b_A_add3 6 = .ok (.aload_n 0, 1) := by decide +kernel
theorem d_A_add3_7 : decode b_A_add3 7 = .ok (.invokevirtual 129, 3) := by decide +kernel
theorem d_A_add3_10 : decode b_A_add3 10 = .ok (.astore_n 2, 1) := by decide +kernel
theorem d_A_add3_11 : decode b_A_add3 11 = .ok (.aload_n 2, 1) := by decide +kernel
theorem d_A_add3_12 : decode b_A_add3 12 = .ok (.iload_n 3, 1) := by decide +kernel
theorem d_A_add3_13 : decode b_A_add3 13 = .ok (.aload_n 1, 1) := by decide +kernel
theorem d_A_add3_14 : decode b_A_add3 14 = .ok (.aastore, 1) := by decide +kernel
theorem d_A_add3_15 : decode b_A_add3 15 = .ok (.aload_n 0, 1) := by decide +kernel
theorem d_A_add3_16 : decode b_A_add3 16 = .ok (.iload_n 3, 1) := by decide +kernel
theorem d_A_add3_17 : decode b_A_add3 17 = .ok (.iconst 1, 1) := by decide +kernel
theorem d_A_add3_18 : decode b_A_add3 18 = .ok (.iadd, 1) := by decide +kernel
theorem d_A_add3_19 : decode b_A_add3 19 = .ok (.putfield 48, 3) := by decide +kernel
theorem d_A_add3_22 : decode b_A_add3 22 = .ok (.return_, 1) := by decide +kernel
def lay_A_add3 (pc : Nat) : List Nat := if pc = 0 then [0, 1, 2, 3] else if pc = 11 then [0, 1, 2, 3] else []
noncomputable def sg_A_add3_0 (v0 : Nat) (v1 : Nat) (v2 : Nat) (v3 : Int32) (w : hy_W) : Option hy_N := if v2 ≠ 1 then (hy_ln w 3 v2).bind fun n1 => if v3 = (nI n1) then (if hy_ob w v0 7 = true then hy_br (f_A_grow0 [.ref v0] w) fun r5 w3 => some (.inl (11, [.ref v0, .ref v1, .ref r5, .int v3], w3)) else none) else (some (.inl (11, [.ref v0, .ref v1, .ref v2, .int v3], w))) else none
noncomputable def sg_A_add3_11 (v0 : Nat) (v1 : Nat) (v2 : Nat) (v3 : Int32) (w : hy_W) : Option hy_N := if hy_ob w v1 4 = true then (hy_pa w 3 v2 v3 (.ref v1)).bind fun w1 => (hy_pf w1 v0 7 1 (.int (v3 + 1))).bind fun w3 => some (.inr (.inl none, w3)) else none
noncomputable def nx_A_add3 (q : hy_P) : Option hy_N := match q with
  | (0, [.ref v0, .ref v1, .ref v2, .int v3], w) => sg_A_add3_0 v0 v1 v2 v3 w
  | (11, [.ref v0, .ref v1, .ref v2, .int v3], w) => sg_A_add3_11 v0 v1 v2 v3 w
  | _ => none
noncomputable def f_A_add3 (av : List Value) (w : hy_W) : Option hy_O := hy_fx nx_A_add3 (0, av, w)
set_option maxHeartbeats 4000000 in
set_option maxRecDepth 100000 in
theorem sk_A_add3_0 {p : Program} {l : Launch} {e : Env} {s : State} {m : MethodId} {args : Array Value} {below : List Frame} {meth : Method} {c : Code} {G : hy_G} {A : Nat → Prop} {ad0 : Nat → Nat} {w0 : hy_W} {o : hy_O} (hl9 : l.flags = flags0) (hA : hy_A G ad0 w0 s.heap.size = A) (B : hy_B p l e (hy_rm 5 105 w0) s m args below meth c "java/util/ArrayList" b_A_add3 4 none [] G A) (v0 : Nat) (v1 : Nat) (v2 : Nat) (v3 : Int32) (w : hy_W) (nx : hy_N) (h : sg_A_add3_0 v0 v1 v2 v3 w = some nx) (K : hy_Nx lay_A_add3 p l e (hy_rm 5 105 w0) s m args below meth c 4 G A ad0 w0.1.length (hy_Q below G ad0 w0 o args s) o nx) : hy_At lay_A_add3 p l e (hy_rm 5 105 w0) s m args below meth c 4 G A ad0 w0.1.length (hy_Q below G ad0 w0 o args s) (0, [.ref v0, .ref v1, .ref v2, .int v3], w) := by
  intro ad H locs cells slots ls S hok hl
  have hx := B.1
  have hb := B.2.1
  dsimp only at S hok
  have hl : lv_has ls 4 [(0, .ref (ad v0)), (1, .ref (ad v1)), (2, .ref (ad v2)), (3, .int v3)] := hl
  show W p l e (hy_rm 5 105 w0) s m args below meth c H locs cells slots (hy_Q below G ad0 w0 o args s) (F0 m 0 ls [])
  have hv_v0 : v0 < w.1.length := hok (.ref v0) (List.mem_of_getElem? (i := 0) rfl) v0 rfl
  obtain ⟨a_v0, ha_v0⟩ : ∃ a, ad v0 = a := ⟨_, rfl⟩
  rw [ha_v0] at hl
  have hv_v1 : v1 < w.1.length := hok (.ref v1) (List.mem_of_getElem? (i := 1) rfl) v1 rfl
  obtain ⟨a_v1, ha_v1⟩ : ∃ a, ad v1 = a := ⟨_, rfl⟩
  rw [ha_v1] at hl
  have hv_v2 : v2 < w.1.length := hok (.ref v2) (List.mem_of_getElem? (i := 2) rfl) v2 rfl
  obtain ⟨a_v2, ha_v2⟩ : ∃ a, ad v2 = a := ⟨_, rfl⟩
  rw [ha_v2] at hl
  unfold sg_A_add3_0 at h
  refine lv_iload_n hx hb d_A_add3_0 rfl (lv_at hl 3 rfl) ?_
  refine lv_aload_n hx hb d_A_add3_1 rfl (lv_at hl 2 rfl) ?_
  obtain ⟨h1n1, h⟩ := hy_if h
  obtain ⟨n1, hn1, h⟩ := hy_bd h
  refine hy_alen B S ha_v2 (t := 3) (Nat.le_of_ble_eq_true rfl) hn1 h1n1 d_A_add3_2 ?_
  refine lv_icmp_ne (tgt := 11) hx hb d_A_add3_3 (by decide) (fun c2 => ?_) (fun c2 => ?_)
  · rw [if_neg c2] at h
    cases h
    exact hy_jump K S (hy_okr (by omega) (hy_okr (by omega) (hy_okr (by omega) (hy_oki hy_ok0)))) (lv_sub hl [0, 1, 2, 3] rfl) (by subst ha_v0 ha_v1 ha_v2; rfl) (by subst ha_v0 ha_v1 ha_v2; rfl)
  · rw [if_pos c2] at h
    refine lv_aload_n hx hb d_A_add3_6 rfl (lv_at hl 0 rfl) ?_
    obtain ⟨ob6, h⟩ := hy_if h
    obtain ⟨fs_ob6, hf_ob6, hg_ob6⟩ := hy_ob_spec ob6
    obtain ⟨r5, w3, hq_w3, h⟩ := hy_br_spec h
    refine hy_callr (hy_runV (rest := []) (As := []) (r := v0) (b := a_v0) B S rfl ha_v0 (by rfl) (c_A_grow0 hl9 G ad hq_w3) (hy_okr (by omega) hy_ok0) tw_553 tw_8 tw_550 tw_552 sl_A_grow0 (by decide) rfl (Nat.le_of_ble_eq_true rfl) (Nat.le_of_ble_eq_true rfl) hf_ob6 hg_ob6 rfl hl.1 (Nat.le_of_ble_eq_true rfl) d_A_add3_7) (fun ad4 H locs cells slots hag hl_w3 S a_r5 ha_r5 hv_r5 => ?_)
    have ha_v0 : ad4 v0 = a_v0 := (hag v0 (by omega)).trans ha_v0
    have ha_v1 : ad4 v1 = a_v1 := (hag v1 (by omega)).trans ha_v1
    have ha_v2 : ad4 v2 = a_v2 := (hag v2 (by omega)).trans ha_v2
    refine lv_astore_n (lv' := [(2, .ref a_r5), (0, .ref a_v0), (1, .ref a_v1), (3, .int v3)]) hx hb d_A_add3_10 rfl hl (Nat.le_of_ble_eq_true rfl) rfl (fun ls hl => ?_)
    cases h
    exact hy_jump K S (hy_okr (by omega) (hy_okr (by omega) (hy_okr (by omega) (hy_oki hy_ok0)))) (lv_sub hl [1, 2, 0, 3] rfl) (by subst ha_v0 ha_v1 ha_r5; rfl) (by subst ha_v0 ha_v1 ha_r5; rfl)
set_option maxHeartbeats 4000000 in
set_option maxRecDepth 100000 in
theorem sk_A_add3_11 {p : Program} {l : Launch} {e : Env} {s : State} {m : MethodId} {args : Array Value} {below : List Frame} {meth : Method} {c : Code} {G : hy_G} {A : Nat → Prop} {ad0 : Nat → Nat} {w0 : hy_W} {o : hy_O} (hl9 : l.flags = flags0) (hA : hy_A G ad0 w0 s.heap.size = A) (B : hy_B p l e (hy_rm 5 105 w0) s m args below meth c "java/util/ArrayList" b_A_add3 4 none [] G A) (v0 : Nat) (v1 : Nat) (v2 : Nat) (v3 : Int32) (w : hy_W) (nx : hy_N) (h : sg_A_add3_11 v0 v1 v2 v3 w = some nx) (K : hy_Nx lay_A_add3 p l e (hy_rm 5 105 w0) s m args below meth c 4 G A ad0 w0.1.length (hy_Q below G ad0 w0 o args s) o nx) : hy_At lay_A_add3 p l e (hy_rm 5 105 w0) s m args below meth c 4 G A ad0 w0.1.length (hy_Q below G ad0 w0 o args s) (11, [.ref v0, .ref v1, .ref v2, .int v3], w) := by
  intro ad H locs cells slots ls S hok hl
  have hx := B.1
  have hb := B.2.1
  dsimp only at S hok
  have hl : lv_has ls 4 [(0, .ref (ad v0)), (1, .ref (ad v1)), (2, .ref (ad v2)), (3, .int v3)] := hl
  show W p l e (hy_rm 5 105 w0) s m args below meth c H locs cells slots (hy_Q below G ad0 w0 o args s) (F0 m 11 ls [])
  have hv_v0 : v0 < w.1.length := hok (.ref v0) (List.mem_of_getElem? (i := 0) rfl) v0 rfl
  obtain ⟨a_v0, ha_v0⟩ : ∃ a, ad v0 = a := ⟨_, rfl⟩
  rw [ha_v0] at hl
  have hv_v1 : v1 < w.1.length := hok (.ref v1) (List.mem_of_getElem? (i := 1) rfl) v1 rfl
  obtain ⟨a_v1, ha_v1⟩ : ∃ a, ad v1 = a := ⟨_, rfl⟩
  rw [ha_v1] at hl
  have hv_v2 : v2 < w.1.length := hok (.ref v2) (List.mem_of_getElem? (i := 2) rfl) v2 rfl
  obtain ⟨a_v2, ha_v2⟩ : ∃ a, ad v2 = a := ⟨_, rfl⟩
  rw [ha_v2] at hl
  unfold sg_A_add3_11 at h
  refine lv_aload_n hx hb d_A_add3_11 rfl (lv_at hl 2 rfl) ?_
  refine lv_iload_n hx hb d_A_add3_12 rfl (lv_at hl 3 rfl) ?_
  refine lv_aload_n hx hb d_A_add3_13 rfl (lv_at hl 1 rfl) ?_
  obtain ⟨ob2, h⟩ := hy_if h
  obtain ⟨fs_ob2, hf_ob2, hg_ob2⟩ := hy_ob_spec ob2
  obtain ⟨w1, hw1, h⟩ := hy_bd h
  refine hy_aast (E := "java/lang/Object") B S ha_v2 ha_v1 hw1 hf_ob2 hg_ob2 rfl (Nat.le_of_ble_eq_true rfl) rfl (hy_castR B) d_A_add3_14 (fun H locs S hl_w1 => ?_)
  refine lv_aload_n hx hb d_A_add3_15 rfl (lv_at hl 0 rfl) ?_
  refine lv_iload_n hx hb d_A_add3_16 rfl (lv_at hl 3 rfl) ?_
  refine lv_iconst (v := 1) hx hb d_A_add3_17 (by decide) ?_
  refine lv_iadd hx hb d_A_add3_18 ?_
  obtain ⟨w3, hw3, h⟩ := hy_bd h
  refine hy_put B S ha_v0 rfl hy_cvi hw3 rfl (Nat.le_of_ble_eq_true rfl) i_7 t_7 t_7_ok n_7 (j := 1) tw_118 (fun _ h => h) rfl rfl rfl d_A_add3_19 (fun H locs S hl_w3 => ?_)
  cases h
  cases K
  exact hy_vret hA B S d_A_add3_22
theorem nk_A_add3 {p : Program} {l : Launch} {e : Env} {s : State} {m : MethodId} {args : Array Value} {below : List Frame} {meth : Method} {c : Code} {G : hy_G} {A : Nat → Prop} {ad0 : Nat → Nat} {w0 : hy_W} {o : hy_O} (hl9 : l.flags = flags0) (hA : hy_A G ad0 w0 s.heap.size = A) (B : hy_B p l e (hy_rm 5 105 w0) s m args below meth c "java/util/ArrayList" b_A_add3 4 none [] G A) (q : hy_P) (nx : hy_N) (hq : nx_A_add3 q = some nx) (K : hy_Nx lay_A_add3 p l e (hy_rm 5 105 w0) s m args below meth c 4 G A ad0 w0.1.length (hy_Q below G ad0 w0 o args s) o nx) : hy_At lay_A_add3 p l e (hy_rm 5 105 w0) s m args below meth c 4 G A ad0 w0.1.length (hy_Q below G ad0 w0 o args s) q := by
  unfold nx_A_add3 at hq
  split at hq
  · exact sk_A_add3_0 hl9 hA B _ _ _ _ _ nx hq K
  · exact sk_A_add3_11 hl9 hA B _ _ _ _ _ nx hq K
  · cases hq
theorem c_A_add3 {l : Launch} (hl9 : l.flags = flags0) (G : hy_G) (ad : Nat → Nat) {v0 : Nat} {v1 : Nat} {v2 : Nat} {v3 : Int32} {w : hy_W} {o : hy_O} (h : f_A_add3 [.ref v0, .ref v1, .ref v2, .int v3] w = some o) : hy_M l y_A_add3 (Cond.code y_A_add3 b_A_add3 4 none :: hy_T) 5 105 G ad [.ref v0, .ref v1, .ref v2, .int v3] w o := by
  obtain ⟨n, hn⟩ := hy_fx_iff.mp h
  refine hy_ofW hl9 (by decide +kernel) (Nat.le_of_ble_eq_true rfl) (fun p e s m args below meth c A hA hi B S hok ls hl => ?_)
  exact hy_loop (nk_A_add3 hl9 hA B) n _ hn ad s.heap [] 0 0 ls S hok hl
theorem d_A_add1_0 : decode b_A_add1 0 = .ok (.aload_n 0, 1) := by decide +kernel
theorem d_A_add1_1 : decode b_A_add1 1 = .ok (.dup, 1) := by decide +kernel
theorem d_A_add1_2 : decode b_A_add1 2 = .ok (.getfield 63, 3) := by decide +kernel
theorem d_A_add1_5 : decode b_A_add1 5 = .ok (.iconst 1, 1) := by decide +kernel
theorem d_A_add1_6 : decode b_A_add1 6 = .ok (.iadd, 1) := by decide +kernel
theorem d_A_add1_7 : decode b_A_add1 7 = .ok (.putfield 63, 3) := by decide +kernel
theorem d_A_add1_10 : decode b_A_add1 10 = .ok (.aload_n 0, 1) := by decide +kernel
theorem d_A_add1_11 : decode b_A_add1 11 = .ok (.aload_n 1, 1) := by decide +kernel
theorem d_A_add1_12 : decode b_A_add1 12 = .ok (.aload_n 0, 1) := by decide +kernel
theorem d_A_add1_13 : decode b_A_add1 13 = .ok (.getfield 9, 3) := by decide +kernel
theorem d_A_add1_16 : decode b_A_add1 16 = .ok (.aload_n 0, 1) := by decide +kernel
theorem d_A_add1_17 : decode b_A_add1 17 = .ok (.getfield 48, 3) := by decide +kernel
theorem d_A_add1_20 : decode b_A_add1 20 = .ok (.invokevirtual 131, 3) := by decide +kernel
theorem d_A_add1_23 : decode b_A_add1 23 = .ok (.iconst 1, 1) := by decide +kernel
theorem d_A_add1_24 : decode b_A_add1 24 = .ok (.ireturn, 1) := by decide +kernel
def lay_A_add1 (pc : Nat) : List Nat := if pc = 0 then [0, 1] else []
noncomputable def sg_A_add1_0 (v0 : Nat) (v1 : Nat) (w : hy_W) : Option hy_N := (hy_gi w v0 7 2).bind fun x1 => (hy_pf w v0 7 2 (.int (x1 + 1))).bind fun w2 => (hy_gr w2 v0 7 0).bind fun r3 => (hy_gi w2 v0 7 1).bind fun x4 => if hy_ob w2 v0 7 = true then hy_bv (f_A_add3 [.ref v0, .ref v1, .ref r3, .int x4] w2) fun w5 => some (.inr (.inl (some (.int 1)), w5)) else none
noncomputable def nx_A_add1 (q : hy_P) : Option hy_N := match q with
  | (0, [.ref v0, .ref v1], w) => sg_A_add1_0 v0 v1 w
  | _ => none
noncomputable def f_A_add1 (av : List Value) (w : hy_W) : Option hy_O := hy_fx nx_A_add1 (0, av, w)
set_option maxHeartbeats 4000000 in
set_option maxRecDepth 100000 in
theorem sk_A_add1_0 {p : Program} {l : Launch} {e : Env} {s : State} {m : MethodId} {args : Array Value} {below : List Frame} {meth : Method} {c : Code} {G : hy_G} {A : Nat → Prop} {ad0 : Nat → Nat} {w0 : hy_W} {o : hy_O} (hl9 : l.flags = flags0) (hA : hy_A G ad0 w0 s.heap.size = A) (B : hy_B p l e (hy_rm 6 128 w0) s m args below meth c "java/util/ArrayList" b_A_add1 2 (some .boolean) [] G A) (v0 : Nat) (v1 : Nat) (w : hy_W) (nx : hy_N) (h : sg_A_add1_0 v0 v1 w = some nx) (K : hy_Nx lay_A_add1 p l e (hy_rm 6 128 w0) s m args below meth c 2 G A ad0 w0.1.length (hy_Q below G ad0 w0 o args s) o nx) : hy_At lay_A_add1 p l e (hy_rm 6 128 w0) s m args below meth c 2 G A ad0 w0.1.length (hy_Q below G ad0 w0 o args s) (0, [.ref v0, .ref v1], w) := by
  intro ad H locs cells slots ls S hok hl
  have hx := B.1
  have hb := B.2.1
  dsimp only at S hok
  have hl : lv_has ls 2 [(0, .ref (ad v0)), (1, .ref (ad v1))] := hl
  show W p l e (hy_rm 6 128 w0) s m args below meth c H locs cells slots (hy_Q below G ad0 w0 o args s) (F0 m 0 ls [])
  have hv_v0 : v0 < w.1.length := hok (.ref v0) (List.mem_of_getElem? (i := 0) rfl) v0 rfl
  obtain ⟨a_v0, ha_v0⟩ : ∃ a, ad v0 = a := ⟨_, rfl⟩
  rw [ha_v0] at hl
  have hv_v1 : v1 < w.1.length := hok (.ref v1) (List.mem_of_getElem? (i := 1) rfl) v1 rfl
  obtain ⟨a_v1, ha_v1⟩ : ∃ a, ad v1 = a := ⟨_, rfl⟩
  rw [ha_v1] at hl
  unfold sg_A_add1_0 at h
  refine lv_aload_n hx hb d_A_add1_0 rfl (lv_at hl 0 rfl) ?_
  refine lv_dup hx hb d_A_add1_1 rfl ?_
  obtain ⟨x1, hx1, h⟩ := hy_bd h
  refine hy_geti B S ha_v0 hx1 rfl (Nat.le_of_ble_eq_true rfl) i_7 (j := 2) tw_120 (fun x h => u_same (B.2.2.2.2.1 _ tw_121) x h) d_A_add1_2 ?_
  refine lv_iconst (v := 1) hx hb d_A_add1_5 (by decide) ?_
  refine lv_iadd hx hb d_A_add1_6 ?_
  obtain ⟨w2, hw2, h⟩ := hy_bd h
  refine hy_put B S ha_v0 rfl hy_cvi hw2 rfl (Nat.le_of_ble_eq_true rfl) i_7 t_7 t_7_ok n_7 (j := 2) tw_120 (fun x h => u_same (B.2.2.2.2.1 _ tw_121) x h) rfl rfl rfl d_A_add1_7 (fun H locs S hl_w2 => ?_)
  refine lv_aload_n hx hb d_A_add1_10 rfl (lv_at hl 0 rfl) ?_
  refine lv_aload_n hx hb d_A_add1_11 rfl (lv_at hl 1 rfl) ?_
  refine lv_aload_n hx hb d_A_add1_12 rfl (lv_at hl 0 rfl) ?_
  obtain ⟨r3, hr3, h⟩ := hy_bd h
  refine hy_getr B S ha_v0 hr3 rfl (Nat.le_of_ble_eq_true rfl) i_7 (j := 0) tw_117 (fun _ h => h) d_A_add1_13 (fun a_r3 ha_r3 hv_r3 => ?_)
  refine lv_aload_n hx hb d_A_add1_16 rfl (lv_at hl 0 rfl) ?_
  obtain ⟨x4, hx4, h⟩ := hy_bd h
  refine hy_geti B S ha_v0 hx4 rfl (Nat.le_of_ble_eq_true rfl) i_7 (j := 1) tw_118 (fun _ h => h) d_A_add1_17 ?_
  obtain ⟨ob8, h⟩ := hy_if h
  obtain ⟨fs_ob8, hf_ob8, hg_ob8⟩ := hy_ob_spec ob8
  obtain ⟨w5, hq_w5, h⟩ := hy_bv_spec h
  refine hy_callv (hy_runV (rest := []) (As := [.ref a_v1, .ref a_r3, .int x4]) (r := v0) (b := a_v0) B S rfl ha_v0 (by subst ha_v1 ha_r3; rfl) (c_A_add3 hl9 G ad hq_w5) (hy_okr (by omega) (hy_okr (by omega) (hy_okr (by omega) (hy_oki hy_ok0)))) tw_549 tw_8 tw_546 tw_548 sl_A_add3 (by decide) rfl (Nat.le_of_ble_eq_true rfl) (Nat.le_of_ble_eq_true rfl) hf_ob8 hg_ob8 rfl hl.1 (Nat.le_of_ble_eq_true rfl) d_A_add1_20) (fun ad6 H locs cells slots hag hl_w5 S => ?_)
  have ha_v0 : ad6 v0 = a_v0 := (hag v0 (by omega)).trans ha_v0
  have ha_v1 : ad6 v1 = a_v1 := (hag v1 (by omega)).trans ha_v1
  refine lv_iconst (v := 1) hx hb d_A_add1_23 (by decide) ?_
  cases h
  cases K
  exact hy_zret hA B S (by decide) d_A_add1_24
theorem nk_A_add1 {p : Program} {l : Launch} {e : Env} {s : State} {m : MethodId} {args : Array Value} {below : List Frame} {meth : Method} {c : Code} {G : hy_G} {A : Nat → Prop} {ad0 : Nat → Nat} {w0 : hy_W} {o : hy_O} (hl9 : l.flags = flags0) (hA : hy_A G ad0 w0 s.heap.size = A) (B : hy_B p l e (hy_rm 6 128 w0) s m args below meth c "java/util/ArrayList" b_A_add1 2 (some .boolean) [] G A) (q : hy_P) (nx : hy_N) (hq : nx_A_add1 q = some nx) (K : hy_Nx lay_A_add1 p l e (hy_rm 6 128 w0) s m args below meth c 2 G A ad0 w0.1.length (hy_Q below G ad0 w0 o args s) o nx) : hy_At lay_A_add1 p l e (hy_rm 6 128 w0) s m args below meth c 2 G A ad0 w0.1.length (hy_Q below G ad0 w0 o args s) q := by
  unfold nx_A_add1 at hq
  split at hq
  · exact sk_A_add1_0 hl9 hA B _ _ _ nx hq K
  · cases hq
theorem c_A_add1 {l : Launch} (hl9 : l.flags = flags0) (G : hy_G) (ad : Nat → Nat) {v0 : Nat} {v1 : Nat} {w : hy_W} {o : hy_O} (h : f_A_add1 [.ref v0, .ref v1] w = some o) : hy_M l y_A_add1 (Cond.code y_A_add1 b_A_add1 2 (some .boolean) :: hy_T) 6 128 G ad [.ref v0, .ref v1] w o := by
  obtain ⟨n, hn⟩ := hy_fx_iff.mp h
  refine hy_ofW hl9 (by decide +kernel) (Nat.le_of_ble_eq_true rfl) (fun p e s m args below meth c A hA hi B S hok ls hl => ?_)
  exact hy_loop (nk_A_add1 hl9 hA B) n _ hn ad s.heap [] 0 0 ls S hok hl
theorem d_A_set_0 : decode b_A_set 0 = .ok (.iload_n 1, 1) := by decide +kernel
theorem d_A_set_1 : decode b_A_set 1 = .ok (.aload_n 0, 1) := by decide +kernel
theorem d_A_set_2 : decode b_A_set 2 = .ok (.getfield 48, 3) := by decide +kernel
theorem d_A_set_5 : decode b_A_set 5 = .ok (.invokestatic 118, 3) := by decide +kernel
theorem d_A_set_8 : decode b_A_set 8 = .ok (.pop, 1) := by decide +kernel
theorem d_A_set_9 : decode b_A_set 9 = .ok (.aload_n 0, 1) := by decide +kernel
theorem d_A_set_10 : decode b_A_set 10 = .ok (.iload_n 1, 1) := by decide +kernel
theorem d_A_set_11 : decode b_A_set 11 = .ok (.invokevirtual 123, 3) := by decide +kernel
theorem d_A_set_14 : decode b_A_set 14 = .ok (.astore_n 3, 1) := by decide +kernel
theorem d_A_set_15 : decode b_A_set 15 = .ok (.aload_n 0, 1) := by decide +kernel
theorem d_A_set_16 : decode b_A_set 16 = .ok (.getfield 9, 3) := by decide +kernel
theorem d_A_set_19 : decode b_A_set 19 = .ok (.iload_n 1, 1) := by decide +kernel
theorem d_A_set_20 : decode b_A_set 20 = .ok (.aload_n 2, 1) := by decide +kernel
theorem d_A_set_21 : decode b_A_set 21 = .ok (.aastore, 1) := by decide +kernel
theorem d_A_set_22 : decode b_A_set 22 = .ok (.aload_n 3, 1) := by decide +kernel
theorem d_A_set_23 : decode b_A_set 23 = .ok (.areturn, 1) := by decide +kernel
def lay_A_set (pc : Nat) : List Nat := if pc = 0 then [0, 1, 2] else []
noncomputable def sg_A_set_0 (v0 : Nat) (v1 : Int32) (v2 : Nat) (w : hy_W) : Option hy_N := (hy_gi w v0 7 1).bind fun x1 => hy_bi (f_J_check2 [.int v1, .int x1] w) fun x4 w2 => if hy_ob w2 v0 7 = true then hy_br (f_A_elementData [.ref v0, .int v1] w2) fun r7 w5 => (hy_gr w5 v0 7 0).bind fun r9 => if hy_ob w5 v2 4 = true then (hy_pa w5 3 r9 v1 (.ref v2)).bind fun w10 => some (.inr (.inl (some (.ref r7)), w10)) else none else none
noncomputable def nx_A_set (q : hy_P) : Option hy_N := match q with
  | (0, [.ref v0, .int v1, .ref v2], w) => sg_A_set_0 v0 v1 v2 w
  | _ => none
noncomputable def f_A_set (av : List Value) (w : hy_W) : Option hy_O := hy_fx nx_A_set (0, av, w)
set_option maxHeartbeats 4000000 in
set_option maxRecDepth 100000 in
theorem sk_A_set_0 {p : Program} {l : Launch} {e : Env} {s : State} {m : MethodId} {args : Array Value} {below : List Frame} {meth : Method} {c : Code} {G : hy_G} {A : Nat → Prop} {ad0 : Nat → Nat} {w0 : hy_W} {o : hy_O} (hl9 : l.flags = flags0) (hA : hy_A G ad0 w0 s.heap.size = A) (B : hy_B p l e (hy_rm 2 43 w0) s m args below meth c "java/util/ArrayList" b_A_set 4 (some (.object "java/lang/Object")) [] G A) (v0 : Nat) (v1 : Int32) (v2 : Nat) (w : hy_W) (nx : hy_N) (h : sg_A_set_0 v0 v1 v2 w = some nx) (K : hy_Nx lay_A_set p l e (hy_rm 2 43 w0) s m args below meth c 4 G A ad0 w0.1.length (hy_Q below G ad0 w0 o args s) o nx) : hy_At lay_A_set p l e (hy_rm 2 43 w0) s m args below meth c 4 G A ad0 w0.1.length (hy_Q below G ad0 w0 o args s) (0, [.ref v0, .int v1, .ref v2], w) := by
  intro ad H locs cells slots ls S hok hl
  have hx := B.1
  have hb := B.2.1
  dsimp only at S hok
  have hl : lv_has ls 4 [(0, .ref (ad v0)), (1, .int v1), (2, .ref (ad v2))] := hl
  show W p l e (hy_rm 2 43 w0) s m args below meth c H locs cells slots (hy_Q below G ad0 w0 o args s) (F0 m 0 ls [])
  have hv_v0 : v0 < w.1.length := hok (.ref v0) (List.mem_of_getElem? (i := 0) rfl) v0 rfl
  obtain ⟨a_v0, ha_v0⟩ : ∃ a, ad v0 = a := ⟨_, rfl⟩
  rw [ha_v0] at hl
  have hv_v2 : v2 < w.1.length := hok (.ref v2) (List.mem_of_getElem? (i := 2) rfl) v2 rfl
  obtain ⟨a_v2, ha_v2⟩ : ∃ a, ad v2 = a := ⟨_, rfl⟩
  rw [ha_v2] at hl
  unfold sg_A_set_0 at h
  refine lv_iload_n hx hb d_A_set_0 rfl (lv_at hl 1 rfl) ?_
  refine lv_aload_n hx hb d_A_set_1 rfl (lv_at hl 0 rfl) ?_
  obtain ⟨x1, hx1, h⟩ := hy_bd h
  refine hy_geti B S ha_v0 hx1 rfl (Nat.le_of_ble_eq_true rfl) i_7 (j := 1) tw_118 (fun _ h => h) d_A_set_2 ?_
  obtain ⟨x4, w2, hq_w2, h⟩ := hy_bi_spec h
  refine hy_calli (hy_runS (rest := []) (As := [.int v1, .int x1]) B S (by rfl) (c_J_check2 hl9 G ad hq_w2) (hy_oki (hy_oki hy_ok0)) tw_263 tw_17 tw_261 tw_262 (by decide) rfl (Nat.le_of_ble_eq_true rfl) (Nat.le_of_ble_eq_true rfl) hl.1 (Nat.le_of_ble_eq_true rfl) d_A_set_5) (fun ad3 H locs cells slots hag hl_w2 S => ?_)
  have ha_v0 : ad3 v0 = a_v0 := (hag v0 (by omega)).trans ha_v0
  have ha_v2 : ad3 v2 = a_v2 := (hag v2 (by omega)).trans ha_v2
  refine lv_pop hx hb d_A_set_8 rfl ?_
  refine lv_aload_n hx hb d_A_set_9 rfl (lv_at hl 0 rfl) ?_
  refine lv_iload_n hx hb d_A_set_10 rfl (lv_at hl 1 rfl) ?_
  obtain ⟨ob8, h⟩ := hy_if h
  obtain ⟨fs_ob8, hf_ob8, hg_ob8⟩ := hy_ob_spec ob8
  obtain ⟨r7, w5, hq_w5, h⟩ := hy_br_spec h
  refine hy_callr (hy_runV (rest := []) (As := [.int v1]) (r := v0) (b := a_v0) B S rfl ha_v0 (by rfl) (c_A_elementData hl9 G ad3 hq_w5) (hy_okr (by omega) (hy_oki hy_ok0)) tw_270 tw_8 tw_267 tw_268 sl_A_elementData (by decide) rfl (Nat.le_of_ble_eq_true rfl) (Nat.le_of_ble_eq_true rfl) hf_ob8 hg_ob8 rfl hl.1 (Nat.le_of_ble_eq_true rfl) d_A_set_11) (fun ad6 H locs cells slots hag hl_w5 S a_r7 ha_r7 hv_r7 => ?_)
  have ha_v0 : ad6 v0 = a_v0 := (hag v0 (by omega)).trans ha_v0
  have ha_v2 : ad6 v2 = a_v2 := (hag v2 (by omega)).trans ha_v2
  refine lv_astore_n (lv' := [(3, .ref a_r7), (0, .ref a_v0), (1, .int v1), (2, .ref a_v2)]) hx hb d_A_set_14 rfl hl (Nat.le_of_ble_eq_true rfl) rfl (fun ls hl => ?_)
  refine lv_aload_n hx hb d_A_set_15 rfl (lv_at hl 1 rfl) ?_
  obtain ⟨r9, hr9, h⟩ := hy_bd h
  refine hy_getr B S ha_v0 hr9 rfl (Nat.le_of_ble_eq_true rfl) i_7 (j := 0) tw_117 (fun _ h => h) d_A_set_16 (fun a_r9 ha_r9 hv_r9 => ?_)
  refine lv_iload_n hx hb d_A_set_19 rfl (lv_at hl 2 rfl) ?_
  refine lv_aload_n hx hb d_A_set_20 rfl (lv_at hl 3 rfl) ?_
  obtain ⟨ob11, h⟩ := hy_if h
  obtain ⟨fs_ob11, hf_ob11, hg_ob11⟩ := hy_ob_spec ob11
  obtain ⟨w10, hw10, h⟩ := hy_bd h
  refine hy_aast (E := "java/lang/Object") B S ha_r9 ha_v2 hw10 hf_ob11 hg_ob11 rfl (Nat.le_of_ble_eq_true rfl) rfl (hy_castR B) d_A_set_21 (fun H locs S hl_w10 => ?_)
  refine lv_aload_n hx hb d_A_set_22 rfl (lv_at hl 0 rfl) ?_
  cases h
  cases K
  exact hy_aret hA B S (Or.inl ⟨_, rfl⟩) ha_r7 (by omega) d_A_set_23
theorem nk_A_set {p : Program} {l : Launch} {e : Env} {s : State} {m : MethodId} {args : Array Value} {below : List Frame} {meth : Method} {c : Code} {G : hy_G} {A : Nat → Prop} {ad0 : Nat → Nat} {w0 : hy_W} {o : hy_O} (hl9 : l.flags = flags0) (hA : hy_A G ad0 w0 s.heap.size = A) (B : hy_B p l e (hy_rm 2 43 w0) s m args below meth c "java/util/ArrayList" b_A_set 4 (some (.object "java/lang/Object")) [] G A) (q : hy_P) (nx : hy_N) (hq : nx_A_set q = some nx) (K : hy_Nx lay_A_set p l e (hy_rm 2 43 w0) s m args below meth c 4 G A ad0 w0.1.length (hy_Q below G ad0 w0 o args s) o nx) : hy_At lay_A_set p l e (hy_rm 2 43 w0) s m args below meth c 4 G A ad0 w0.1.length (hy_Q below G ad0 w0 o args s) q := by
  unfold nx_A_set at hq
  split at hq
  · exact sk_A_set_0 hl9 hA B _ _ _ _ nx hq K
  · cases hq
theorem c_A_set {l : Launch} (hl9 : l.flags = flags0) (G : hy_G) (ad : Nat → Nat) {v0 : Nat} {v1 : Int32} {v2 : Nat} {w : hy_W} {o : hy_O} (h : f_A_set [.ref v0, .int v1, .ref v2] w = some o) : hy_M l y_A_set (Cond.code y_A_set b_A_set 4 (some (.object "java/lang/Object")) :: hy_T) 2 43 G ad [.ref v0, .int v1, .ref v2] w o := by
  obtain ⟨n, hn⟩ := hy_fx_iff.mp h
  refine hy_ofW hl9 (by decide +kernel) (Nat.le_of_ble_eq_true rfl) (fun p e s m args below meth c A hA hi B S hok ls hl => ?_)
  exact hy_loop (nk_A_set hl9 hA B) n _ hn ad s.heap [] 0 0 ls S hok hl
theorem d_H_keepDraft_0 : decode b_H_keepDraft 0 = .ok (.aload_n 1, 1) := by decide +kernel
theorem d_H_keepDraft_1 : decode b_H_keepDraft 1 = .ok (.aload_n 0, 1) := by decide +kernel
theorem d_H_keepDraft_2 : decode b_H_keepDraft 2 = .ok (.getfield 30, 3) := by decide +kernel
theorem d_H_keepDraft_5 : decode b_H_keepDraft 5 = .ok (.getfield 166, 3) := by decide +kernel
theorem d_H_keepDraft_8 : decode b_H_keepDraft 8 = .ok (.iconst 0, 1) := by decide +kernel
theorem d_H_keepDraft_9 : decode b_H_keepDraft 9 = .ok (.aload_n 0, 1) := by decide +kernel
theorem d_H_keepDraft_10 : decode b_H_keepDraft 10 = .ok (.getfield 30, 3) := by decide +kernel
theorem d_H_keepDraft_13 : decode b_H_keepDraft 13 = .ok (.getfield 170, 3) := by decide +kernel
theorem d_H_keepDraft_16 : decode b_H_keepDraft 16 = .ok (.invokestatic 171, 3) := by decide +kernel
theorem d_H_keepDraft_19 : decode b_H_keepDraft 19 = .ok (.istore_n 3, 1) := by decide +kernel
theorem d_H_keepDraft_20 : decode b_H_keepDraft 20 = .ok (.iload_n 3, 1) := by decide +kernel
theorem d_H_keepDraft_21 : decode b_H_keepDraft 21 = .ok (.iconst (-1), 1) := by decide +kernel
theorem d_H_keepDraft_22 : decode b_H_keepDraft 22 = .ok (.if_icmp .ne 17, 3) := by decide +kernel
theorem d_H_keepDraft_25 : decode b_H_keepDraft 25 = .ok (.iload_n 2, 1) := by decide +kernel
theorem d_H_keepDraft_26 : decode b_H_keepDraft 26 = .ok (.ifCond .eq 13, 3) := by decide +kernel
theorem d_H_keepDraft_29 : decode b_H_keepDraft 29 = .ok (.new 68, 3) := by decide +kernel
theorem d_H_keepDraft_32 : decode b_H_keepDraft 32 = .ok (.dup, 1) := by decide +kernel
theorem d_H_keepDraft_33 : decode b_H_keepDraft 33 = .ok (.ldc 175, 2) := by decide +kernel
theorem d_H_keepDraft_35 : decode b_H_keepDraft 35 = .ok (.invokespecial 72, 3) := by decide +kernel
theorem d_H_keepDraft_38 : decode b_H_keepDraft 38 = .ok (.athrow, 1) := by decide +kernel
theorem d_H_keepDraft_39 : decode b_H_keepDraft 39 = .ok (.iload_n 3, 1) := by decide +kernel
theorem d_H_keepDraft_40 : decode b_H_keepDraft 40 = .ok (.iconst (-1), 1) := by decide +kernel
theorem d_H_keepDraft_41 : decode b_H_keepDraft 41 = .ok (.if_icmp .ne 18, 3) := by decide +kernel
theorem d_H_keepDraft_44 : decode b_H_keepDraft 44 = .ok (.aload_n 1, 1) := by decide +kernel
theorem d_H_keepDraft_45 : decode b_H_keepDraft 45 = .ok (.aload_n 0, 1) := by decide +kernel
theorem d_H_keepDraft_46 : decode b_H_keepDraft 46 = .ok (.getfield 30, 3) := by decide +kernel
theorem d_H_keepDraft_49 : decode b_H_keepDraft 49 = .ok (.invokevirtual 177, 3) := by decide +kernel
theorem d_H_keepDraft_52 : decode b_H_keepDraft 52 = .ok (.invokevirtual 181, 3) := by decide +kernel
theorem d_H_keepDraft_55 : decode b_H_keepDraft 55 = .ok (.pop, 1) := by decide +kernel
theorem d_H_keepDraft_56 : decode b_H_keepDraft 56 = .ok (.goto 16, 3) := by decide +kernel
theorem d_H_keepDraft_59 : decode b_H_keepDraft 59 = .ok (.aload_n 1, 1) := by decide +kernel
theorem d_H_keepDraft_60 : decode b_H_keepDraft 60 = .ok (.iload_n 3, 1) := by decide +kernel
theorem d_H_keepDraft_61 : decode b_H_keepDraft 61 = .ok (.aload_n 0, 1) := by decide +kernel
theorem d_H_keepDraft_62 : decode b_H_keepDraft 62 = .ok (.getfield 30, 3) := by decide +kernel
theorem d_H_keepDraft_65 : decode b_H_keepDraft 65 = .ok (.invokevirtual 177, 3) := by decide +kernel
theorem d_H_keepDraft_68 : decode b_H_keepDraft 68 = .ok (.invokevirtual 185, 3) := by decide +kernel
theorem d_H_keepDraft_71 : decode b_H_keepDraft 71 = .ok (.pop, 1) := by decide +kernel
theorem d_H_keepDraft_72 : decode b_H_keepDraft 72 = .ok (.aload_n 0, 1) := by decide +kernel
theorem d_H_keepDraft_73 : decode b_H_keepDraft 73 = .ok (.getfield 20, 3) := by decide +kernel
theorem d_H_keepDraft_76 : decode b_H_keepDraft 76 = .ok (.invokevirtual 89, 3) := by decide +kernel
theorem d_H_keepDraft_79 : decode b_H_keepDraft 79 = .ok (.pop, 1) := by decide +kernel
theorem d_H_keepDraft_80 : decode b_H_keepDraft 80 = .ok (.aload_n 0, 1) := by decide +kernel
theorem d_H_keepDraft_81 : decode b_H_keepDraft 81 = .ok (.getfield 30, 3) := by decide +kernel
theorem d_H_keepDraft_84 : decode b_H_keepDraft 84 = .ok (.getfield 170, 3) := by decide +kernel
theorem d_H_keepDraft_87 : decode b_H_keepDraft 87 = .ok (.ireturn, 1) := by decide +kernel
def lay_H_keepDraft (pc : Nat) : List Nat := if pc = 0 then [0, 1, 2] else if pc = 39 then [0, 1, 3] else if pc = 72 then [0] else []
noncomputable def sg_H_keepDraft_0 (v0 : Nat) (v1 : Nat) (v2 : Int32) (w : hy_W) : Option hy_N := (hy_gr w v0 5 3).bind fun r1 => (hy_gr w r1 0 0).bind fun r2 => (hy_gr w v0 5 3).bind fun r3 => (hy_gi w r3 0 2).bind fun x4 => hy_bi (f_H_indexOfRule [.ref v1, .ref r2, .int 0, .int x4] w) fun x7 w5 => if x7 = (-1) then (if v2 = 0 then (some (.inl (39, [.ref v0, .ref v1, .int x7], w5))) else ((hy_th w5).bind fun w10 => some (.inr (.inr "java/lang/IllegalStateException", w10)))) else (some (.inl (39, [.ref v0, .ref v1, .int x7], w5)))
noncomputable def sg_H_keepDraft_39 (v0 : Nat) (v1 : Nat) (v3 : Int32) (w : hy_W) : Option hy_N := if v3 = (-1) then ((hy_gr w v0 5 3).bind fun r11 => if hy_ob w r11 0 = true then hy_br (f_D_toRule [.ref r11] w) fun r14 w12 => if hy_ob w12 v1 7 = true then hy_bi (f_A_add1 [.ref v1, .ref r14] w12) fun x18 w16 => some (.inl (72, [.ref v0], w16)) else none else none) else ((hy_gr w v0 5 3).bind fun r2 => if hy_ob w r2 0 = true then hy_br (f_D_toRule [.ref r2] w) fun r5 w3 => if hy_ob w3 v1 7 = true then hy_br (f_A_set [.ref v1, .int v3, .ref r5] w3) fun r9 w7 => some (.inl (72, [.ref v0], w7)) else none else none)
noncomputable def sg_H_keepDraft_72 (v0 : Nat) (w : hy_W) : Option hy_N := (hy_gr w v0 5 1).bind fun r1 => if hy_ob w r1 2 = true then hy_bi (f_N_empty [.ref r1] w) fun x4 w2 => (hy_gr w2 v0 5 3).bind fun r6 => (hy_gi w2 r6 0 2).bind fun x7 => some (.inr (.inl (some (.int x7)), w2)) else none
noncomputable def nx_H_keepDraft (q : hy_P) : Option hy_N := match q with
  | (0, [.ref v0, .ref v1, .int v2], w) => sg_H_keepDraft_0 v0 v1 v2 w
  | (39, [.ref v0, .ref v1, .int v3], w) => sg_H_keepDraft_39 v0 v1 v3 w
  | (72, [.ref v0], w) => sg_H_keepDraft_72 v0 w
  | _ => none
noncomputable def f_H_keepDraft (av : List Value) (w : hy_W) : Option hy_O := hy_fx nx_H_keepDraft (0, av, w)
set_option maxHeartbeats 4000000 in
set_option maxRecDepth 100000 in
theorem sk_H_keepDraft_0 {p : Program} {l : Launch} {e : Env} {s : State} {m : MethodId} {args : Array Value} {below : List Frame} {meth : Method} {c : Code} {G : hy_G} {A : Nat → Prop} {ad0 : Nat → Nat} {w0 : hy_W} {o : hy_O} (hl9 : l.flags = flags0) (hA : hy_A G ad0 w0 s.heap.size = A) (B : hy_B p l e (hy_rm 7 149 w0) s m args below meth c "HyphenPatterns" b_H_keepDraft 4 (some .int) [] G A) (v0 : Nat) (v1 : Nat) (v2 : Int32) (w : hy_W) (nx : hy_N) (h : sg_H_keepDraft_0 v0 v1 v2 w = some nx) (K : hy_Nx lay_H_keepDraft p l e (hy_rm 7 149 w0) s m args below meth c 4 G A ad0 w0.1.length (hy_Q below G ad0 w0 o args s) o nx) : hy_At lay_H_keepDraft p l e (hy_rm 7 149 w0) s m args below meth c 4 G A ad0 w0.1.length (hy_Q below G ad0 w0 o args s) (0, [.ref v0, .ref v1, .int v2], w) := by
  intro ad H locs cells slots ls S hok hl
  have hx := B.1
  have hb := B.2.1
  dsimp only at S hok
  have hl : lv_has ls 4 [(0, .ref (ad v0)), (1, .ref (ad v1)), (2, .int v2)] := hl
  show W p l e (hy_rm 7 149 w0) s m args below meth c H locs cells slots (hy_Q below G ad0 w0 o args s) (F0 m 0 ls [])
  have hv_v0 : v0 < w.1.length := hok (.ref v0) (List.mem_of_getElem? (i := 0) rfl) v0 rfl
  obtain ⟨a_v0, ha_v0⟩ : ∃ a, ad v0 = a := ⟨_, rfl⟩
  rw [ha_v0] at hl
  have hv_v1 : v1 < w.1.length := hok (.ref v1) (List.mem_of_getElem? (i := 1) rfl) v1 rfl
  obtain ⟨a_v1, ha_v1⟩ : ∃ a, ad v1 = a := ⟨_, rfl⟩
  rw [ha_v1] at hl
  unfold sg_H_keepDraft_0 at h
  refine lv_aload_n hx hb d_H_keepDraft_0 rfl (lv_at hl 1 rfl) ?_
  refine lv_aload_n hx hb d_H_keepDraft_1 rfl (lv_at hl 0 rfl) ?_
  obtain ⟨r1, hr1, h⟩ := hy_bd h
  refine hy_getr B S ha_v0 hr1 rfl (Nat.le_of_ble_eq_true rfl) i_5 (j := 3) tw_166 (fun _ h => h) d_H_keepDraft_2 (fun a_r1 ha_r1 hv_r1 => ?_)
  obtain ⟨r2, hr2, h⟩ := hy_bd h
  refine hy_getr B S ha_r1 hr2 rfl (Nat.le_of_ble_eq_true rfl) i_0 (j := 0) tw_64 (fun _ h => h) d_H_keepDraft_5 (fun a_r2 ha_r2 hv_r2 => ?_)
  refine lv_iconst (v := 0) hx hb d_H_keepDraft_8 (by decide) ?_
  refine lv_aload_n hx hb d_H_keepDraft_9 rfl (lv_at hl 0 rfl) ?_
  obtain ⟨r3, hr3, h⟩ := hy_bd h
  refine hy_getr B S ha_v0 hr3 rfl (Nat.le_of_ble_eq_true rfl) i_5 (j := 3) tw_166 (fun _ h => h) d_H_keepDraft_10 (fun a_r3 ha_r3 hv_r3 => ?_)
  obtain ⟨x4, hx4, h⟩ := hy_bd h
  refine hy_geti B S ha_r3 hx4 rfl (Nat.le_of_ble_eq_true rfl) i_0 (j := 2) tw_67 (fun _ h => h) d_H_keepDraft_13 ?_
  obtain ⟨x7, w5, hq_w5, h⟩ := hy_bi_spec h
  refine hy_calli (hy_runS (rest := []) (As := [.ref a_v1, .ref a_r2, .int 0, .int x4]) B S (by subst ha_v1 ha_r2; rfl) (c_H_indexOfRule hl9 G ad hq_w5) (hy_okr (by omega) (hy_okr (by omega) (hy_oki (hy_oki hy_ok0)))) tw_256 tw_1 tw_506 tw_255 (by decide) rfl (Nat.le_of_ble_eq_true rfl) (Nat.le_of_ble_eq_true rfl) hl.1 (Nat.le_of_ble_eq_true rfl) d_H_keepDraft_16) (fun ad6 H locs cells slots hag hl_w5 S => ?_)
  have ha_v0 : ad6 v0 = a_v0 := (hag v0 (by omega)).trans ha_v0
  have ha_v1 : ad6 v1 = a_v1 := (hag v1 (by omega)).trans ha_v1
  refine lv_istore_n (lv' := [(3, .int x7), (0, .ref a_v0), (1, .ref a_v1), (2, .int v2)]) hx hb d_H_keepDraft_19 rfl hl (Nat.le_of_ble_eq_true rfl) rfl (fun ls hl => ?_)
  refine lv_iload_n hx hb d_H_keepDraft_20 rfl (lv_at hl 0 rfl) ?_
  refine lv_iconst (v := (-1)) hx hb d_H_keepDraft_21 (by decide) ?_
  refine lv_icmp_ne (tgt := 39) hx hb d_H_keepDraft_22 (by decide) (fun c8 => ?_) (fun c8 => ?_)
  · rw [if_neg c8] at h
    cases h
    exact hy_jump K S (hy_okr (by omega) (hy_okr (by omega) (hy_oki hy_ok0))) (lv_sub hl [1, 2, 0] rfl) (by subst ha_v0 ha_v1; rfl) (by subst ha_v0 ha_v1; rfl)
  · rw [if_pos c8] at h
    refine lv_iload_n hx hb d_H_keepDraft_25 rfl (lv_at hl 3 rfl) ?_
    refine lv_if_eq (tgt := 39) hx hb d_H_keepDraft_26 (by decide) (fun c9 => ?_) (fun c9 => ?_)
    · rw [if_pos c9] at h
      cases h
      exact hy_jump K S (hy_okr (by omega) (hy_okr (by omega) (hy_oki hy_ok0))) (lv_sub hl [1, 2, 0] rfl) (by subst ha_v0 ha_v1; rfl) (by subst ha_v0 ha_v1; rfl)
    · rw [if_neg c9] at h
      obtain ⟨w10, hw10, h⟩ := hy_bd h
      cases h
      cases K
      exact hy_throw (text := "there is no room for one more") (names := ["java/lang/RuntimeException", "java/lang/Exception"]) hA B S hw10 (by decide +kernel) (by decide +kernel) tw_413 tw_15 (by decide +kernel) at_H_IS hl.1 d_H_keepDraft_29 d_H_keepDraft_32 d_H_keepDraft_33 d_H_keepDraft_35 d_H_keepDraft_38 (Nat.le_of_ble_eq_true rfl) (Nat.le_of_ble_eq_true rfl)
set_option maxHeartbeats 4000000 in
set_option maxRecDepth 100000 in
theorem sk_H_keepDraft_39 {p : Program} {l : Launch} {e : Env} {s : State} {m : MethodId} {args : Array Value} {below : List Frame} {meth : Method} {c : Code} {G : hy_G} {A : Nat → Prop} {ad0 : Nat → Nat} {w0 : hy_W} {o : hy_O} (hl9 : l.flags = flags0) (hA : hy_A G ad0 w0 s.heap.size = A) (B : hy_B p l e (hy_rm 7 149 w0) s m args below meth c "HyphenPatterns" b_H_keepDraft 4 (some .int) [] G A) (v0 : Nat) (v1 : Nat) (v3 : Int32) (w : hy_W) (nx : hy_N) (h : sg_H_keepDraft_39 v0 v1 v3 w = some nx) (K : hy_Nx lay_H_keepDraft p l e (hy_rm 7 149 w0) s m args below meth c 4 G A ad0 w0.1.length (hy_Q below G ad0 w0 o args s) o nx) : hy_At lay_H_keepDraft p l e (hy_rm 7 149 w0) s m args below meth c 4 G A ad0 w0.1.length (hy_Q below G ad0 w0 o args s) (39, [.ref v0, .ref v1, .int v3], w) := by
  intro ad H locs cells slots ls S hok hl
  have hx := B.1
  have hb := B.2.1
  dsimp only at S hok
  have hl : lv_has ls 4 [(0, .ref (ad v0)), (1, .ref (ad v1)), (3, .int v3)] := hl
  show W p l e (hy_rm 7 149 w0) s m args below meth c H locs cells slots (hy_Q below G ad0 w0 o args s) (F0 m 39 ls [])
  have hv_v0 : v0 < w.1.length := hok (.ref v0) (List.mem_of_getElem? (i := 0) rfl) v0 rfl
  obtain ⟨a_v0, ha_v0⟩ : ∃ a, ad v0 = a := ⟨_, rfl⟩
  rw [ha_v0] at hl
  have hv_v1 : v1 < w.1.length := hok (.ref v1) (List.mem_of_getElem? (i := 1) rfl) v1 rfl
  obtain ⟨a_v1, ha_v1⟩ : ∃ a, ad v1 = a := ⟨_, rfl⟩
  rw [ha_v1] at hl
  unfold sg_H_keepDraft_39 at h
  refine lv_iload_n hx hb d_H_keepDraft_39 rfl (lv_at hl 2 rfl) ?_
  refine lv_iconst (v := (-1)) hx hb d_H_keepDraft_40 (by decide) ?_
  refine lv_icmp_ne (tgt := 59) hx hb d_H_keepDraft_41 (by decide) (fun c1 => ?_) (fun c1 => ?_)
  · rw [if_neg c1] at h
    refine lv_aload_n hx hb d_H_keepDraft_59 rfl (lv_at hl 1 rfl) ?_
    refine lv_iload_n hx hb d_H_keepDraft_60 rfl (lv_at hl 2 rfl) ?_
    refine lv_aload_n hx hb d_H_keepDraft_61 rfl (lv_at hl 0 rfl) ?_
    obtain ⟨r2, hr2, h⟩ := hy_bd h
    refine hy_getr B S ha_v0 hr2 rfl (Nat.le_of_ble_eq_true rfl) i_5 (j := 3) tw_166 (fun _ h => h) d_H_keepDraft_62 (fun a_r2 ha_r2 hv_r2 => ?_)
    obtain ⟨ob6, h⟩ := hy_if h
    obtain ⟨fs_ob6, hf_ob6, hg_ob6⟩ := hy_ob_spec ob6
    obtain ⟨r5, w3, hq_w3, h⟩ := hy_br_spec h
    refine hy_callr (hy_runV (rest := [.int v3, .ref a_v1]) (As := []) (r := r2) (b := a_r2) B S rfl ha_r2 (by rfl) (c_D_toRule hl9 G ad hq_w3) (hy_okr (by omega) hy_ok0) tw_511 tw_3 tw_508 tw_509 sl_D_toRule (by decide) rfl (Nat.le_of_ble_eq_true rfl) (Nat.le_of_ble_eq_true rfl) hf_ob6 hg_ob6 rfl hl.1 (Nat.le_of_ble_eq_true rfl) d_H_keepDraft_65) (fun ad4 H locs cells slots hag hl_w3 S a_r5 ha_r5 hv_r5 => ?_)
    have ha_v0 : ad4 v0 = a_v0 := (hag v0 (by omega)).trans ha_v0
    have ha_v1 : ad4 v1 = a_v1 := (hag v1 (by omega)).trans ha_v1
    obtain ⟨ob10, h⟩ := hy_if h
    obtain ⟨fs_ob10, hf_ob10, hg_ob10⟩ := hy_ob_spec ob10
    obtain ⟨r9, w7, hq_w7, h⟩ := hy_br_spec h
    refine hy_callr (hy_runV (rest := []) (As := [.int v3, .ref a_r5]) (r := v1) (b := a_v1) B S rfl ha_v1 (by subst ha_r5; rfl) (c_A_set hl9 G ad4 hq_w7) (hy_okr (by omega) (hy_oki (hy_okr (by omega) hy_ok0))) tw_595 tw_8 tw_592 tw_593 sl_A_set (by decide) rfl (Nat.le_of_ble_eq_true rfl) (Nat.le_of_ble_eq_true rfl) hf_ob10 hg_ob10 rfl hl.1 (Nat.le_of_ble_eq_true rfl) d_H_keepDraft_68) (fun ad8 H locs cells slots hag hl_w7 S a_r9 ha_r9 hv_r9 => ?_)
    have ha_v0 : ad8 v0 = a_v0 := (hag v0 (by omega)).trans ha_v0
    have ha_v1 : ad8 v1 = a_v1 := (hag v1 (by omega)).trans ha_v1
    refine lv_pop hx hb d_H_keepDraft_71 rfl ?_
    cases h
    exact hy_jump K S (hy_okr (by omega) hy_ok0) (lv_sub hl [0] rfl) (by subst ha_v0; rfl) (by subst ha_v0; rfl)
  · rw [if_pos c1] at h
    refine lv_aload_n hx hb d_H_keepDraft_44 rfl (lv_at hl 1 rfl) ?_
    refine lv_aload_n hx hb d_H_keepDraft_45 rfl (lv_at hl 0 rfl) ?_
    obtain ⟨r11, hr11, h⟩ := hy_bd h
    refine hy_getr B S ha_v0 hr11 rfl (Nat.le_of_ble_eq_true rfl) i_5 (j := 3) tw_166 (fun _ h => h) d_H_keepDraft_46 (fun a_r11 ha_r11 hv_r11 => ?_)
    obtain ⟨ob15, h⟩ := hy_if h
    obtain ⟨fs_ob15, hf_ob15, hg_ob15⟩ := hy_ob_spec ob15
    obtain ⟨r14, w12, hq_w12, h⟩ := hy_br_spec h
    refine hy_callr (hy_runV (rest := [.ref a_v1]) (As := []) (r := r11) (b := a_r11) B S rfl ha_r11 (by rfl) (c_D_toRule hl9 G ad hq_w12) (hy_okr (by omega) hy_ok0) tw_511 tw_3 tw_508 tw_509 sl_D_toRule (by decide) rfl (Nat.le_of_ble_eq_true rfl) (Nat.le_of_ble_eq_true rfl) hf_ob15 hg_ob15 rfl hl.1 (Nat.le_of_ble_eq_true rfl) d_H_keepDraft_49) (fun ad13 H locs cells slots hag hl_w12 S a_r14 ha_r14 hv_r14 => ?_)
    have ha_v0 : ad13 v0 = a_v0 := (hag v0 (by omega)).trans ha_v0
    have ha_v1 : ad13 v1 = a_v1 := (hag v1 (by omega)).trans ha_v1
    obtain ⟨ob19, h⟩ := hy_if h
    obtain ⟨fs_ob19, hf_ob19, hg_ob19⟩ := hy_ob_spec ob19
    obtain ⟨x18, w16, hq_w16, h⟩ := hy_bi_spec h
    refine hy_calli (hy_runV (rest := []) (As := [.ref a_r14]) (r := v1) (b := a_v1) B S rfl ha_v1 (by subst ha_r14; rfl) (c_A_add1 hl9 G ad13 hq_w16) (hy_okr (by omega) (hy_okr (by omega) hy_ok0)) tw_545 tw_8 tw_542 tw_543 sl_A_add1 (by decide) rfl (Nat.le_of_ble_eq_true rfl) (Nat.le_of_ble_eq_true rfl) hf_ob19 hg_ob19 rfl hl.1 (Nat.le_of_ble_eq_true rfl) d_H_keepDraft_52) (fun ad17 H locs cells slots hag hl_w16 S => ?_)
    have ha_v0 : ad17 v0 = a_v0 := (hag v0 (by omega)).trans ha_v0
    have ha_v1 : ad17 v1 = a_v1 := (hag v1 (by omega)).trans ha_v1
    refine lv_pop hx hb d_H_keepDraft_55 rfl ?_
    refine lv_goto (tgt := 72) hx hb d_H_keepDraft_56 (by decide) ?_
    cases h
    exact hy_jump K S (hy_okr (by omega) hy_ok0) (lv_sub hl [0] rfl) (by subst ha_v0; rfl) (by subst ha_v0; rfl)
set_option maxHeartbeats 4000000 in
set_option maxRecDepth 100000 in
theorem sk_H_keepDraft_72 {p : Program} {l : Launch} {e : Env} {s : State} {m : MethodId} {args : Array Value} {below : List Frame} {meth : Method} {c : Code} {G : hy_G} {A : Nat → Prop} {ad0 : Nat → Nat} {w0 : hy_W} {o : hy_O} (hl9 : l.flags = flags0) (hA : hy_A G ad0 w0 s.heap.size = A) (B : hy_B p l e (hy_rm 7 149 w0) s m args below meth c "HyphenPatterns" b_H_keepDraft 4 (some .int) [] G A) (v0 : Nat) (w : hy_W) (nx : hy_N) (h : sg_H_keepDraft_72 v0 w = some nx) (K : hy_Nx lay_H_keepDraft p l e (hy_rm 7 149 w0) s m args below meth c 4 G A ad0 w0.1.length (hy_Q below G ad0 w0 o args s) o nx) : hy_At lay_H_keepDraft p l e (hy_rm 7 149 w0) s m args below meth c 4 G A ad0 w0.1.length (hy_Q below G ad0 w0 o args s) (72, [.ref v0], w) := by
  intro ad H locs cells slots ls S hok hl
  have hx := B.1
  have hb := B.2.1
  dsimp only at S hok
  have hl : lv_has ls 4 [(0, .ref (ad v0))] := hl
  show W p l e (hy_rm 7 149 w0) s m args below meth c H locs cells slots (hy_Q below G ad0 w0 o args s) (F0 m 72 ls [])
  have hv_v0 : v0 < w.1.length := hok (.ref v0) (List.mem_of_getElem? (i := 0) rfl) v0 rfl
  obtain ⟨a_v0, ha_v0⟩ : ∃ a, ad v0 = a := ⟨_, rfl⟩
  rw [ha_v0] at hl
  unfold sg_H_keepDraft_72 at h
  refine lv_aload_n hx hb d_H_keepDraft_72 rfl (lv_at hl 0 rfl) ?_
  obtain ⟨r1, hr1, h⟩ := hy_bd h
  refine hy_getr B S ha_v0 hr1 rfl (Nat.le_of_ble_eq_true rfl) i_5 (j := 1) tw_164 (fun _ h => h) d_H_keepDraft_73 (fun a_r1 ha_r1 hv_r1 => ?_)
  obtain ⟨ob5, h⟩ := hy_if h
  obtain ⟨fs_ob5, hf_ob5, hg_ob5⟩ := hy_ob_spec ob5
  obtain ⟨x4, w2, hq_w2, h⟩ := hy_bi_spec h
  refine hy_calli (hy_runV (rest := []) (As := []) (r := r1) (b := a_r1) B S rfl ha_r1 (by rfl) (c_N_empty hl9 G ad hq_w2) (hy_okr (by omega) hy_ok0) tw_189 tw_2 tw_186 tw_187 sl_N_empty (by decide) rfl (Nat.le_of_ble_eq_true rfl) (Nat.le_of_ble_eq_true rfl) hf_ob5 hg_ob5 rfl hl.1 (Nat.le_of_ble_eq_true rfl) d_H_keepDraft_76) (fun ad3 H locs cells slots hag hl_w2 S => ?_)
  have ha_v0 : ad3 v0 = a_v0 := (hag v0 (by omega)).trans ha_v0
  refine lv_pop hx hb d_H_keepDraft_79 rfl ?_
  refine lv_aload_n hx hb d_H_keepDraft_80 rfl (lv_at hl 0 rfl) ?_
  obtain ⟨r6, hr6, h⟩ := hy_bd h
  refine hy_getr B S ha_v0 hr6 rfl (Nat.le_of_ble_eq_true rfl) i_5 (j := 3) tw_166 (fun _ h => h) d_H_keepDraft_81 (fun a_r6 ha_r6 hv_r6 => ?_)
  obtain ⟨x7, hx7, h⟩ := hy_bd h
  refine hy_geti B S ha_r6 hx7 rfl (Nat.le_of_ble_eq_true rfl) i_0 (j := 2) tw_67 (fun _ h => h) d_H_keepDraft_84 ?_
  cases h
  cases K
  exact hy_iret hA B S d_H_keepDraft_87
theorem nk_H_keepDraft {p : Program} {l : Launch} {e : Env} {s : State} {m : MethodId} {args : Array Value} {below : List Frame} {meth : Method} {c : Code} {G : hy_G} {A : Nat → Prop} {ad0 : Nat → Nat} {w0 : hy_W} {o : hy_O} (hl9 : l.flags = flags0) (hA : hy_A G ad0 w0 s.heap.size = A) (B : hy_B p l e (hy_rm 7 149 w0) s m args below meth c "HyphenPatterns" b_H_keepDraft 4 (some .int) [] G A) (q : hy_P) (nx : hy_N) (hq : nx_H_keepDraft q = some nx) (K : hy_Nx lay_H_keepDraft p l e (hy_rm 7 149 w0) s m args below meth c 4 G A ad0 w0.1.length (hy_Q below G ad0 w0 o args s) o nx) : hy_At lay_H_keepDraft p l e (hy_rm 7 149 w0) s m args below meth c 4 G A ad0 w0.1.length (hy_Q below G ad0 w0 o args s) q := by
  unfold nx_H_keepDraft at hq
  split at hq
  · exact sk_H_keepDraft_0 hl9 hA B _ _ _ _ nx hq K
  · exact sk_H_keepDraft_39 hl9 hA B _ _ _ _ nx hq K
  · exact sk_H_keepDraft_72 hl9 hA B _ _ nx hq K
  · cases hq
theorem c_H_keepDraft {l : Launch} (hl9 : l.flags = flags0) (G : hy_G) (ad : Nat → Nat) {v0 : Nat} {v1 : Nat} {v2 : Int32} {w : hy_W} {o : hy_O} (h : f_H_keepDraft [.ref v0, .ref v1, .int v2] w = some o) : hy_M l y_H_keepDraft (Cond.code y_H_keepDraft b_H_keepDraft 4 (some .int) :: hy_T) 7 149 G ad [.ref v0, .ref v1, .int v2] w o := by
  obtain ⟨n, hn⟩ := hy_fx_iff.mp h
  refine hy_ofW hl9 (by decide +kernel) (Nat.le_of_ble_eq_true rfl) (fun p e s m args below meth c A hA hi B S hok ls hl => ?_)
  exact hy_loop (nk_H_keepDraft hl9 hA B) n _ hn ad s.heap [] 0 0 ls S hok hl
theorem d_H_pattern_0 : decode b_H_pattern 0 = .ok (.aload_n 0, 1) := by decide +kernel
theorem d_H_pattern_1 : decode b_H_pattern 1 = .ok (.getfield 30, 3) := by decide +kernel
theorem d_H_pattern_4 : decode b_H_pattern 4 = .ok (.aload_n 0, 1) := by decide +kernel
theorem d_H_pattern_5 : decode b_H_pattern 5 = .ok (.getfield 20, 3) := by decide +kernel
theorem d_H_pattern_8 : decode b_H_pattern 8 = .ok (.invokevirtual 93, 3) := by decide +kernel
theorem d_H_pattern_11 : decode b_H_pattern 11 = .ok (.ifCond .ne 13, 3) := by decide +kernel
theorem d_H_pattern_14 : decode b_H_pattern 14 = .ok (.new 57, 3) := by decide +kernel
theorem d_H_pattern_17 : decode b_H_pattern 17 = .ok (.dup, 1) := by decide +kernel
theorem d_H_pattern_18 : decode b_H_pattern 18 = .ok (.ldc 97, 2) := by decide +kernel
theorem d_H_pattern_20 : decode b_H_pattern 20 = .ok (.invokespecial 61, 3) := by decide +kernel
theorem d_H_pattern_23 : decode b_H_pattern 23 = .ok (.athrow, 1) := by decide +kernel
theorem d_H_pattern_24 : decode b_H_pattern 24 = .ok (.aload_n 0, 1) := by decide +kernel
theorem d_H_pattern_25 : decode b_H_pattern 25 = .ok (.aload_n 0, 1) := by decide +kernel
theorem d_H_pattern_26 : decode b_H_pattern 26 = .ok (.getfield 11, 3) := by decide +kernel
theorem d_H_pattern_29 : decode b_H_pattern 29 = .ok (.aload_n 0, 1) := by decide +kernel
theorem d_H_pattern_30 : decode b_H_pattern 30 = .ok (.getfield 41, 3) := by decide +kernel
theorem d_H_pattern_33 : decode b_H_pattern 33 = .ok (.aaload, 1) := by decide +kernel
theorem d_H_pattern_34 : decode b_H_pattern 34 = .ok (.getfield 99, 3) := by decide +kernel
theorem d_H_pattern_37 : decode b_H_pattern 37 = .ok (.aload_n 0, 1) := by decide +kernel
theorem d_H_pattern_38 : decode b_H_pattern 38 = .ok (.invokevirtual 103, 3) := by decide +kernel
theorem d_H_pattern_41 : decode b_H_pattern 41 = .ok (.sipush 300, 3) := by decide +kernel
theorem d_H_pattern_44 : decode b_H_pattern 44 = .ok (.if_icmp .lt 7, 3) := by decide +kernel
theorem d_H_pattern_47 : decode b_H_pattern 47 = .ok (.iconst 1, 1) := by decide +kernel
theorem d_H_pattern_48 : decode b_H_pattern 48 = .ok (.goto 4, 3) := by decide +kernel
theorem d_H_pattern_51 : decode b_H_pattern 51 = .ok (.iconst 0, 1) := by decide +kernel
theorem d_H_pattern_52 : decode b_H_pattern 52 = .ok (.invokevirtual 106, 3) := by decide +kernel
theorem d_H_pattern_55 : decode b_H_pattern 55 = .ok (.ireturn, 1) := by decide +kernel
def lay_H_pattern (pc : Nat) : List Nat := if pc = 0 then [0] else if pc = 52 then [] else []
noncomputable def sg_H_pattern_0 (v0 : Nat) (w : hy_W) : Option hy_N := (hy_gr w v0 5 3).bind fun r1 => (hy_gr w v0 5 1).bind fun r2 => if hy_ob w r1 0 = true then hy_bi (f_D_readPattern [.ref r1, .ref r2] w) fun x5 w3 => if x5 = 0 then ((hy_th w3).bind fun w17 => some (.inr (.inr "java/lang/IllegalArgumentException", w17))) else ((hy_gr w3 v0 5 0).bind fun r8 => (hy_gi w3 v0 5 5).bind fun x9 => (hy_ar w3 2 r8 x9).bind fun r10 => (hy_gr w3 r10 1 3).bind fun r11 => if hy_ob w3 v0 5 = true then hy_bi (f_H_patternsInAll [.ref v0] w3) fun x14 w12 => if x14 < 300 then (some (.inl (52, [.int 0, .ref r11, .ref v0], w12))) else (some (.inl (52, [.int 1, .ref r11, .ref v0], w12))) else none) else none
noncomputable def sg_H_pattern_52 (s0 : Int32) (s1 : Nat) (s2 : Nat) (w : hy_W) : Option hy_N := if hy_ob w s2 5 = true then hy_xi (f_H_keepDraft [.ref s2, .ref s1, .int s0] w) (fun x3 w1 => some (.inr (.inl (some (.int x3)), w1))) (fun E5 w6 => some (.inr (.inr E5, w6))) else none
noncomputable def nx_H_pattern (q : hy_P) : Option hy_N := match q with
  | (0, [.ref v0], w) => sg_H_pattern_0 v0 w
  | (52, [.int s0, .ref s1, .ref s2], w) => sg_H_pattern_52 s0 s1 s2 w
  | _ => none
noncomputable def f_H_pattern (av : List Value) (w : hy_W) : Option hy_O := hy_fx nx_H_pattern (0, av, w)
set_option maxHeartbeats 4000000 in
set_option maxRecDepth 100000 in
theorem sk_H_pattern_0 {p : Program} {l : Launch} {e : Env} {s : State} {m : MethodId} {args : Array Value} {below : List Frame} {meth : Method} {c : Code} {G : hy_G} {A : Nat → Prop} {ad0 : Nat → Nat} {w0 : hy_W} {o : hy_O} (hl9 : l.flags = flags0) (hA : hy_A G ad0 w0 s.heap.size = A) (B : hy_B p l e (hy_rm 8 172 w0) s m args below meth c "HyphenPatterns" b_H_pattern 1 (some .int) [] G A) (v0 : Nat) (w : hy_W) (nx : hy_N) (h : sg_H_pattern_0 v0 w = some nx) (K : hy_Nx lay_H_pattern p l e (hy_rm 8 172 w0) s m args below meth c 1 G A ad0 w0.1.length (hy_Q below G ad0 w0 o args s) o nx) : hy_At lay_H_pattern p l e (hy_rm 8 172 w0) s m args below meth c 1 G A ad0 w0.1.length (hy_Q below G ad0 w0 o args s) (0, [.ref v0], w) := by
  intro ad H locs cells slots ls S hok hl
  have hx := B.1
  have hb := B.2.1
  dsimp only at S hok
  have hl : lv_has ls 1 [(0, .ref (ad v0))] := hl
  show W p l e (hy_rm 8 172 w0) s m args below meth c H locs cells slots (hy_Q below G ad0 w0 o args s) (F0 m 0 ls [])
  have hv_v0 : v0 < w.1.length := hok (.ref v0) (List.mem_of_getElem? (i := 0) rfl) v0 rfl
  obtain ⟨a_v0, ha_v0⟩ : ∃ a, ad v0 = a := ⟨_, rfl⟩
  rw [ha_v0] at hl
  unfold sg_H_pattern_0 at h
  refine lv_aload_n hx hb d_H_pattern_0 rfl (lv_at hl 0 rfl) ?_
  obtain ⟨r1, hr1, h⟩ := hy_bd h
  refine hy_getr B S ha_v0 hr1 rfl (Nat.le_of_ble_eq_true rfl) i_5 (j := 3) tw_166 (fun _ h => h) d_H_pattern_1 (fun a_r1 ha_r1 hv_r1 => ?_)
  refine lv_aload_n hx hb d_H_pattern_4 rfl (lv_at hl 0 rfl) ?_
  obtain ⟨r2, hr2, h⟩ := hy_bd h
  refine hy_getr B S ha_v0 hr2 rfl (Nat.le_of_ble_eq_true rfl) i_5 (j := 1) tw_164 (fun _ h => h) d_H_pattern_5 (fun a_r2 ha_r2 hv_r2 => ?_)
  obtain ⟨ob6, h⟩ := hy_if h
  obtain ⟨fs_ob6, hf_ob6, hg_ob6⟩ := hy_ob_spec ob6
  obtain ⟨x5, w3, hq_w3, h⟩ := hy_bi_spec h
  refine hy_calli (hy_runV (rest := []) (As := [.ref a_r2]) (r := r1) (b := a_r1) B S rfl ha_r1 (by subst ha_r2; rfl) (c_D_readPattern hl9 G ad hq_w3) (hy_okr (by omega) (hy_okr (by omega) hy_ok0)) tw_476 tw_3 tw_473 tw_474 sl_D_readPattern (by decide) rfl (Nat.le_of_ble_eq_true rfl) (Nat.le_of_ble_eq_true rfl) hf_ob6 hg_ob6 rfl hl.1 (Nat.le_of_ble_eq_true rfl) d_H_pattern_8) (fun ad4 H locs cells slots hag hl_w3 S => ?_)
  have ha_v0 : ad4 v0 = a_v0 := (hag v0 (by omega)).trans ha_v0
  refine lv_if_ne (tgt := 24) hx hb d_H_pattern_11 (by decide) (fun c7 => ?_) (fun c7 => ?_)
  · rw [if_neg c7] at h
    refine lv_aload_n hx hb d_H_pattern_24 rfl (lv_at hl 0 rfl) ?_
    refine lv_aload_n hx hb d_H_pattern_25 rfl (lv_at hl 0 rfl) ?_
    obtain ⟨r8, hr8, h⟩ := hy_bd h
    refine hy_getr B S ha_v0 hr8 rfl (Nat.le_of_ble_eq_true rfl) i_5 (j := 0) tw_163 (fun _ h => h) d_H_pattern_26 (fun a_r8 ha_r8 hv_r8 => ?_)
    refine lv_aload_n hx hb d_H_pattern_29 rfl (lv_at hl 0 rfl) ?_
    obtain ⟨x9, hx9, h⟩ := hy_bd h
    refine hy_geti B S ha_v0 hx9 rfl (Nat.le_of_ble_eq_true rfl) i_5 (j := 5) tw_168 (fun _ h => h) d_H_pattern_30 ?_
    obtain ⟨r10, hr10, h⟩ := hy_bd h
    refine hy_aald B S ha_r8 (Or.inl rfl) hr10 d_H_pattern_33 (fun a_r10 ha_r10 hv_r10 => ?_)
    obtain ⟨r11, hr11, h⟩ := hy_bd h
    refine hy_getr B S ha_r10 hr11 rfl (Nat.le_of_ble_eq_true rfl) i_1 (j := 3) tw_134 (fun _ h => h) d_H_pattern_34 (fun a_r11 ha_r11 hv_r11 => ?_)
    refine lv_aload_n hx hb d_H_pattern_37 rfl (lv_at hl 0 rfl) ?_
    obtain ⟨ob15, h⟩ := hy_if h
    obtain ⟨fs_ob15, hf_ob15, hg_ob15⟩ := hy_ob_spec ob15
    obtain ⟨x14, w12, hq_w12, h⟩ := hy_bi_spec h
    refine hy_calli (hy_runV (rest := [.ref a_r11, .ref a_v0]) (As := []) (r := v0) (b := a_v0) B S rfl ha_v0 (by rfl) (c_H_patternsInAll hl9 G ad4 hq_w12) (hy_okr (by omega) hy_ok0) tw_501 tw_1 tw_498 tw_500 sl_H_patternsInAll (by decide) rfl (Nat.le_of_ble_eq_true rfl) (Nat.le_of_ble_eq_true rfl) hf_ob15 hg_ob15 rfl hl.1 (Nat.le_of_ble_eq_true rfl) d_H_pattern_38) (fun ad13 H locs cells slots hag hl_w12 S => ?_)
    have ha_v0 : ad13 v0 = a_v0 := (hag v0 (by omega)).trans ha_v0
    have ha_r11 : ad13 r11 = a_r11 := (hag r11 (by omega)).trans ha_r11
    refine lv_sipush (v := 300) hx hb d_H_pattern_41 (by decide) ?_
    refine lv_icmp_lt (tgt := 51) hx hb d_H_pattern_44 (by decide) (fun c16 => ?_) (fun c16 => ?_)
    · rw [if_pos c16] at h
      refine lv_iconst (v := 0) hx hb d_H_pattern_51 (by decide) ?_
      cases h
      exact hy_jump K S (hy_oki (hy_okr (by omega) (hy_okr (by omega) hy_ok0))) (lv_sub hl [] rfl) (by subst ha_r11 ha_v0; rfl) (by subst ha_r11 ha_v0; rfl)
    · rw [if_neg c16] at h
      refine lv_iconst (v := 1) hx hb d_H_pattern_47 (by decide) ?_
      refine lv_goto (tgt := 52) hx hb d_H_pattern_48 (by decide) ?_
      cases h
      exact hy_jump K S (hy_oki (hy_okr (by omega) (hy_okr (by omega) hy_ok0))) (lv_sub hl [] rfl) (by subst ha_r11 ha_v0; rfl) (by subst ha_r11 ha_v0; rfl)
  · rw [if_pos c7] at h
    obtain ⟨w17, hw17, h⟩ := hy_bd h
    cases h
    cases K
    exact hy_throw (text := "the telling is no pattern") (names := ["java/lang/RuntimeException", "java/lang/Exception"]) hA B S hw17 (by decide +kernel) (by decide +kernel) tw_396 tw_14 (by decide +kernel) at_H_IA hl.1 d_H_pattern_14 d_H_pattern_17 d_H_pattern_18 d_H_pattern_20 d_H_pattern_23 (Nat.le_of_ble_eq_true rfl) (Nat.le_of_ble_eq_true rfl)
set_option maxHeartbeats 4000000 in
set_option maxRecDepth 100000 in
theorem sk_H_pattern_52 {p : Program} {l : Launch} {e : Env} {s : State} {m : MethodId} {args : Array Value} {below : List Frame} {meth : Method} {c : Code} {G : hy_G} {A : Nat → Prop} {ad0 : Nat → Nat} {w0 : hy_W} {o : hy_O} (hl9 : l.flags = flags0) (hA : hy_A G ad0 w0 s.heap.size = A) (B : hy_B p l e (hy_rm 8 172 w0) s m args below meth c "HyphenPatterns" b_H_pattern 1 (some .int) [] G A) (s0 : Int32) (s1 : Nat) (s2 : Nat) (w : hy_W) (nx : hy_N) (h : sg_H_pattern_52 s0 s1 s2 w = some nx) (K : hy_Nx lay_H_pattern p l e (hy_rm 8 172 w0) s m args below meth c 1 G A ad0 w0.1.length (hy_Q below G ad0 w0 o args s) o nx) : hy_At lay_H_pattern p l e (hy_rm 8 172 w0) s m args below meth c 1 G A ad0 w0.1.length (hy_Q below G ad0 w0 o args s) (52, [.int s0, .ref s1, .ref s2], w) := by
  intro ad H locs cells slots ls S hok hl
  have hx := B.1
  have hb := B.2.1
  dsimp only at S hok
  have hl : lv_has ls 1 [] := hl
  show W p l e (hy_rm 8 172 w0) s m args below meth c H locs cells slots (hy_Q below G ad0 w0 o args s) (F0 m 52 ls [.int s0, .ref (ad s1), .ref (ad s2)])
  have hv_s1 : s1 < w.1.length := hok (.ref s1) (List.mem_of_getElem? (i := 1) rfl) s1 rfl
  obtain ⟨a_s1, ha_s1⟩ : ∃ a, ad s1 = a := ⟨_, rfl⟩
  rw [ha_s1]
  have hv_s2 : s2 < w.1.length := hok (.ref s2) (List.mem_of_getElem? (i := 2) rfl) s2 rfl
  obtain ⟨a_s2, ha_s2⟩ : ∃ a, ad s2 = a := ⟨_, rfl⟩
  rw [ha_s2]
  unfold sg_H_pattern_52 at h
  obtain ⟨ob4, h⟩ := hy_if h
  obtain ⟨fs_ob4, hf_ob4, hg_ob4⟩ := hy_ob_spec ob4
  rcases hy_xi_spec h with ⟨x3, w1, hq_w1, h⟩ | ⟨E5, w6, hq_w6, h⟩
  · refine hy_calli (hy_runV (rest := []) (As := [.ref a_s1, .int s0]) (r := s2) (b := a_s2) B S rfl ha_s2 (by subst ha_s1; rfl) (c_H_keepDraft hl9 G ad hq_w1) (hy_okr (by omega) (hy_okr (by omega) (hy_oki hy_ok0))) tw_505 tw_1 tw_502 tw_504 sl_H_keepDraft (by decide) rfl (Nat.le_of_ble_eq_true rfl) (Nat.le_of_ble_eq_true rfl) hf_ob4 hg_ob4 rfl hl.1 (Nat.le_of_ble_eq_true rfl) d_H_pattern_52) (fun ad2 H locs cells slots hag hl_w1 S => ?_)
    cases h
    cases K
    exact hy_iret hA B S d_H_pattern_55
  · cases h
    cases K
    refine hy_callT (rest := []) (As := [.ref a_s1, .int s0]) (r := s2) (b := a_s2) B S rfl ha_s2 (by subst ha_s1; rfl) (c_H_keepDraft hl9 G ad hq_w6) (hy_okr (by omega) (hy_okr (by omega) (hy_oki hy_ok0))) tw_505 tw_1 tw_502 tw_504 sl_H_keepDraft (by decide) rfl (Nat.le_of_ble_eq_true rfl) (Nat.le_of_ble_eq_true rfl) hf_ob4 hg_ob4 rfl hl.1 (Nat.le_of_ble_eq_true rfl) d_H_pattern_52 (fun ad7 H locs cells slots q8 ce9 hag hl_w6 S z1 z2 z3 => ?_)
    exact hy_out hA B S z1 z2 z3
theorem nk_H_pattern {p : Program} {l : Launch} {e : Env} {s : State} {m : MethodId} {args : Array Value} {below : List Frame} {meth : Method} {c : Code} {G : hy_G} {A : Nat → Prop} {ad0 : Nat → Nat} {w0 : hy_W} {o : hy_O} (hl9 : l.flags = flags0) (hA : hy_A G ad0 w0 s.heap.size = A) (B : hy_B p l e (hy_rm 8 172 w0) s m args below meth c "HyphenPatterns" b_H_pattern 1 (some .int) [] G A) (q : hy_P) (nx : hy_N) (hq : nx_H_pattern q = some nx) (K : hy_Nx lay_H_pattern p l e (hy_rm 8 172 w0) s m args below meth c 1 G A ad0 w0.1.length (hy_Q below G ad0 w0 o args s) o nx) : hy_At lay_H_pattern p l e (hy_rm 8 172 w0) s m args below meth c 1 G A ad0 w0.1.length (hy_Q below G ad0 w0 o args s) q := by
  unfold nx_H_pattern at hq
  split at hq
  · exact sk_H_pattern_0 hl9 hA B _ _ nx hq K
  · exact sk_H_pattern_52 hl9 hA B _ _ _ _ nx hq K
  · cases hq
theorem c_H_pattern {l : Launch} (hl9 : l.flags = flags0) (G : hy_G) (ad : Nat → Nat) {v0 : Nat} {w : hy_W} {o : hy_O} (h : f_H_pattern [.ref v0] w = some o) : hy_M l y_H_pattern (Cond.code y_H_pattern b_H_pattern 1 (some .int) :: hy_T) 8 172 G ad [.ref v0] w o := by
  obtain ⟨n, hn⟩ := hy_fx_iff.mp h
  refine hy_ofW hl9 (by decide +kernel) (Nat.le_of_ble_eq_true rfl) (fun p e s m args below meth c A hA hi B S hok ls hl => ?_)
  exact hy_loop (nk_H_pattern hl9 hA B) n _ hn ad s.heap [] 0 0 ls S hok hl
theorem d_X_pattern_0 : decode b_X_pattern 0 = .ok (.aload_n 1, 1) := by decide +kernel
theorem d_X_pattern_1 : decode b_X_pattern 1 = .ok (.iconst 0, 1) := by decide +kernel
theorem d_X_pattern_2 : decode b_X_pattern 2 = .ok (.aload_n 0, 1) := by decide +kernel
theorem d_X_pattern_3 : decode b_X_pattern 3 = .ok (.invokevirtual 31, 3) := by decide +kernel
theorem d_X_pattern_6 : decode b_X_pattern 6 = .ok (.i2l, 1) := by decide +kernel
theorem d_X_pattern_7 : decode b_X_pattern 7 = .ok (.lastore, 1) := by decide +kernel
theorem d_X_pattern_8 : decode b_X_pattern 8 = .ok (.goto 9, 3) := by decide +kernel
theorem d_X_pattern_11 : decode b_X_pattern 11 = .ok (.astore_n 2, 1) := by decide +kernel
theorem d_X_pattern_12 : decode b_X_pattern 12 = .ok (.iconst 1, 1) := by decide +kernel
theorem d_X_pattern_13 : decode b_X_pattern 13 = .ok (.ireturn, 1) := by decide +kernel
theorem d_X_pattern_14 : decode b_X_pattern 14 = .ok (.astore_n 2, 1) := by decide +kernel
theorem d_X_pattern_15 : decode b_X_pattern 15 = .ok (.iconst 2, 1) := by decide +kernel
theorem d_X_pattern_16 : decode b_X_pattern 16 = .ok (.ireturn, 1) := by decide +kernel
theorem d_X_pattern_17 : decode b_X_pattern 17 = .ok (.iconst 0, 1) := by decide +kernel
theorem d_X_pattern_18 : decode b_X_pattern 18 = .ok (.ireturn, 1) := by decide +kernel
def lay_X_pattern (pc : Nat) : List Nat := if pc = 0 then [0, 1] else []
noncomputable def sg_X_pattern_0 (v0 : Nat) (v1 : Nat) (w : hy_W) : Option hy_N := if hy_ob w v0 5 = true then hy_xi (f_H_pattern [.ref v0] w) (fun x3 w1 => (hy_pa w1 1 v1 0 (.long ((x3 : Int32).toInt64))).bind fun w5 => some (.inr (.inl (some (.int 0)), w5))) (fun E6 w7 => if E6 = "java/lang/IllegalArgumentException" then (some (.inr (.inl (some (.int 1)), w7))) else (if E6 = "java/lang/IllegalStateException" then (some (.inr (.inl (some (.int 2)), w7))) else none)) else none
noncomputable def nx_X_pattern (q : hy_P) : Option hy_N := match q with
  | (0, [.ref v0, .ref v1], w) => sg_X_pattern_0 v0 v1 w
  | _ => none
noncomputable def f_X_pattern (av : List Value) (w : hy_W) : Option hy_O := hy_fx nx_X_pattern (0, av, w)
set_option maxHeartbeats 4000000 in
set_option maxRecDepth 100000 in
theorem sk_X_pattern_0 {p : Program} {l : Launch} {e : Env} {s : State} {m : MethodId} {args : Array Value} {below : List Frame} {meth : Method} {c : Code} {G : hy_G} {A : Nat → Prop} {ad0 : Nat → Nat} {w0 : hy_W} {o : hy_O} (hl9 : l.flags = flags0) (hA : hy_A G ad0 w0 s.heap.size = A) (B : hy_B p l e (hy_rm 9 192 w0) s m args below meth c "HyphenPatternsLaw" b_X_pattern 3 (some .int) [(0, 8, 11, 19), (0, 8, 14, 21)] G A) (v0 : Nat) (v1 : Nat) (w : hy_W) (nx : hy_N) (h : sg_X_pattern_0 v0 v1 w = some nx) (K : hy_Nx lay_X_pattern p l e (hy_rm 9 192 w0) s m args below meth c 3 G A ad0 w0.1.length (hy_Q below G ad0 w0 o args s) o nx) : hy_At lay_X_pattern p l e (hy_rm 9 192 w0) s m args below meth c 3 G A ad0 w0.1.length (hy_Q below G ad0 w0 o args s) (0, [.ref v0, .ref v1], w) := by
  intro ad H locs cells slots ls S hok hl
  have hx := B.1
  have hb := B.2.1
  dsimp only at S hok
  have hl : lv_has ls 3 [(0, .ref (ad v0)), (1, .ref (ad v1))] := hl
  show W p l e (hy_rm 9 192 w0) s m args below meth c H locs cells slots (hy_Q below G ad0 w0 o args s) (F0 m 0 ls [])
  have hv_v0 : v0 < w.1.length := hok (.ref v0) (List.mem_of_getElem? (i := 0) rfl) v0 rfl
  obtain ⟨a_v0, ha_v0⟩ : ∃ a, ad v0 = a := ⟨_, rfl⟩
  rw [ha_v0] at hl
  have hv_v1 : v1 < w.1.length := hok (.ref v1) (List.mem_of_getElem? (i := 1) rfl) v1 rfl
  obtain ⟨a_v1, ha_v1⟩ : ∃ a, ad v1 = a := ⟨_, rfl⟩
  rw [ha_v1] at hl
  unfold sg_X_pattern_0 at h
  refine lv_aload_n hx hb d_X_pattern_0 rfl (lv_at hl 1 rfl) ?_
  refine lv_iconst (v := 0) hx hb d_X_pattern_1 (by decide) ?_
  refine lv_aload_n hx hb d_X_pattern_2 rfl (lv_at hl 0 rfl) ?_
  obtain ⟨ob4, h⟩ := hy_if h
  obtain ⟨fs_ob4, hf_ob4, hg_ob4⟩ := hy_ob_spec ob4
  rcases hy_xi_spec h with ⟨x3, w1, hq_w1, h⟩ | ⟨E6, w7, hq_w7, h⟩
  · refine hy_calli (hy_runV (rest := [.int 0, .ref a_v1]) (As := []) (r := v0) (b := a_v0) B S rfl ha_v0 (by rfl) (c_H_pattern hl9 G ad hq_w1) (hy_okr (by omega) hy_ok0) tw_472 tw_1 tw_469 tw_470 sl_H_pattern (by decide) rfl (Nat.le_of_ble_eq_true rfl) (Nat.le_of_ble_eq_true rfl) hf_ob4 hg_ob4 rfl hl.1 (Nat.le_of_ble_eq_true rfl) d_X_pattern_3) (fun ad2 H locs cells slots hag hl_w1 S => ?_)
    have ha_v0 : ad2 v0 = a_v0 := (hag v0 (by omega)).trans ha_v0
    have ha_v1 : ad2 v1 = a_v1 := (hag v1 (by omega)).trans ha_v1
    refine lv_i2l (v := (x3 : Int32).toInt64) hx hb d_X_pattern_6 rfl ?_
    obtain ⟨w5, hw5, h⟩ := hy_bd h
    refine hy_last B S ha_v1 hw5 d_X_pattern_7 (fun H locs S hl_w5 => ?_)
    refine lv_goto (tgt := 17) hx hb d_X_pattern_8 (by decide) ?_
    refine lv_iconst (v := 0) hx hb d_X_pattern_17 (by decide) ?_
    cases h
    cases K
    exact hy_iret hA B S d_X_pattern_18
  · by_cases c11 : E6 = "java/lang/IllegalArgumentException"
    · rw [if_pos c11] at h
      subst c11
      refine hy_callT (rest := [.int 0, .ref a_v1]) (As := []) (r := v0) (b := a_v0) B S rfl ha_v0 (by rfl) (c_H_pattern hl9 G ad hq_w7) (hy_okr (by omega) hy_ok0) tw_472 tw_1 tw_469 tw_470 sl_H_pattern (by decide) rfl (Nat.le_of_ble_eq_true rfl) (Nat.le_of_ble_eq_true rfl) hf_ob4 hg_ob4 rfl hl.1 (Nat.le_of_ble_eq_true rfl) d_X_pattern_3 (fun ad8 H locs cells slots q9 ce10 hag hl_w7 S z1 z2 z3 => ?_)
      have ha_v0 : ad8 v0 = a_v0 := (hag v0 (by omega)).trans ha_v0
      have ha_v1 : ad8 v1 = a_v1 := (hag v1 (by omega)).trans ha_v1
      refine hy_catch1 B (Nat.le_of_ble_eq_true rfl) (Nat.le_of_ble_eq_true rfl) (by decide) tw_386 (by decide +kernel) z1 z2 z3 ?_
      refine lv_astore_n (lv' := [(2, .ref q9), (0, .ref a_v0), (1, .ref a_v1)]) hx hb d_X_pattern_11 rfl hl (Nat.le_of_ble_eq_true rfl) rfl (fun ls hl => ?_)
      refine lv_iconst (v := 1) hx hb d_X_pattern_12 (by decide) ?_
      cases h
      cases K
      exact hy_iret hA B S d_X_pattern_13
    rw [if_neg c11] at h
    by_cases c12 : E6 = "java/lang/IllegalStateException"
    · rw [if_pos c12] at h
      subst c12
      refine hy_callT (rest := [.int 0, .ref a_v1]) (As := []) (r := v0) (b := a_v0) B S rfl ha_v0 (by rfl) (c_H_pattern hl9 G ad hq_w7) (hy_okr (by omega) hy_ok0) tw_472 tw_1 tw_469 tw_470 sl_H_pattern (by decide) rfl (Nat.le_of_ble_eq_true rfl) (Nat.le_of_ble_eq_true rfl) hf_ob4 hg_ob4 rfl hl.1 (Nat.le_of_ble_eq_true rfl) d_X_pattern_3 (fun ad8 H locs cells slots q9 ce10 hag hl_w7 S z1 z2 z3 => ?_)
      have ha_v0 : ad8 v0 = a_v0 := (hag v0 (by omega)).trans ha_v0
      have ha_v1 : ad8 v1 = a_v1 := (hag v1 (by omega)).trans ha_v1
      refine hy_catch2 B (Nat.le_of_ble_eq_true rfl) (Nat.le_of_ble_eq_true rfl) (by decide) tw_386 B.2.2.2.2.2.2.2.2.2.1.2.2.2.2.1 (Nat.le_of_ble_eq_true rfl) (Nat.le_of_ble_eq_true rfl) (by decide) tw_387 (by decide +kernel) z1 z2 z3 ?_
      refine lv_astore_n (lv' := [(2, .ref q9), (0, .ref a_v0), (1, .ref a_v1)]) hx hb d_X_pattern_14 rfl hl (Nat.le_of_ble_eq_true rfl) rfl (fun ls hl => ?_)
      refine lv_iconst (v := 2) hx hb d_X_pattern_15 (by decide) ?_
      cases h
      cases K
      exact hy_iret hA B S d_X_pattern_16
    rw [if_neg c12] at h
    cases h
theorem nk_X_pattern {p : Program} {l : Launch} {e : Env} {s : State} {m : MethodId} {args : Array Value} {below : List Frame} {meth : Method} {c : Code} {G : hy_G} {A : Nat → Prop} {ad0 : Nat → Nat} {w0 : hy_W} {o : hy_O} (hl9 : l.flags = flags0) (hA : hy_A G ad0 w0 s.heap.size = A) (B : hy_B p l e (hy_rm 9 192 w0) s m args below meth c "HyphenPatternsLaw" b_X_pattern 3 (some .int) [(0, 8, 11, 19), (0, 8, 14, 21)] G A) (q : hy_P) (nx : hy_N) (hq : nx_X_pattern q = some nx) (K : hy_Nx lay_X_pattern p l e (hy_rm 9 192 w0) s m args below meth c 3 G A ad0 w0.1.length (hy_Q below G ad0 w0 o args s) o nx) : hy_At lay_X_pattern p l e (hy_rm 9 192 w0) s m args below meth c 3 G A ad0 w0.1.length (hy_Q below G ad0 w0 o args s) q := by
  unfold nx_X_pattern at hq
  split at hq
  · exact sk_X_pattern_0 hl9 hA B _ _ _ nx hq K
  · cases hq
theorem c_X_pattern {l : Launch} (hl9 : l.flags = flags0) (G : hy_G) (ad : Nat → Nat) {v0 : Nat} {v1 : Nat} {w : hy_W} {o : hy_O} (h : f_X_pattern [.ref v0, .ref v1] w = some o) : hy_M l y_X_pattern (Cond.codeWith y_X_pattern b_X_pattern 3 (some .int) [(0, 8, 11, 19), (0, 8, 14, 21)] :: hy_T) 9 192 G ad [.ref v0, .ref v1] w o := by
  obtain ⟨n, hn⟩ := hy_fx_iff.mp h
  refine hy_ofWW hl9 (by decide +kernel) (Nat.le_of_ble_eq_true rfl) (fun p e s m args below meth c A hA B S hok ls hl => ?_)
  exact hy_loop (nk_X_pattern hl9 hA B) n _ hn ad s.heap [] 0 0 ls S hok hl
