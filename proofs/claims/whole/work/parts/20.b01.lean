/-! BODIES (printed by our translator): N_init, D_init, G_init, J_AC_init, J_AL_init, A_init, L_init, H_init, N_empty, H_drop, A_size, A_clear, H_forget, H_clear, L_letterOf -/
theorem d_N_init_0 : decode b_N_init 0 = .ok (.aload_n 0, 1) := by decide +kernel
theorem d_N_init_1 : decode b_N_init 1 = .ok (.invokespecial 3, 3) := by decide +kernel
theorem d_N_init_4 : decode b_N_init 4 = .ok (.aload_n 0, 1) := by decide +kernel
theorem d_N_init_5 : decode b_N_init 5 = .ok (.iconst 5, 1) := by decide +kernel
theorem d_N_init_6 : decode b_N_init 6 = .ok (.newarray .int, 2) := by decide +kernel
theorem d_N_init_8 : decode b_N_init 8 = .ok (.putfield 9, 3) := by decide +kernel
theorem d_N_init_11 : decode b_N_init 11 = .ok (.aload_n 0, 1) := by decide +kernel
theorem d_N_init_12 : decode b_N_init 12 = .ok (.iconst 0, 1) := by decide +kernel
theorem d_N_init_13 : decode b_N_init 13 = .ok (.putfield 15, 3) := by decide +kernel
theorem d_N_init_16 : decode b_N_init 16 = .ok (.aload_n 0, 1) := by decide +kernel
theorem d_N_init_17 : decode b_N_init 17 = .ok (.iload_n 1, 1) := by decide +kernel
theorem d_N_init_18 : decode b_N_init 18 = .ok (.newarray .int, 2) := by decide +kernel
theorem d_N_init_20 : decode b_N_init 20 = .ok (.putfield 19, 3) := by decide +kernel
theorem d_N_init_23 : decode b_N_init 23 = .ok (.aload_n 0, 1) := by decide +kernel
theorem d_N_init_24 : decode b_N_init 24 = .ok (.iload_n 2, 1) := by decide +kernel
theorem d_N_init_25 : decode b_N_init 25 = .ok (.putfield 22, 3) := by decide +kernel
theorem d_N_init_28 : decode b_N_init 28 = .ok (.return_, 1) := by decide +kernel
def lay_N_init (pc : Nat) : List Nat := if pc = 0 then [0, 1, 2] else []
noncomputable def sg_N_init_0 (v0 : Nat) (v1 : Int32) (v2 : Int32) (w : hy_W) : Option hy_N := (hy_na w 0 5).bind fun w1 => (hy_pf w1 v0 2 2 (.ref w.1.length)).bind fun w4 => (hy_pf w4 v0 2 3 (.int 0)).bind fun w5 => (hy_na w5 0 v1).bind fun w6 => (hy_pf w6 v0 2 0 (.ref w5.1.length)).bind fun w9 => (hy_pf w9 v0 2 1 (.int v2)).bind fun w10 => some (.inr (.inl none, w10))
noncomputable def nx_N_init (q : hy_P) : Option hy_N := match q with
  | (0, [.ref v0, .int v1, .int v2], w) => sg_N_init_0 v0 v1 v2 w
  | _ => none
noncomputable def f_N_init (av : List Value) (w : hy_W) : Option hy_O := hy_fx nx_N_init (0, av, w)
set_option maxHeartbeats 4000000 in
set_option maxRecDepth 100000 in
theorem sk_N_init_0 {p : Program} {l : Launch} {e : Env} {s : State} {m : MethodId} {args : Array Value} {below : List Frame} {meth : Method} {c : Code} {G : hy_G} {A : Nat → Prop} {ad0 : Nat → Nat} {w0 : hy_W} {o : hy_O} (hl9 : l.flags = flags0) (hA : hy_A G ad0 w0 s.heap.size = A) (hi : meth.name = "<init>") (B : hy_B p l e (hy_rm 1 12 w0) s m args below meth c "HyphenPatterns$Numbers" b_N_init 3 none [] G A) (v0 : Nat) (v1 : Int32) (v2 : Int32) (w : hy_W) (nx : hy_N) (h : sg_N_init_0 v0 v1 v2 w = some nx) (K : hy_Nx lay_N_init p l e (hy_rm 1 12 w0) s m args below meth c 3 G A ad0 w0.1.length (hy_Q below G ad0 w0 o args s) o nx) : hy_At lay_N_init p l e (hy_rm 1 12 w0) s m args below meth c 3 G A ad0 w0.1.length (hy_Q below G ad0 w0 o args s) (0, [.ref v0, .int v1, .int v2], w) := by
  intro ad H locs cells slots ls S hok hl
  have hx := B.1
  have hb := B.2.1
  dsimp only at S hok
  have hl : lv_has ls 3 [(0, .ref (ad v0)), (1, .int v1), (2, .int v2)] := hl
  show W p l e (hy_rm 1 12 w0) s m args below meth c H locs cells slots (hy_Q below G ad0 w0 o args s) (F0 m 0 ls [])
  have hv_v0 : v0 < w.1.length := hok (.ref v0) (List.mem_of_getElem? (i := 0) rfl) v0 rfl
  obtain ⟨a_v0, ha_v0⟩ : ∃ a, ad v0 = a := ⟨_, rfl⟩
  rw [ha_v0] at hl
  unfold sg_N_init_0 at h
  refine lv_aload_n hx hb d_N_init_0 rfl (lv_at hl 0 rfl) ?_
  refine W.objInit hx hb B.2.2.2.1 (B.2.2.2.2.1 _ tw_38) (B.2.2.2.2.1 _ tw_29) (B.2.2.2.2.1 _ tw_30) rfl (by rw [B.2.2.1]; exact hl.1) rfl d_N_init_1 (Nat.le_of_ble_eq_true rfl) (Nat.le_of_ble_eq_true rfl) ?_
  refine W.eq (g2 := F0 m 4 ls []) rfl ?_
  refine lv_aload_n hx hb d_N_init_4 rfl (lv_at hl 0 rfl) ?_
  refine lv_iconst (v := 5) hx hb d_N_init_5 (by decide) ?_
  obtain ⟨w1, hw1, h⟩ := hy_bd h
  refine hy_newi B S hw1 d_N_init_6 (fun ad2 a_q3 H _ hag ha_q3 S hl_w1 => ?_)
  have ha_v0 : ad2 v0 = a_v0 := (hag v0 (by omega)).trans ha_v0
  obtain ⟨w4, hw4, h⟩ := hy_bd h
  refine hy_putF hi B S ha_v0 (by rw [hy_v_ref, ha_q3]) (hy_cvr (by omega)) hw4 rfl (Nat.le_of_ble_eq_true rfl) i_2 t_2 t_2_ok n_2 (j := 2) tw_43 (fun _ h => h) rfl rfl rfl rfl d_N_init_8 (fun H locs S hl_w4 => ?_)
  refine lv_aload_n hx hb d_N_init_11 rfl (lv_at hl 0 rfl) ?_
  refine lv_iconst (v := 0) hx hb d_N_init_12 (by decide) ?_
  obtain ⟨w5, hw5, h⟩ := hy_bd h
  refine hy_put B S ha_v0 rfl hy_cvi hw5 rfl (Nat.le_of_ble_eq_true rfl) i_2 t_2 t_2_ok n_2 (j := 3) tw_44 (fun _ h => h) rfl rfl rfl d_N_init_13 (fun H locs S hl_w5 => ?_)
  refine lv_aload_n hx hb d_N_init_16 rfl (lv_at hl 0 rfl) ?_
  refine lv_iload_n hx hb d_N_init_17 rfl (lv_at hl 1 rfl) ?_
  obtain ⟨w6, hw6, h⟩ := hy_bd h
  refine hy_newi B S hw6 d_N_init_18 (fun ad7 a_q8 H _ hag ha_q8 S hl_w6 => ?_)
  have ha_v0 : ad7 v0 = a_v0 := (hag v0 (by omega)).trans ha_v0
  obtain ⟨w9, hw9, h⟩ := hy_bd h
  refine hy_putF hi B S ha_v0 (by rw [hy_v_ref, ha_q8]) (hy_cvr (by omega)) hw9 rfl (Nat.le_of_ble_eq_true rfl) i_2 t_2 t_2_ok n_2 (j := 0) tw_39 (fun _ h => h) rfl rfl rfl rfl d_N_init_20 (fun H locs S hl_w9 => ?_)
  refine lv_aload_n hx hb d_N_init_23 rfl (lv_at hl 0 rfl) ?_
  refine lv_iload_n hx hb d_N_init_24 rfl (lv_at hl 2 rfl) ?_
  obtain ⟨w10, hw10, h⟩ := hy_bd h
  refine hy_putF hi B S ha_v0 rfl hy_cvi hw10 rfl (Nat.le_of_ble_eq_true rfl) i_2 t_2 t_2_ok n_2 (j := 1) tw_42 (fun _ h => h) rfl rfl rfl rfl d_N_init_25 (fun H locs S hl_w10 => ?_)
  cases h
  cases K
  exact hy_vret hA B S d_N_init_28
theorem nk_N_init {p : Program} {l : Launch} {e : Env} {s : State} {m : MethodId} {args : Array Value} {below : List Frame} {meth : Method} {c : Code} {G : hy_G} {A : Nat → Prop} {ad0 : Nat → Nat} {w0 : hy_W} {o : hy_O} (hl9 : l.flags = flags0) (hA : hy_A G ad0 w0 s.heap.size = A) (hi : meth.name = "<init>") (B : hy_B p l e (hy_rm 1 12 w0) s m args below meth c "HyphenPatterns$Numbers" b_N_init 3 none [] G A) (q : hy_P) (nx : hy_N) (hq : nx_N_init q = some nx) (K : hy_Nx lay_N_init p l e (hy_rm 1 12 w0) s m args below meth c 3 G A ad0 w0.1.length (hy_Q below G ad0 w0 o args s) o nx) : hy_At lay_N_init p l e (hy_rm 1 12 w0) s m args below meth c 3 G A ad0 w0.1.length (hy_Q below G ad0 w0 o args s) q := by
  unfold nx_N_init at hq
  split at hq
  · exact sk_N_init_0 hl9 hA hi B _ _ _ _ nx hq K
  · cases hq
theorem c_N_init {l : Launch} (hl9 : l.flags = flags0) (G : hy_G) (ad : Nat → Nat) {v0 : Nat} {v1 : Int32} {v2 : Int32} {w : hy_W} {o : hy_O} (h : f_N_init [.ref v0, .int v1, .int v2] w = some o) : hy_M l y_N_init (Cond.code y_N_init b_N_init 3 none :: hy_T) 1 12 G ad [.ref v0, .int v1, .int v2] w o := by
  obtain ⟨n, hn⟩ := hy_fx_iff.mp h
  refine hy_ofW hl9 (by decide +kernel) (Nat.le_of_ble_eq_true rfl) (fun p e s m args below meth c A hA hi B S hok ls hl => ?_)
  exact hy_loop (nk_N_init hl9 hA (hi rfl) B) n _ hn ad s.heap [] 0 0 ls S hok hl
theorem d_D_init_0 : decode b_D_init 0 = .ok (.aload_n 0, 1) := by decide +kernel
theorem d_D_init_1 : decode b_D_init 1 = .ok (.invokespecial 3, 3) := by decide +kernel
theorem d_D_init_4 : decode b_D_init 4 = .ok (.aload_n 0, 1) := by decide +kernel
theorem d_D_init_5 : decode b_D_init 5 = .ok (.bipush 40, 2) := by decide +kernel
theorem d_D_init_7 : decode b_D_init 7 = .ok (.newarray .int, 2) := by decide +kernel
theorem d_D_init_9 : decode b_D_init 9 = .ok (.putfield 9, 3) := by decide +kernel
theorem d_D_init_12 : decode b_D_init 12 = .ok (.aload_n 0, 1) := by decide +kernel
theorem d_D_init_13 : decode b_D_init 13 = .ok (.bipush 41, 2) := by decide +kernel
theorem d_D_init_15 : decode b_D_init 15 = .ok (.newarray .int, 2) := by decide +kernel
theorem d_D_init_17 : decode b_D_init 17 = .ok (.putfield 15, 3) := by decide +kernel
theorem d_D_init_20 : decode b_D_init 20 = .ok (.aload_n 0, 1) := by decide +kernel
theorem d_D_init_21 : decode b_D_init 21 = .ok (.iconst 0, 1) := by decide +kernel
theorem d_D_init_22 : decode b_D_init 22 = .ok (.putfield 18, 3) := by decide +kernel
theorem d_D_init_25 : decode b_D_init 25 = .ok (.return_, 1) := by decide +kernel
def lay_D_init (pc : Nat) : List Nat := if pc = 0 then [0] else []
noncomputable def sg_D_init_0 (v0 : Nat) (w : hy_W) : Option hy_N := (hy_na w 0 40).bind fun w1 => (hy_pf w1 v0 0 0 (.ref w.1.length)).bind fun w4 => (hy_na w4 0 41).bind fun w5 => (hy_pf w5 v0 0 1 (.ref w4.1.length)).bind fun w8 => (hy_pf w8 v0 0 2 (.int 0)).bind fun w9 => some (.inr (.inl none, w9))
noncomputable def nx_D_init (q : hy_P) : Option hy_N := match q with
  | (0, [.ref v0], w) => sg_D_init_0 v0 w
  | _ => none
noncomputable def f_D_init (av : List Value) (w : hy_W) : Option hy_O := hy_fx nx_D_init (0, av, w)
set_option maxHeartbeats 4000000 in
set_option maxRecDepth 100000 in
theorem sk_D_init_0 {p : Program} {l : Launch} {e : Env} {s : State} {m : MethodId} {args : Array Value} {below : List Frame} {meth : Method} {c : Code} {G : hy_G} {A : Nat → Prop} {ad0 : Nat → Nat} {w0 : hy_W} {o : hy_O} (hl9 : l.flags = flags0) (hA : hy_A G ad0 w0 s.heap.size = A) (hi : meth.name = "<init>") (B : hy_B p l e (hy_rm 1 12 w0) s m args below meth c "HyphenPatterns$Draft" b_D_init 1 none [] G A) (v0 : Nat) (w : hy_W) (nx : hy_N) (h : sg_D_init_0 v0 w = some nx) (K : hy_Nx lay_D_init p l e (hy_rm 1 12 w0) s m args below meth c 1 G A ad0 w0.1.length (hy_Q below G ad0 w0 o args s) o nx) : hy_At lay_D_init p l e (hy_rm 1 12 w0) s m args below meth c 1 G A ad0 w0.1.length (hy_Q below G ad0 w0 o args s) (0, [.ref v0], w) := by
  intro ad H locs cells slots ls S hok hl
  have hx := B.1
  have hb := B.2.1
  dsimp only at S hok
  have hl : lv_has ls 1 [(0, .ref (ad v0))] := hl
  show W p l e (hy_rm 1 12 w0) s m args below meth c H locs cells slots (hy_Q below G ad0 w0 o args s) (F0 m 0 ls [])
  have hv_v0 : v0 < w.1.length := hok (.ref v0) (List.mem_of_getElem? (i := 0) rfl) v0 rfl
  obtain ⟨a_v0, ha_v0⟩ : ∃ a, ad v0 = a := ⟨_, rfl⟩
  rw [ha_v0] at hl
  unfold sg_D_init_0 at h
  refine lv_aload_n hx hb d_D_init_0 rfl (lv_at hl 0 rfl) ?_
  refine W.objInit hx hb B.2.2.2.1 (B.2.2.2.2.1 _ tw_62) (B.2.2.2.2.1 _ tw_29) (B.2.2.2.2.1 _ tw_30) rfl (by rw [B.2.2.1]; exact hl.1) rfl d_D_init_1 (Nat.le_of_ble_eq_true rfl) (Nat.le_of_ble_eq_true rfl) ?_
  refine W.eq (g2 := F0 m 4 ls []) rfl ?_
  refine lv_aload_n hx hb d_D_init_4 rfl (lv_at hl 0 rfl) ?_
  refine lv_bipush (v := 40) hx hb d_D_init_5 (by decide) ?_
  obtain ⟨w1, hw1, h⟩ := hy_bd h
  refine hy_newi B S hw1 d_D_init_7 (fun ad2 a_q3 H _ hag ha_q3 S hl_w1 => ?_)
  have ha_v0 : ad2 v0 = a_v0 := (hag v0 (by omega)).trans ha_v0
  obtain ⟨w4, hw4, h⟩ := hy_bd h
  refine hy_putF hi B S ha_v0 (by rw [hy_v_ref, ha_q3]) (hy_cvr (by omega)) hw4 rfl (Nat.le_of_ble_eq_true rfl) i_0 t_0 t_0_ok n_0 (j := 0) tw_63 (fun _ h => h) rfl rfl rfl rfl d_D_init_9 (fun H locs S hl_w4 => ?_)
  refine lv_aload_n hx hb d_D_init_12 rfl (lv_at hl 0 rfl) ?_
  refine lv_bipush (v := 41) hx hb d_D_init_13 (by decide) ?_
  obtain ⟨w5, hw5, h⟩ := hy_bd h
  refine hy_newi B S hw5 d_D_init_15 (fun ad6 a_q7 H _ hag ha_q7 S hl_w5 => ?_)
  have ha_v0 : ad6 v0 = a_v0 := (hag v0 (by omega)).trans ha_v0
  obtain ⟨w8, hw8, h⟩ := hy_bd h
  refine hy_putF hi B S ha_v0 (by rw [hy_v_ref, ha_q7]) (hy_cvr (by omega)) hw8 rfl (Nat.le_of_ble_eq_true rfl) i_0 t_0 t_0_ok n_0 (j := 1) tw_65 (fun _ h => h) rfl rfl rfl rfl d_D_init_17 (fun H locs S hl_w8 => ?_)
  refine lv_aload_n hx hb d_D_init_20 rfl (lv_at hl 0 rfl) ?_
  refine lv_iconst (v := 0) hx hb d_D_init_21 (by decide) ?_
  obtain ⟨w9, hw9, h⟩ := hy_bd h
  refine hy_put B S ha_v0 rfl hy_cvi hw9 rfl (Nat.le_of_ble_eq_true rfl) i_0 t_0 t_0_ok n_0 (j := 2) tw_66 (fun _ h => h) rfl rfl rfl d_D_init_22 (fun H locs S hl_w9 => ?_)
  cases h
  cases K
  exact hy_vret hA B S d_D_init_25
theorem nk_D_init {p : Program} {l : Launch} {e : Env} {s : State} {m : MethodId} {args : Array Value} {below : List Frame} {meth : Method} {c : Code} {G : hy_G} {A : Nat → Prop} {ad0 : Nat → Nat} {w0 : hy_W} {o : hy_O} (hl9 : l.flags = flags0) (hA : hy_A G ad0 w0 s.heap.size = A) (hi : meth.name = "<init>") (B : hy_B p l e (hy_rm 1 12 w0) s m args below meth c "HyphenPatterns$Draft" b_D_init 1 none [] G A) (q : hy_P) (nx : hy_N) (hq : nx_D_init q = some nx) (K : hy_Nx lay_D_init p l e (hy_rm 1 12 w0) s m args below meth c 1 G A ad0 w0.1.length (hy_Q below G ad0 w0 o args s) o nx) : hy_At lay_D_init p l e (hy_rm 1 12 w0) s m args below meth c 1 G A ad0 w0.1.length (hy_Q below G ad0 w0 o args s) q := by
  unfold nx_D_init at hq
  split at hq
  · exact sk_D_init_0 hl9 hA hi B _ _ nx hq K
  · cases hq
theorem c_D_init {l : Launch} (hl9 : l.flags = flags0) (G : hy_G) (ad : Nat → Nat) {v0 : Nat} {w : hy_W} {o : hy_O} (h : f_D_init [.ref v0] w = some o) : hy_M l y_D_init (Cond.code y_D_init b_D_init 1 none :: hy_T) 1 12 G ad [.ref v0] w o := by
  obtain ⟨n, hn⟩ := hy_fx_iff.mp h
  refine hy_ofW hl9 (by decide +kernel) (Nat.le_of_ble_eq_true rfl) (fun p e s m args below meth c A hA hi B S hok ls hl => ?_)
  exact hy_loop (nk_D_init hl9 hA (hi rfl) B) n _ hn ad s.heap [] 0 0 ls S hok hl
theorem d_G_init_0 : decode b_G_init 0 = .ok (.aload_n 0, 1) := by decide +kernel
theorem d_G_init_1 : decode b_G_init 1 = .ok (.invokespecial 3, 3) := by decide +kernel
theorem d_G_init_4 : decode b_G_init 4 = .ok (.aload_n 0, 1) := by decide +kernel
theorem d_G_init_5 : decode b_G_init 5 = .ok (.sipush 402, 3) := by decide +kernel
theorem d_G_init_8 : decode b_G_init 8 = .ok (.newarray .int, 2) := by decide +kernel
theorem d_G_init_10 : decode b_G_init 10 = .ok (.putfield 9, 3) := by decide +kernel
theorem d_G_init_13 : decode b_G_init 13 = .ok (.aload_n 0, 1) := by decide +kernel
theorem d_G_init_14 : decode b_G_init 14 = .ok (.sipush 403, 3) := by decide +kernel
theorem d_G_init_17 : decode b_G_init 17 = .ok (.newarray .int, 2) := by decide +kernel
theorem d_G_init_19 : decode b_G_init 19 = .ok (.putfield 15, 3) := by decide +kernel
theorem d_G_init_22 : decode b_G_init 22 = .ok (.aload_n 0, 1) := by decide +kernel
theorem d_G_init_23 : decode b_G_init 23 = .ok (.iconst 0, 1) := by decide +kernel
theorem d_G_init_24 : decode b_G_init 24 = .ok (.putfield 18, 3) := by decide +kernel
theorem d_G_init_27 : decode b_G_init 27 = .ok (.aload_n 0, 1) := by decide +kernel
theorem d_G_init_28 : decode b_G_init 28 = .ok (.iconst 0, 1) := by decide +kernel
theorem d_G_init_29 : decode b_G_init 29 = .ok (.putfield 22, 3) := by decide +kernel
theorem d_G_init_32 : decode b_G_init 32 = .ok (.aload_n 0, 1) := by decide +kernel
theorem d_G_init_33 : decode b_G_init 33 = .ok (.iconst 0, 1) := by decide +kernel
theorem d_G_init_34 : decode b_G_init 34 = .ok (.putfield 25, 3) := by decide +kernel
theorem d_G_init_37 : decode b_G_init 37 = .ok (.return_, 1) := by decide +kernel
def lay_G_init (pc : Nat) : List Nat := if pc = 0 then [0] else []
noncomputable def sg_G_init_0 (v0 : Nat) (w : hy_W) : Option hy_N := (hy_na w 0 402).bind fun w1 => (hy_pf w1 v0 3 0 (.ref w.1.length)).bind fun w4 => (hy_na w4 0 403).bind fun w5 => (hy_pf w5 v0 3 1 (.ref w4.1.length)).bind fun w8 => (hy_pf w8 v0 3 2 (.int 0)).bind fun w9 => (hy_pf w9 v0 3 3 (.int 0)).bind fun w10 => (hy_pf w10 v0 3 4 (.int 0)).bind fun w11 => some (.inr (.inl none, w11))
noncomputable def nx_G_init (q : hy_P) : Option hy_N := match q with
  | (0, [.ref v0], w) => sg_G_init_0 v0 w
  | _ => none
noncomputable def f_G_init (av : List Value) (w : hy_W) : Option hy_O := hy_fx nx_G_init (0, av, w)
set_option maxHeartbeats 4000000 in
set_option maxRecDepth 100000 in
theorem sk_G_init_0 {p : Program} {l : Launch} {e : Env} {s : State} {m : MethodId} {args : Array Value} {below : List Frame} {meth : Method} {c : Code} {G : hy_G} {A : Nat → Prop} {ad0 : Nat → Nat} {w0 : hy_W} {o : hy_O} (hl9 : l.flags = flags0) (hA : hy_A G ad0 w0 s.heap.size = A) (hi : meth.name = "<init>") (B : hy_B p l e (hy_rm 1 12 w0) s m args below meth c "HyphenPatterns$Reading" b_G_init 1 none [] G A) (v0 : Nat) (w : hy_W) (nx : hy_N) (h : sg_G_init_0 v0 w = some nx) (K : hy_Nx lay_G_init p l e (hy_rm 1 12 w0) s m args below meth c 1 G A ad0 w0.1.length (hy_Q below G ad0 w0 o args s) o nx) : hy_At lay_G_init p l e (hy_rm 1 12 w0) s m args below meth c 1 G A ad0 w0.1.length (hy_Q below G ad0 w0 o args s) (0, [.ref v0], w) := by
  intro ad H locs cells slots ls S hok hl
  have hx := B.1
  have hb := B.2.1
  dsimp only at S hok
  have hl : lv_has ls 1 [(0, .ref (ad v0))] := hl
  show W p l e (hy_rm 1 12 w0) s m args below meth c H locs cells slots (hy_Q below G ad0 w0 o args s) (F0 m 0 ls [])
  have hv_v0 : v0 < w.1.length := hok (.ref v0) (List.mem_of_getElem? (i := 0) rfl) v0 rfl
  obtain ⟨a_v0, ha_v0⟩ : ∃ a, ad v0 = a := ⟨_, rfl⟩
  rw [ha_v0] at hl
  unfold sg_G_init_0 at h
  refine lv_aload_n hx hb d_G_init_0 rfl (lv_at hl 0 rfl) ?_
  refine W.objInit hx hb B.2.2.2.1 (B.2.2.2.2.1 _ tw_80) (B.2.2.2.2.1 _ tw_29) (B.2.2.2.2.1 _ tw_30) rfl (by rw [B.2.2.1]; exact hl.1) rfl d_G_init_1 (Nat.le_of_ble_eq_true rfl) (Nat.le_of_ble_eq_true rfl) ?_
  refine W.eq (g2 := F0 m 4 ls []) rfl ?_
  refine lv_aload_n hx hb d_G_init_4 rfl (lv_at hl 0 rfl) ?_
  refine lv_sipush (v := 402) hx hb d_G_init_5 (by decide) ?_
  obtain ⟨w1, hw1, h⟩ := hy_bd h
  refine hy_newi B S hw1 d_G_init_8 (fun ad2 a_q3 H _ hag ha_q3 S hl_w1 => ?_)
  have ha_v0 : ad2 v0 = a_v0 := (hag v0 (by omega)).trans ha_v0
  obtain ⟨w4, hw4, h⟩ := hy_bd h
  refine hy_putF hi B S ha_v0 (by rw [hy_v_ref, ha_q3]) (hy_cvr (by omega)) hw4 rfl (Nat.le_of_ble_eq_true rfl) i_3 t_3 t_3_ok n_3 (j := 0) tw_81 (fun _ h => h) rfl rfl rfl rfl d_G_init_10 (fun H locs S hl_w4 => ?_)
  refine lv_aload_n hx hb d_G_init_13 rfl (lv_at hl 0 rfl) ?_
  refine lv_sipush (v := 403) hx hb d_G_init_14 (by decide) ?_
  obtain ⟨w5, hw5, h⟩ := hy_bd h
  refine hy_newi B S hw5 d_G_init_17 (fun ad6 a_q7 H _ hag ha_q7 S hl_w5 => ?_)
  have ha_v0 : ad6 v0 = a_v0 := (hag v0 (by omega)).trans ha_v0
  obtain ⟨w8, hw8, h⟩ := hy_bd h
  refine hy_putF hi B S ha_v0 (by rw [hy_v_ref, ha_q7]) (hy_cvr (by omega)) hw8 rfl (Nat.le_of_ble_eq_true rfl) i_3 t_3 t_3_ok n_3 (j := 1) tw_82 (fun _ h => h) rfl rfl rfl rfl d_G_init_19 (fun H locs S hl_w8 => ?_)
  refine lv_aload_n hx hb d_G_init_22 rfl (lv_at hl 0 rfl) ?_
  refine lv_iconst (v := 0) hx hb d_G_init_23 (by decide) ?_
  obtain ⟨w9, hw9, h⟩ := hy_bd h
  refine hy_put B S ha_v0 rfl hy_cvi hw9 rfl (Nat.le_of_ble_eq_true rfl) i_3 t_3 t_3_ok n_3 (j := 2) tw_83 (fun _ h => h) rfl rfl rfl d_G_init_24 (fun H locs S hl_w9 => ?_)
  refine lv_aload_n hx hb d_G_init_27 rfl (lv_at hl 0 rfl) ?_
  refine lv_iconst (v := 0) hx hb d_G_init_28 (by decide) ?_
  obtain ⟨w10, hw10, h⟩ := hy_bd h
  refine hy_put B S ha_v0 rfl hy_cvi hw10 rfl (Nat.le_of_ble_eq_true rfl) i_3 t_3 t_3_ok n_3 (j := 3) tw_84 (fun _ h => h) rfl rfl rfl d_G_init_29 (fun H locs S hl_w10 => ?_)
  refine lv_aload_n hx hb d_G_init_32 rfl (lv_at hl 0 rfl) ?_
  refine lv_iconst (v := 0) hx hb d_G_init_33 (by decide) ?_
  obtain ⟨w11, hw11, h⟩ := hy_bd h
  refine hy_put B S ha_v0 rfl hy_cvi hw11 rfl (Nat.le_of_ble_eq_true rfl) i_3 t_3 t_3_ok n_3 (j := 4) tw_85 (fun _ h => h) rfl rfl rfl d_G_init_34 (fun H locs S hl_w11 => ?_)
  cases h
  cases K
  exact hy_vret hA B S d_G_init_37
theorem nk_G_init {p : Program} {l : Launch} {e : Env} {s : State} {m : MethodId} {args : Array Value} {below : List Frame} {meth : Method} {c : Code} {G : hy_G} {A : Nat → Prop} {ad0 : Nat → Nat} {w0 : hy_W} {o : hy_O} (hl9 : l.flags = flags0) (hA : hy_A G ad0 w0 s.heap.size = A) (hi : meth.name = "<init>") (B : hy_B p l e (hy_rm 1 12 w0) s m args below meth c "HyphenPatterns$Reading" b_G_init 1 none [] G A) (q : hy_P) (nx : hy_N) (hq : nx_G_init q = some nx) (K : hy_Nx lay_G_init p l e (hy_rm 1 12 w0) s m args below meth c 1 G A ad0 w0.1.length (hy_Q below G ad0 w0 o args s) o nx) : hy_At lay_G_init p l e (hy_rm 1 12 w0) s m args below meth c 1 G A ad0 w0.1.length (hy_Q below G ad0 w0 o args s) q := by
  unfold nx_G_init at hq
  split at hq
  · exact sk_G_init_0 hl9 hA hi B _ _ nx hq K
  · cases hq
theorem c_G_init {l : Launch} (hl9 : l.flags = flags0) (G : hy_G) (ad : Nat → Nat) {v0 : Nat} {w : hy_W} {o : hy_O} (h : f_G_init [.ref v0] w = some o) : hy_M l y_G_init (Cond.code y_G_init b_G_init 1 none :: hy_T) 1 12 G ad [.ref v0] w o := by
  obtain ⟨n, hn⟩ := hy_fx_iff.mp h
  refine hy_ofW hl9 (by decide +kernel) (Nat.le_of_ble_eq_true rfl) (fun p e s m args below meth c A hA hi B S hok ls hl => ?_)
  exact hy_loop (nk_G_init hl9 hA (hi rfl) B) n _ hn ad s.heap [] 0 0 ls S hok hl
theorem d_J_AC_init_0 : decode b_J_AC_init 0 = .ok (.aload_n 0, 1) := by decide +kernel
theorem d_J_AC_init_1 : decode b_J_AC_init 1 = .ok (.invokespecial 1, 3) := by decide +kernel
theorem d_J_AC_init_4 : decode b_J_AC_init 4 = .ok (.return_, 1) := by decide +kernel
def lay_J_AC_init (pc : Nat) : List Nat := if pc = 0 then [0] else []
noncomputable def sg_J_AC_init_0 (v0 : Nat) (w : hy_W) : Option hy_N := some (.inr (.inl none, w))
noncomputable def nx_J_AC_init (q : hy_P) : Option hy_N := match q with
  | (0, [.ref v0], w) => sg_J_AC_init_0 v0 w
  | _ => none
noncomputable def f_J_AC_init (av : List Value) (w : hy_W) : Option hy_O := hy_fx nx_J_AC_init (0, av, w)
set_option maxHeartbeats 4000000 in
set_option maxRecDepth 100000 in
theorem sk_J_AC_init_0 {p : Program} {l : Launch} {e : Env} {s : State} {m : MethodId} {args : Array Value} {below : List Frame} {meth : Method} {c : Code} {G : hy_G} {A : Nat → Prop} {ad0 : Nat → Nat} {w0 : hy_W} {o : hy_O} (hl9 : l.flags = flags0) (hA : hy_A G ad0 w0 s.heap.size = A) (hi : meth.name = "<init>") (B : hy_B p l e (hy_rm 1 12 w0) s m args below meth c "java/util/AbstractCollection" b_J_AC_init 1 none [] G A) (v0 : Nat) (w : hy_W) (nx : hy_N) (h : sg_J_AC_init_0 v0 w = some nx) (K : hy_Nx lay_J_AC_init p l e (hy_rm 1 12 w0) s m args below meth c 1 G A ad0 w0.1.length (hy_Q below G ad0 w0 o args s) o nx) : hy_At lay_J_AC_init p l e (hy_rm 1 12 w0) s m args below meth c 1 G A ad0 w0.1.length (hy_Q below G ad0 w0 o args s) (0, [.ref v0], w) := by
  intro ad H locs cells slots ls S hok hl
  have hx := B.1
  have hb := B.2.1
  dsimp only at S hok
  have hl : lv_has ls 1 [(0, .ref (ad v0))] := hl
  show W p l e (hy_rm 1 12 w0) s m args below meth c H locs cells slots (hy_Q below G ad0 w0 o args s) (F0 m 0 ls [])
  have hv_v0 : v0 < w.1.length := hok (.ref v0) (List.mem_of_getElem? (i := 0) rfl) v0 rfl
  obtain ⟨a_v0, ha_v0⟩ : ∃ a, ad v0 = a := ⟨_, rfl⟩
  rw [ha_v0] at hl
  unfold sg_J_AC_init_0 at h
  refine lv_aload_n hx hb d_J_AC_init_0 rfl (lv_at hl 0 rfl) ?_
  refine W.objInit hx hb B.2.2.2.1 (B.2.2.2.2.1 _ tw_114) (B.2.2.2.2.1 _ tw_29) (B.2.2.2.2.1 _ tw_30) rfl (by rw [B.2.2.1]; exact hl.1) rfl d_J_AC_init_1 (Nat.le_of_ble_eq_true rfl) (Nat.le_of_ble_eq_true rfl) ?_
  refine W.eq (g2 := F0 m 4 ls []) rfl ?_
  cases h
  cases K
  exact hy_vret hA B S d_J_AC_init_4
theorem nk_J_AC_init {p : Program} {l : Launch} {e : Env} {s : State} {m : MethodId} {args : Array Value} {below : List Frame} {meth : Method} {c : Code} {G : hy_G} {A : Nat → Prop} {ad0 : Nat → Nat} {w0 : hy_W} {o : hy_O} (hl9 : l.flags = flags0) (hA : hy_A G ad0 w0 s.heap.size = A) (hi : meth.name = "<init>") (B : hy_B p l e (hy_rm 1 12 w0) s m args below meth c "java/util/AbstractCollection" b_J_AC_init 1 none [] G A) (q : hy_P) (nx : hy_N) (hq : nx_J_AC_init q = some nx) (K : hy_Nx lay_J_AC_init p l e (hy_rm 1 12 w0) s m args below meth c 1 G A ad0 w0.1.length (hy_Q below G ad0 w0 o args s) o nx) : hy_At lay_J_AC_init p l e (hy_rm 1 12 w0) s m args below meth c 1 G A ad0 w0.1.length (hy_Q below G ad0 w0 o args s) q := by
  unfold nx_J_AC_init at hq
  split at hq
  · exact sk_J_AC_init_0 hl9 hA hi B _ _ nx hq K
  · cases hq
theorem c_J_AC_init {l : Launch} (hl9 : l.flags = flags0) (G : hy_G) (ad : Nat → Nat) {v0 : Nat} {w : hy_W} {o : hy_O} (h : f_J_AC_init [.ref v0] w = some o) : hy_M l y_J_AC_init (Cond.code y_J_AC_init b_J_AC_init 1 none :: hy_T) 1 12 G ad [.ref v0] w o := by
  obtain ⟨n, hn⟩ := hy_fx_iff.mp h
  refine hy_ofW hl9 (by decide +kernel) (Nat.le_of_ble_eq_true rfl) (fun p e s m args below meth c A hA hi B S hok ls hl => ?_)
  exact hy_loop (nk_J_AC_init hl9 hA (hi rfl) B) n _ hn ad s.heap [] 0 0 ls S hok hl
theorem d_J_AL_init_0 : decode b_J_AL_init 0 = .ok (.aload_n 0, 1) := by decide +kernel
theorem d_J_AL_init_1 : decode b_J_AL_init 1 = .ok (.invokespecial 1, 3) := by decide +kernel
theorem d_J_AL_init_4 : decode b_J_AL_init 4 = .ok (.aload_n 0, 1) := by decide +kernel
theorem d_J_AL_init_5 : decode b_J_AL_init 5 = .ok (.iconst 0, 1) := by decide +kernel
theorem d_J_AL_init_6 : decode b_J_AL_init 6 = .ok (.putfield 7, 3) := by decide +kernel
theorem d_J_AL_init_9 : decode b_J_AL_init 9 = .ok (.return_, 1) := by decide +kernel
def lay_J_AL_init (pc : Nat) : List Nat := if pc = 0 then [0] else []
noncomputable def sg_J_AL_init_0 (v0 : Nat) (w : hy_W) : Option hy_N := hy_bv (f_J_AC_init [.ref v0] w) fun w1 => (hy_pf w1 v0 7 2 (.int 0)).bind fun w4 => some (.inr (.inl none, w4))
noncomputable def nx_J_AL_init (q : hy_P) : Option hy_N := match q with
  | (0, [.ref v0], w) => sg_J_AL_init_0 v0 w
  | _ => none
noncomputable def f_J_AL_init (av : List Value) (w : hy_W) : Option hy_O := hy_fx nx_J_AL_init (0, av, w)
set_option maxHeartbeats 4000000 in
set_option maxRecDepth 100000 in
theorem sk_J_AL_init_0 {p : Program} {l : Launch} {e : Env} {s : State} {m : MethodId} {args : Array Value} {below : List Frame} {meth : Method} {c : Code} {G : hy_G} {A : Nat → Prop} {ad0 : Nat → Nat} {w0 : hy_W} {o : hy_O} (hl9 : l.flags = flags0) (hA : hy_A G ad0 w0 s.heap.size = A) (hi : meth.name = "<init>") (B : hy_B p l e (hy_rm 2 32 w0) s m args below meth c "java/util/AbstractList" b_J_AL_init 1 none [] G A) (v0 : Nat) (w : hy_W) (nx : hy_N) (h : sg_J_AL_init_0 v0 w = some nx) (K : hy_Nx lay_J_AL_init p l e (hy_rm 2 32 w0) s m args below meth c 1 G A ad0 w0.1.length (hy_Q below G ad0 w0 o args s) o nx) : hy_At lay_J_AL_init p l e (hy_rm 2 32 w0) s m args below meth c 1 G A ad0 w0.1.length (hy_Q below G ad0 w0 o args s) (0, [.ref v0], w) := by
  intro ad H locs cells slots ls S hok hl
  have hx := B.1
  have hb := B.2.1
  dsimp only at S hok
  have hl : lv_has ls 1 [(0, .ref (ad v0))] := hl
  show W p l e (hy_rm 2 32 w0) s m args below meth c H locs cells slots (hy_Q below G ad0 w0 o args s) (F0 m 0 ls [])
  have hv_v0 : v0 < w.1.length := hok (.ref v0) (List.mem_of_getElem? (i := 0) rfl) v0 rfl
  obtain ⟨a_v0, ha_v0⟩ : ∃ a, ad v0 = a := ⟨_, rfl⟩
  rw [ha_v0] at hl
  unfold sg_J_AL_init_0 at h
  refine lv_aload_n hx hb d_J_AL_init_0 rfl (lv_at hl 0 rfl) ?_
  obtain ⟨w1, hq_w1, h⟩ := hy_bv_spec h
  refine hy_callv (hy_runI (rest := []) (As := []) (r := v0) (b := a_v0) B S rfl ha_v0 (by rfl) (c_J_AC_init hl9 G ad hq_w1) (hy_okr (by omega) hy_ok0) tw_113 tw_6 tw_111 tw_112 rfl (by decide) rfl (Nat.le_of_ble_eq_true rfl) (Nat.le_of_ble_eq_true rfl) hl.1 (Nat.le_of_ble_eq_true rfl) d_J_AL_init_1) (fun ad2 H locs cells slots hag hl_w1 S => ?_)
  have ha_v0 : ad2 v0 = a_v0 := (hag v0 (by omega)).trans ha_v0
  refine lv_aload_n hx hb d_J_AL_init_4 rfl (lv_at hl 0 rfl) ?_
  refine lv_iconst (v := 0) hx hb d_J_AL_init_5 (by decide) ?_
  obtain ⟨w4, hw4, h⟩ := hy_bd h
  refine hy_put B S ha_v0 rfl hy_cvi hw4 rfl (Nat.le_of_ble_eq_true rfl) i_7 t_7 t_7_ok n_7 (j := 2) tw_119 (fun _ h => h) rfl rfl rfl d_J_AL_init_6 (fun H locs S hl_w4 => ?_)
  cases h
  cases K
  exact hy_vret hA B S d_J_AL_init_9
theorem nk_J_AL_init {p : Program} {l : Launch} {e : Env} {s : State} {m : MethodId} {args : Array Value} {below : List Frame} {meth : Method} {c : Code} {G : hy_G} {A : Nat → Prop} {ad0 : Nat → Nat} {w0 : hy_W} {o : hy_O} (hl9 : l.flags = flags0) (hA : hy_A G ad0 w0 s.heap.size = A) (hi : meth.name = "<init>") (B : hy_B p l e (hy_rm 2 32 w0) s m args below meth c "java/util/AbstractList" b_J_AL_init 1 none [] G A) (q : hy_P) (nx : hy_N) (hq : nx_J_AL_init q = some nx) (K : hy_Nx lay_J_AL_init p l e (hy_rm 2 32 w0) s m args below meth c 1 G A ad0 w0.1.length (hy_Q below G ad0 w0 o args s) o nx) : hy_At lay_J_AL_init p l e (hy_rm 2 32 w0) s m args below meth c 1 G A ad0 w0.1.length (hy_Q below G ad0 w0 o args s) q := by
  unfold nx_J_AL_init at hq
  split at hq
  · exact sk_J_AL_init_0 hl9 hA hi B _ _ nx hq K
  · cases hq
theorem c_J_AL_init {l : Launch} (hl9 : l.flags = flags0) (G : hy_G) (ad : Nat → Nat) {v0 : Nat} {w : hy_W} {o : hy_O} (h : f_J_AL_init [.ref v0] w = some o) : hy_M l y_J_AL_init (Cond.code y_J_AL_init b_J_AL_init 1 none :: hy_T) 2 32 G ad [.ref v0] w o := by
  obtain ⟨n, hn⟩ := hy_fx_iff.mp h
  refine hy_ofW hl9 (by decide +kernel) (Nat.le_of_ble_eq_true rfl) (fun p e s m args below meth c A hA hi B S hok ls hl => ?_)
  exact hy_loop (nk_J_AL_init hl9 hA (hi rfl) B) n _ hn ad s.heap [] 0 0 ls S hok hl
theorem d_A_init_0 : decode b_A_init 0 = .ok (.aload_n 0, 1) := by decide +kernel
theorem d_A_init_1 : decode b_A_init 1 = .ok (.invokespecial 1, 3) := by decide +kernel
theorem d_A_init_4 : decode b_A_init 4 = .ok (.aload_n 0, 1) := by decide +kernel
theorem d_A_init_5 : decode b_A_init 5 = .ok (.getstatic 39, 3) := by decide +kernel
theorem d_A_init_8 : decode b_A_init 8 = .ok (.putfield 9, 3) := by decide +kernel
theorem d_A_init_11 : decode b_A_init 11 = .ok (.return_, 1) := by decide +kernel
def lay_A_init (pc : Nat) : List Nat := if pc = 0 then [0] else []
noncomputable def sg_A_init_0 (v0 : Nat) (w : hy_W) : Option hy_N := hy_bv (f_J_AL_init [.ref v0] w) fun w1 => (hy_pf w1 v0 7 0 (.ref 0)).bind fun w5 => some (.inr (.inl none, w5))
noncomputable def nx_A_init (q : hy_P) : Option hy_N := match q with
  | (0, [.ref v0], w) => sg_A_init_0 v0 w
  | _ => none
noncomputable def f_A_init (av : List Value) (w : hy_W) : Option hy_O := hy_fx nx_A_init (0, av, w)
set_option maxHeartbeats 4000000 in
set_option maxRecDepth 100000 in
theorem sk_A_init_0 {p : Program} {l : Launch} {e : Env} {s : State} {m : MethodId} {args : Array Value} {below : List Frame} {meth : Method} {c : Code} {G : hy_G} {A : Nat → Prop} {ad0 : Nat → Nat} {w0 : hy_W} {o : hy_O} (hl9 : l.flags = flags0) (hA : hy_A G ad0 w0 s.heap.size = A) (hi : meth.name = "<init>") (B : hy_B p l e (hy_rm 3 52 w0) s m args below meth c "java/util/ArrayList" b_A_init 1 none [] G A) (v0 : Nat) (w : hy_W) (nx : hy_N) (h : sg_A_init_0 v0 w = some nx) (K : hy_Nx lay_A_init p l e (hy_rm 3 52 w0) s m args below meth c 1 G A ad0 w0.1.length (hy_Q below G ad0 w0 o args s) o nx) : hy_At lay_A_init p l e (hy_rm 3 52 w0) s m args below meth c 1 G A ad0 w0.1.length (hy_Q below G ad0 w0 o args s) (0, [.ref v0], w) := by
  intro ad H locs cells slots ls S hok hl
  have hx := B.1
  have hb := B.2.1
  dsimp only at S hok
  have hl : lv_has ls 1 [(0, .ref (ad v0))] := hl
  show W p l e (hy_rm 3 52 w0) s m args below meth c H locs cells slots (hy_Q below G ad0 w0 o args s) (F0 m 0 ls [])
  have hv_v0 : v0 < w.1.length := hok (.ref v0) (List.mem_of_getElem? (i := 0) rfl) v0 rfl
  obtain ⟨a_v0, ha_v0⟩ : ∃ a, ad v0 = a := ⟨_, rfl⟩
  rw [ha_v0] at hl
  unfold sg_A_init_0 at h
  refine lv_aload_n hx hb d_A_init_0 rfl (lv_at hl 0 rfl) ?_
  obtain ⟨w1, hq_w1, h⟩ := hy_bv_spec h
  refine hy_callv (hy_runI (rest := []) (As := []) (r := v0) (b := a_v0) B S rfl ha_v0 (by rfl) (c_J_AL_init hl9 G ad hq_w1) (hy_okr (by omega) hy_ok0) tw_110 tw_7 tw_108 tw_109 rfl (by decide) rfl (Nat.le_of_ble_eq_true rfl) (Nat.le_of_ble_eq_true rfl) hl.1 (Nat.le_of_ble_eq_true rfl) d_A_init_1) (fun ad2 H locs cells slots hag hl_w1 S => ?_)
  have ha_v0 : ad2 v0 = a_v0 := (hag v0 (by omega)).trans ha_v0
  refine lv_aload_n hx hb d_A_init_4 rfl (lv_at hl 0 rfl) ?_
  refine hy_gets B S tw_115 d_A_init_5 (fun a_e4 ha_e4 hv_e4 => ?_)
  obtain ⟨w5, hw5, h⟩ := hy_bd h
  refine hy_put B S ha_v0 (by rw [hy_v_ref, ha_e4]) (hy_cvr (by omega)) hw5 rfl (Nat.le_of_ble_eq_true rfl) i_7 t_7 t_7_ok n_7 (j := 0) tw_117 (fun _ h => h) rfl rfl rfl d_A_init_8 (fun H locs S hl_w5 => ?_)
  cases h
  cases K
  exact hy_vret hA B S d_A_init_11
theorem nk_A_init {p : Program} {l : Launch} {e : Env} {s : State} {m : MethodId} {args : Array Value} {below : List Frame} {meth : Method} {c : Code} {G : hy_G} {A : Nat → Prop} {ad0 : Nat → Nat} {w0 : hy_W} {o : hy_O} (hl9 : l.flags = flags0) (hA : hy_A G ad0 w0 s.heap.size = A) (hi : meth.name = "<init>") (B : hy_B p l e (hy_rm 3 52 w0) s m args below meth c "java/util/ArrayList" b_A_init 1 none [] G A) (q : hy_P) (nx : hy_N) (hq : nx_A_init q = some nx) (K : hy_Nx lay_A_init p l e (hy_rm 3 52 w0) s m args below meth c 1 G A ad0 w0.1.length (hy_Q below G ad0 w0 o args s) o nx) : hy_At lay_A_init p l e (hy_rm 3 52 w0) s m args below meth c 1 G A ad0 w0.1.length (hy_Q below G ad0 w0 o args s) q := by
  unfold nx_A_init at hq
  split at hq
  · exact sk_A_init_0 hl9 hA hi B _ _ nx hq K
  · cases hq
theorem c_A_init {l : Launch} (hl9 : l.flags = flags0) (G : hy_G) (ad : Nat → Nat) {v0 : Nat} {w : hy_W} {o : hy_O} (h : f_A_init [.ref v0] w = some o) : hy_M l y_A_init (Cond.code y_A_init b_A_init 1 none :: hy_T) 3 52 G ad [.ref v0] w o := by
  obtain ⟨n, hn⟩ := hy_fx_iff.mp h
  refine hy_ofW hl9 (by decide +kernel) (Nat.le_of_ble_eq_true rfl) (fun p e s m args below meth c A hA hi B S hok ls hl => ?_)
  exact hy_loop (nk_A_init hl9 hA (hi rfl) B) n _ hn ad s.heap [] 0 0 ls S hok hl
theorem d_L_init_0 : decode b_L_init 0 = .ok (.aload_n 0, 1) := by decide +kernel
theorem d_L_init_1 : decode b_L_init 1 = .ok (.invokespecial 3, 3) := by decide +kernel
theorem d_L_init_4 : decode b_L_init 4 = .ok (.aload_n 0, 1) := by decide +kernel
theorem d_L_init_5 : decode b_L_init 5 = .ok (.bipush 20, 2) := by decide +kernel
theorem d_L_init_7 : decode b_L_init 7 = .ok (.newarray .int, 2) := by decide +kernel
theorem d_L_init_9 : decode b_L_init 9 = .ok (.putfield 9, 3) := by decide +kernel
theorem d_L_init_12 : decode b_L_init 12 = .ok (.aload_n 0, 1) := by decide +kernel
theorem d_L_init_13 : decode b_L_init 13 = .ok (.bipush 20, 2) := by decide +kernel
theorem d_L_init_15 : decode b_L_init 15 = .ok (.newarray .int, 2) := by decide +kernel
theorem d_L_init_17 : decode b_L_init 17 = .ok (.putfield 15, 3) := by decide +kernel
theorem d_L_init_20 : decode b_L_init 20 = .ok (.aload_n 0, 1) := by decide +kernel
theorem d_L_init_21 : decode b_L_init 21 = .ok (.bipush 20, 2) := by decide +kernel
theorem d_L_init_23 : decode b_L_init 23 = .ok (.newarray .int, 2) := by decide +kernel
theorem d_L_init_25 : decode b_L_init 25 = .ok (.putfield 18, 3) := by decide +kernel
theorem d_L_init_28 : decode b_L_init 28 = .ok (.aload_n 0, 1) := by decide +kernel
theorem d_L_init_29 : decode b_L_init 29 = .ok (.new 21, 3) := by decide +kernel
theorem d_L_init_32 : decode b_L_init 32 = .ok (.dup, 1) := by decide +kernel
theorem d_L_init_33 : decode b_L_init 33 = .ok (.invokespecial 23, 3) := by decide +kernel
theorem d_L_init_36 : decode b_L_init 36 = .ok (.putfield 24, 3) := by decide +kernel
theorem d_L_init_39 : decode b_L_init 39 = .ok (.aload_n 0, 1) := by decide +kernel
theorem d_L_init_40 : decode b_L_init 40 = .ok (.new 21, 3) := by decide +kernel
theorem d_L_init_43 : decode b_L_init 43 = .ok (.dup, 1) := by decide +kernel
theorem d_L_init_44 : decode b_L_init 44 = .ok (.invokespecial 23, 3) := by decide +kernel
theorem d_L_init_47 : decode b_L_init 47 = .ok (.putfield 28, 3) := by decide +kernel
theorem d_L_init_50 : decode b_L_init 50 = .ok (.aload_n 0, 1) := by decide +kernel
theorem d_L_init_51 : decode b_L_init 51 = .ok (.iconst 0, 1) := by decide +kernel
theorem d_L_init_52 : decode b_L_init 52 = .ok (.putfield 31, 3) := by decide +kernel
theorem d_L_init_55 : decode b_L_init 55 = .ok (.aload_n 0, 1) := by decide +kernel
theorem d_L_init_56 : decode b_L_init 56 = .ok (.iconst 2, 1) := by decide +kernel
theorem d_L_init_57 : decode b_L_init 57 = .ok (.putfield 35, 3) := by decide +kernel
theorem d_L_init_60 : decode b_L_init 60 = .ok (.aload_n 0, 1) := by decide +kernel
theorem d_L_init_61 : decode b_L_init 61 = .ok (.iconst 3, 1) := by decide +kernel
theorem d_L_init_62 : decode b_L_init 62 = .ok (.putfield 38, 3) := by decide +kernel
theorem d_L_init_65 : decode b_L_init 65 = .ok (.return_, 1) := by decide +kernel
def lay_L_init (pc : Nat) : List Nat := if pc = 0 then [0] else []
noncomputable def sg_L_init_0 (v0 : Nat) (w : hy_W) : Option hy_N := (hy_na w 0 20).bind fun w1 => (hy_pf w1 v0 1 0 (.ref w.1.length)).bind fun w4 => (hy_na w4 0 20).bind fun w5 => (hy_pf w5 v0 1 1 (.ref w4.1.length)).bind fun w8 => (hy_na w8 0 20).bind fun w9 => (hy_pf w9 v0 1 2 (.ref w8.1.length)).bind fun w12 => (hy_nw w12 (.inl (7, [.null, .int 0, .int 0])) 3).bind fun w13 => hy_bv (f_A_init [.ref w12.1.length] w13) fun w16 => (hy_pf w16 v0 1 3 (.ref w12.1.length)).bind fun w19 => (hy_nw w19 (.inl (7, [.null, .int 0, .int 0])) 3).bind fun w20 => hy_bv (f_A_init [.ref w19.1.length] w20) fun w23 => (hy_pf w23 v0 1 4 (.ref w19.1.length)).bind fun w26 => (hy_pf w26 v0 1 5 (.int 0)).bind fun w27 => (hy_pf w27 v0 1 6 (.int 2)).bind fun w28 => (hy_pf w28 v0 1 7 (.int 3)).bind fun w29 => some (.inr (.inl none, w29))
noncomputable def nx_L_init (q : hy_P) : Option hy_N := match q with
  | (0, [.ref v0], w) => sg_L_init_0 v0 w
  | _ => none
noncomputable def f_L_init (av : List Value) (w : hy_W) : Option hy_O := hy_fx nx_L_init (0, av, w)
set_option maxHeartbeats 4000000 in
set_option maxRecDepth 100000 in
theorem sk_L_init_0 {p : Program} {l : Launch} {e : Env} {s : State} {m : MethodId} {args : Array Value} {below : List Frame} {meth : Method} {c : Code} {G : hy_G} {A : Nat → Prop} {ad0 : Nat → Nat} {w0 : hy_W} {o : hy_O} (hl9 : l.flags = flags0) (hA : hy_A G ad0 w0 s.heap.size = A) (hi : meth.name = "<init>") (B : hy_B p l e (hy_rm 4 72 w0) s m args below meth c "HyphenPatterns$Language" b_L_init 1 none [] G A) (v0 : Nat) (w : hy_W) (nx : hy_N) (h : sg_L_init_0 v0 w = some nx) (K : hy_Nx lay_L_init p l e (hy_rm 4 72 w0) s m args below meth c 1 G A ad0 w0.1.length (hy_Q below G ad0 w0 o args s) o nx) : hy_At lay_L_init p l e (hy_rm 4 72 w0) s m args below meth c 1 G A ad0 w0.1.length (hy_Q below G ad0 w0 o args s) (0, [.ref v0], w) := by
  intro ad H locs cells slots ls S hok hl
  have hx := B.1
  have hb := B.2.1
  dsimp only at S hok
  have hl : lv_has ls 1 [(0, .ref (ad v0))] := hl
  show W p l e (hy_rm 4 72 w0) s m args below meth c H locs cells slots (hy_Q below G ad0 w0 o args s) (F0 m 0 ls [])
  have hv_v0 : v0 < w.1.length := hok (.ref v0) (List.mem_of_getElem? (i := 0) rfl) v0 rfl
  obtain ⟨a_v0, ha_v0⟩ : ∃ a, ad v0 = a := ⟨_, rfl⟩
  rw [ha_v0] at hl
  unfold sg_L_init_0 at h
  refine lv_aload_n hx hb d_L_init_0 rfl (lv_at hl 0 rfl) ?_
  refine W.objInit hx hb B.2.2.2.1 (B.2.2.2.2.1 _ tw_102) (B.2.2.2.2.1 _ tw_29) (B.2.2.2.2.1 _ tw_30) rfl (by rw [B.2.2.1]; exact hl.1) rfl d_L_init_1 (Nat.le_of_ble_eq_true rfl) (Nat.le_of_ble_eq_true rfl) ?_
  refine W.eq (g2 := F0 m 4 ls []) rfl ?_
  refine lv_aload_n hx hb d_L_init_4 rfl (lv_at hl 0 rfl) ?_
  refine lv_bipush (v := 20) hx hb d_L_init_5 (by decide) ?_
  obtain ⟨w1, hw1, h⟩ := hy_bd h
  refine hy_newi B S hw1 d_L_init_7 (fun ad2 a_q3 H _ hag ha_q3 S hl_w1 => ?_)
  have ha_v0 : ad2 v0 = a_v0 := (hag v0 (by omega)).trans ha_v0
  obtain ⟨w4, hw4, h⟩ := hy_bd h
  refine hy_putF hi B S ha_v0 (by rw [hy_v_ref, ha_q3]) (hy_cvr (by omega)) hw4 rfl (Nat.le_of_ble_eq_true rfl) i_1 t_1 t_1_ok n_1 (j := 0) tw_129 (fun _ h => h) rfl rfl rfl rfl d_L_init_9 (fun H locs S hl_w4 => ?_)
  refine lv_aload_n hx hb d_L_init_12 rfl (lv_at hl 0 rfl) ?_
  refine lv_bipush (v := 20) hx hb d_L_init_13 (by decide) ?_
  obtain ⟨w5, hw5, h⟩ := hy_bd h
  refine hy_newi B S hw5 d_L_init_15 (fun ad6 a_q7 H _ hag ha_q7 S hl_w5 => ?_)
  have ha_v0 : ad6 v0 = a_v0 := (hag v0 (by omega)).trans ha_v0
  obtain ⟨w8, hw8, h⟩ := hy_bd h
  refine hy_putF hi B S ha_v0 (by rw [hy_v_ref, ha_q7]) (hy_cvr (by omega)) hw8 rfl (Nat.le_of_ble_eq_true rfl) i_1 t_1 t_1_ok n_1 (j := 1) tw_130 (fun _ h => h) rfl rfl rfl rfl d_L_init_17 (fun H locs S hl_w8 => ?_)
  refine lv_aload_n hx hb d_L_init_20 rfl (lv_at hl 0 rfl) ?_
  refine lv_bipush (v := 20) hx hb d_L_init_21 (by decide) ?_
  obtain ⟨w9, hw9, h⟩ := hy_bd h
  refine hy_newi B S hw9 d_L_init_23 (fun ad10 a_q11 H _ hag ha_q11 S hl_w9 => ?_)
  have ha_v0 : ad10 v0 = a_v0 := (hag v0 (by omega)).trans ha_v0
  obtain ⟨w12, hw12, h⟩ := hy_bd h
  refine hy_putF hi B S ha_v0 (by rw [hy_v_ref, ha_q11]) (hy_cvr (by omega)) hw12 rfl (Nat.le_of_ble_eq_true rfl) i_1 t_1 t_1_ok n_1 (j := 2) tw_131 (fun _ h => h) rfl rfl rfl rfl d_L_init_25 (fun H locs S hl_w12 => ?_)
  refine lv_aload_n hx hb d_L_init_28 rfl (lv_at hl 0 rfl) ?_
  obtain ⟨w13, hw13, h⟩ := hy_bd h
  refine hy_new B S hw13 rfl i_7 t_7 t_7_ok tw_103 tw_104 tw_8 hy_df7 hy_no7 d_L_init_29 (fun ad14 a_q15 H hag ha_q15 S hl_w13 => ?_)
  have ha_v0 : ad14 v0 = a_v0 := (hag v0 (by omega)).trans ha_v0
  refine lv_dup hx hb d_L_init_32 rfl ?_
  obtain ⟨w16, hq_w16, h⟩ := hy_bv_spec h
  refine hy_callv (hy_runI (rest := [.ref a_q15, .ref a_v0]) (As := []) (r := w12.1.length) (b := a_q15) B S rfl ha_q15 (by rfl) (c_A_init hl9 G ad14 hq_w16) (hy_okr (by omega) hy_ok0) tw_107 tw_8 tw_105 tw_106 rfl (by decide) rfl (Nat.le_of_ble_eq_true rfl) (Nat.le_of_ble_eq_true rfl) hl.1 (Nat.le_of_ble_eq_true rfl) d_L_init_33) (fun ad17 H locs cells slots hag hl_w16 S => ?_)
  have ha_v0 : ad17 v0 = a_v0 := (hag v0 (by omega)).trans ha_v0
  have ha_q15 : ad17 w12.1.length = a_q15 := (hag w12.1.length (by omega)).trans ha_q15
  obtain ⟨w19, hw19, h⟩ := hy_bd h
  refine hy_putF hi B S ha_v0 (by rw [hy_v_ref, ha_q15]) (hy_cvr (by omega)) hw19 rfl (Nat.le_of_ble_eq_true rfl) i_1 t_1 t_1_ok n_1 (j := 3) tw_132 (fun _ h => h) rfl rfl rfl rfl d_L_init_36 (fun H locs S hl_w19 => ?_)
  refine lv_aload_n hx hb d_L_init_39 rfl (lv_at hl 0 rfl) ?_
  obtain ⟨w20, hw20, h⟩ := hy_bd h
  refine hy_new B S hw20 rfl i_7 t_7 t_7_ok tw_103 tw_104 tw_8 hy_df7 hy_no7 d_L_init_40 (fun ad21 a_q22 H hag ha_q22 S hl_w20 => ?_)
  have ha_v0 : ad21 v0 = a_v0 := (hag v0 (by omega)).trans ha_v0
  refine lv_dup hx hb d_L_init_43 rfl ?_
  obtain ⟨w23, hq_w23, h⟩ := hy_bv_spec h
  refine hy_callv (hy_runI (rest := [.ref a_q22, .ref a_v0]) (As := []) (r := w19.1.length) (b := a_q22) B S rfl ha_q22 (by rfl) (c_A_init hl9 G ad21 hq_w23) (hy_okr (by omega) hy_ok0) tw_107 tw_8 tw_105 tw_106 rfl (by decide) rfl (Nat.le_of_ble_eq_true rfl) (Nat.le_of_ble_eq_true rfl) hl.1 (Nat.le_of_ble_eq_true rfl) d_L_init_44) (fun ad24 H locs cells slots hag hl_w23 S => ?_)
  have ha_v0 : ad24 v0 = a_v0 := (hag v0 (by omega)).trans ha_v0
  have ha_q22 : ad24 w19.1.length = a_q22 := (hag w19.1.length (by omega)).trans ha_q22
  obtain ⟨w26, hw26, h⟩ := hy_bd h
  refine hy_putF hi B S ha_v0 (by rw [hy_v_ref, ha_q22]) (hy_cvr (by omega)) hw26 rfl (Nat.le_of_ble_eq_true rfl) i_1 t_1 t_1_ok n_1 (j := 4) tw_135 (fun _ h => h) rfl rfl rfl rfl d_L_init_47 (fun H locs S hl_w26 => ?_)
  refine lv_aload_n hx hb d_L_init_50 rfl (lv_at hl 0 rfl) ?_
  refine lv_iconst (v := 0) hx hb d_L_init_51 (by decide) ?_
  obtain ⟨w27, hw27, h⟩ := hy_bd h
  refine hy_put B S ha_v0 rfl hy_cvi hw27 rfl (Nat.le_of_ble_eq_true rfl) i_1 t_1 t_1_ok n_1 (j := 5) tw_138 (fun _ h => h) rfl rfl rfl d_L_init_52 (fun H locs S hl_w27 => ?_)
  refine lv_aload_n hx hb d_L_init_55 rfl (lv_at hl 0 rfl) ?_
  refine lv_iconst (v := 2) hx hb d_L_init_56 (by decide) ?_
  obtain ⟨w28, hw28, h⟩ := hy_bd h
  refine hy_put B S ha_v0 rfl hy_cvi hw28 rfl (Nat.le_of_ble_eq_true rfl) i_1 t_1 t_1_ok n_1 (j := 6) tw_140 (fun _ h => h) rfl rfl rfl d_L_init_57 (fun H locs S hl_w28 => ?_)
  refine lv_aload_n hx hb d_L_init_60 rfl (lv_at hl 0 rfl) ?_
  refine lv_iconst (v := 3) hx hb d_L_init_61 (by decide) ?_
  obtain ⟨w29, hw29, h⟩ := hy_bd h
  refine hy_put B S ha_v0 rfl hy_cvi hw29 rfl (Nat.le_of_ble_eq_true rfl) i_1 t_1 t_1_ok n_1 (j := 7) tw_143 (fun _ h => h) rfl rfl rfl d_L_init_62 (fun H locs S hl_w29 => ?_)
  cases h
  cases K
  exact hy_vret hA B S d_L_init_65
theorem nk_L_init {p : Program} {l : Launch} {e : Env} {s : State} {m : MethodId} {args : Array Value} {below : List Frame} {meth : Method} {c : Code} {G : hy_G} {A : Nat → Prop} {ad0 : Nat → Nat} {w0 : hy_W} {o : hy_O} (hl9 : l.flags = flags0) (hA : hy_A G ad0 w0 s.heap.size = A) (hi : meth.name = "<init>") (B : hy_B p l e (hy_rm 4 72 w0) s m args below meth c "HyphenPatterns$Language" b_L_init 1 none [] G A) (q : hy_P) (nx : hy_N) (hq : nx_L_init q = some nx) (K : hy_Nx lay_L_init p l e (hy_rm 4 72 w0) s m args below meth c 1 G A ad0 w0.1.length (hy_Q below G ad0 w0 o args s) o nx) : hy_At lay_L_init p l e (hy_rm 4 72 w0) s m args below meth c 1 G A ad0 w0.1.length (hy_Q below G ad0 w0 o args s) q := by
  unfold nx_L_init at hq
  split at hq
  · exact sk_L_init_0 hl9 hA hi B _ _ nx hq K
  · cases hq
theorem c_L_init {l : Launch} (hl9 : l.flags = flags0) (G : hy_G) (ad : Nat → Nat) {v0 : Nat} {w : hy_W} {o : hy_O} (h : f_L_init [.ref v0] w = some o) : hy_M l y_L_init (Cond.code y_L_init b_L_init 1 none :: hy_T) 4 72 G ad [.ref v0] w o := by
  obtain ⟨n, hn⟩ := hy_fx_iff.mp h
  refine hy_ofW hl9 (by decide +kernel) (Nat.le_of_ble_eq_true rfl) (fun p e s m args below meth c A hA hi B S hok ls hl => ?_)
  exact hy_loop (nk_L_init hl9 hA (hi rfl) B) n _ hn ad s.heap [] 0 0 ls S hok hl
theorem d_H_init_0 : decode b_H_init 0 = .ok (.aload_n 0, 1) := by decide +kernel
theorem d_H_init_1 : decode b_H_init 1 = .ok (.invokespecial 1, 3) := by decide +kernel
theorem d_H_init_4 : decode b_H_init 4 = .ok (.aload_n 0, 1) := by decide +kernel
theorem d_H_init_5 : decode b_H_init 5 = .ok (.iconst 4, 1) := by decide +kernel
theorem d_H_init_6 : decode b_H_init 6 = .ok (.anewarray 9, 3) := by decide +kernel
theorem d_H_init_9 : decode b_H_init 9 = .ok (.putfield 11, 3) := by decide +kernel
theorem d_H_init_12 : decode b_H_init 12 = .ok (.aload_n 0, 1) := by decide +kernel
theorem d_H_init_13 : decode b_H_init 13 = .ok (.new 15, 3) := by decide +kernel
theorem d_H_init_16 : decode b_H_init 16 = .ok (.dup, 1) := by decide +kernel
theorem d_H_init_17 : decode b_H_init 17 = .ok (.bipush 40, 2) := by decide +kernel
theorem d_H_init_19 : decode b_H_init 19 = .ok (.bipush (-10), 2) := by decide +kernel
theorem d_H_init_21 : decode b_H_init 21 = .ok (.invokespecial 17, 3) := by decide +kernel
theorem d_H_init_24 : decode b_H_init 24 = .ok (.putfield 20, 3) := by decide +kernel
theorem d_H_init_27 : decode b_H_init 27 = .ok (.aload_n 0, 1) := by decide +kernel
theorem d_H_init_28 : decode b_H_init 28 = .ok (.new 15, 3) := by decide +kernel
theorem d_H_init_31 : decode b_H_init 31 = .ok (.dup, 1) := by decide +kernel
theorem d_H_init_32 : decode b_H_init 32 = .ok (.sipush 400, 3) := by decide +kernel
theorem d_H_init_35 : decode b_H_init 35 = .ok (.iconst 1, 1) := by decide +kernel
theorem d_H_init_36 : decode b_H_init 36 = .ok (.invokespecial 17, 3) := by decide +kernel
theorem d_H_init_39 : decode b_H_init 39 = .ok (.putfield 24, 3) := by decide +kernel
theorem d_H_init_42 : decode b_H_init 42 = .ok (.aload_n 0, 1) := by decide +kernel
theorem d_H_init_43 : decode b_H_init 43 = .ok (.new 27, 3) := by decide +kernel
theorem d_H_init_46 : decode b_H_init 46 = .ok (.dup, 1) := by decide +kernel
theorem d_H_init_47 : decode b_H_init 47 = .ok (.invokespecial 29, 3) := by decide +kernel
theorem d_H_init_50 : decode b_H_init 50 = .ok (.putfield 30, 3) := by decide +kernel
theorem d_H_init_53 : decode b_H_init 53 = .ok (.aload_n 0, 1) := by decide +kernel
theorem d_H_init_54 : decode b_H_init 54 = .ok (.new 34, 3) := by decide +kernel
theorem d_H_init_57 : decode b_H_init 57 = .ok (.dup, 1) := by decide +kernel
theorem d_H_init_58 : decode b_H_init 58 = .ok (.invokespecial 36, 3) := by decide +kernel
theorem d_H_init_61 : decode b_H_init 61 = .ok (.putfield 37, 3) := by decide +kernel
theorem d_H_init_64 : decode b_H_init 64 = .ok (.aload_n 0, 1) := by decide +kernel
theorem d_H_init_65 : decode b_H_init 65 = .ok (.iconst 0, 1) := by decide +kernel
theorem d_H_init_66 : decode b_H_init 66 = .ok (.putfield 41, 3) := by decide +kernel
theorem d_H_init_69 : decode b_H_init 69 = .ok (.iconst 0, 1) := by decide +kernel
theorem d_H_init_70 : decode b_H_init 70 = .ok (.istore_n 1, 1) := by decide +kernel
theorem d_H_init_71 : decode b_H_init 71 = .ok (.iload_n 1, 1) := by decide +kernel
theorem d_H_init_72 : decode b_H_init 72 = .ok (.iconst 4, 1) := by decide +kernel
theorem d_H_init_73 : decode b_H_init 73 = .ok (.if_icmp .ge 22, 3) := by decide +kernel
theorem d_H_init_76 : decode b_H_init 76 = .ok (.aload_n 0, 1) := by decide +kernel
theorem d_H_init_77 : decode b_H_init 77 = .ok (.getfield 11, 3) := by decide +kernel
theorem d_H_init_80 : decode b_H_init 80 = .ok (.iload_n 1, 1) := by decide +kernel
theorem d_H_init_81 : decode b_H_init 81 = .ok (.new 9, 3) := by decide +kernel
theorem d_H_init_84 : decode b_H_init 84 = .ok (.dup, 1) := by decide +kernel
theorem d_H_init_85 : decode b_H_init 85 = .ok (.invokespecial 45, 3) := by decide +kernel
theorem d_H_init_88 : decode b_H_init 88 = .ok (.aastore, 1) := by decide +kernel
theorem d_H_init_89 : decode b_H_init 89 = .ok (.iinc 1 1, 3) := by decide +kernel
theorem d_H_init_92 : decode b_H_init 92 = .ok (.goto (-21), 3) := by decide +kernel
theorem d_H_init_95 : decode b_H_init 95 = .ok (.return_, 1) := by decide +kernel
def lay_H_init (pc : Nat) : List Nat := if pc = 0 then [0] else if pc = 71 then [0, 1] else []
noncomputable def sg_H_init_0 (v0 : Nat) (w : hy_W) : Option hy_N := (hy_na w 2 4).bind fun w1 => (hy_pf w1 v0 5 0 (.ref w.1.length)).bind fun w4 => (hy_nw w4 (.inl (2, [.null, .int 0, .null, .int 0])) 4).bind fun w5 => hy_bv (f_N_init [.ref w4.1.length, .int 40, .int (-10)] w5) fun w8 => (hy_pf w8 v0 5 1 (.ref w4.1.length)).bind fun w11 => (hy_nw w11 (.inl (2, [.null, .int 0, .null, .int 0])) 4).bind fun w12 => hy_bv (f_N_init [.ref w11.1.length, .int 400, .int 1] w12) fun w15 => (hy_pf w15 v0 5 2 (.ref w11.1.length)).bind fun w18 => (hy_nw w18 (.inl (0, [.null, .null, .int 0])) 3).bind fun w19 => hy_bv (f_D_init [.ref w18.1.length] w19) fun w22 => (hy_pf w22 v0 5 3 (.ref w18.1.length)).bind fun w25 => (hy_nw w25 (.inl (3, [.null, .null, .int 0, .int 0, .int 0])) 5).bind fun w26 => hy_bv (f_G_init [.ref w25.1.length] w26) fun w29 => (hy_pf w29 v0 5 4 (.ref w25.1.length)).bind fun w32 => (hy_pf w32 v0 5 5 (.int 0)).bind fun w33 => some (.inl (71, [.ref v0, .int 0], w33))
noncomputable def sg_H_init_71 (v0 : Nat) (v1 : Int32) (w : hy_W) : Option hy_N := if (4 : Int32) ≤ v1 then (some (.inr (.inl none, w))) else ((hy_gr w v0 5 0).bind fun r2 => (hy_nw w (.inl (1, [.null, .null, .null, .null, .null, .int 0, .int 0, .int 0])) 8).bind fun w3 => hy_bv (f_L_init [.ref w.1.length] w3) fun w6 => if hy_ob w6 w.1.length 1 = true then (hy_pa w6 2 r2 v1 (.ref w.1.length)).bind fun w9 => some (.inl (71, [.ref v0, .int (v1 + 1)], w9)) else none)
noncomputable def nx_H_init (q : hy_P) : Option hy_N := match q with
  | (0, [.ref v0], w) => sg_H_init_0 v0 w
  | (71, [.ref v0, .int v1], w) => sg_H_init_71 v0 v1 w
  | _ => none
noncomputable def f_H_init (av : List Value) (w : hy_W) : Option hy_O := hy_fx nx_H_init (0, av, w)
set_option maxHeartbeats 4000000 in
set_option maxRecDepth 100000 in
theorem sk_H_init_0 {p : Program} {l : Launch} {e : Env} {s : State} {m : MethodId} {args : Array Value} {below : List Frame} {meth : Method} {c : Code} {G : hy_G} {A : Nat → Prop} {ad0 : Nat → Nat} {w0 : hy_W} {o : hy_O} (hl9 : l.flags = flags0) (hA : hy_A G ad0 w0 s.heap.size = A) (hi : meth.name = "<init>") (B : hy_B p l e (hy_rm 5 92 w0) s m args below meth c "HyphenPatterns" b_H_init 2 none [] G A) (v0 : Nat) (w : hy_W) (nx : hy_N) (h : sg_H_init_0 v0 w = some nx) (K : hy_Nx lay_H_init p l e (hy_rm 5 92 w0) s m args below meth c 2 G A ad0 w0.1.length (hy_Q below G ad0 w0 o args s) o nx) : hy_At lay_H_init p l e (hy_rm 5 92 w0) s m args below meth c 2 G A ad0 w0.1.length (hy_Q below G ad0 w0 o args s) (0, [.ref v0], w) := by
  intro ad H locs cells slots ls S hok hl
  have hx := B.1
  have hb := B.2.1
  dsimp only at S hok
  have hl : lv_has ls 2 [(0, .ref (ad v0))] := hl
  show W p l e (hy_rm 5 92 w0) s m args below meth c H locs cells slots (hy_Q below G ad0 w0 o args s) (F0 m 0 ls [])
  have hv_v0 : v0 < w.1.length := hok (.ref v0) (List.mem_of_getElem? (i := 0) rfl) v0 rfl
  obtain ⟨a_v0, ha_v0⟩ : ∃ a, ad v0 = a := ⟨_, rfl⟩
  rw [ha_v0] at hl
  unfold sg_H_init_0 at h
  refine lv_aload_n hx hb d_H_init_0 rfl (lv_at hl 0 rfl) ?_
  refine W.objInit hx hb B.2.2.2.1 (B.2.2.2.2.1 _ tw_28) (B.2.2.2.2.1 _ tw_29) (B.2.2.2.2.1 _ tw_30) rfl (by rw [B.2.2.1]; exact hl.1) rfl d_H_init_1 (Nat.le_of_ble_eq_true rfl) (Nat.le_of_ble_eq_true rfl) ?_
  refine W.eq (g2 := F0 m 4 ls []) rfl ?_
  refine lv_aload_n hx hb d_H_init_4 rfl (lv_at hl 0 rfl) ?_
  refine lv_iconst (v := 4) hx hb d_H_init_5 (by decide) ?_
  obtain ⟨w1, hw1, h⟩ := hy_bd h
  refine hy_newq B S hw1 (C := "HyphenPatterns$Language") (Nat.le_of_ble_eq_true rfl) rfl tw_31 B.2.2.2.2.2.2.2.2.2.1.2.2.2.1.1 d_H_init_6 (fun ad2 a_q3 H _ hag ha_q3 S hl_w1 => ?_)
  have ha_v0 : ad2 v0 = a_v0 := (hag v0 (by omega)).trans ha_v0
  obtain ⟨w4, hw4, h⟩ := hy_bd h
  refine hy_putF hi B S ha_v0 (by rw [hy_v_ref, ha_q3]) (hy_cvr (by omega)) hw4 rfl (Nat.le_of_ble_eq_true rfl) i_5 t_5 t_5_ok n_5 (j := 0) tw_163 (fun _ h => h) rfl rfl rfl rfl d_H_init_9 (fun H locs S hl_w4 => ?_)
  refine lv_aload_n hx hb d_H_init_12 rfl (lv_at hl 0 rfl) ?_
  obtain ⟨w5, hw5, h⟩ := hy_bd h
  refine hy_new B S hw5 rfl i_2 t_2 t_2_ok tw_33 tw_34 tw_2 hy_df2 hy_no2 d_H_init_13 (fun ad6 a_q7 H hag ha_q7 S hl_w5 => ?_)
  have ha_v0 : ad6 v0 = a_v0 := (hag v0 (by omega)).trans ha_v0
  refine lv_dup hx hb d_H_init_16 rfl ?_
  refine lv_bipush (v := 40) hx hb d_H_init_17 (by decide) ?_
  refine lv_bipush (v := (-10)) hx hb d_H_init_19 (by decide) ?_
  obtain ⟨w8, hq_w8, h⟩ := hy_bv_spec h
  refine hy_callv (hy_runI (rest := [.ref a_q7, .ref a_v0]) (As := [.int 40, .int (-10)]) (r := w4.1.length) (b := a_q7) B S rfl ha_q7 (by rfl) (c_N_init hl9 G ad6 hq_w8) (hy_okr (by omega) (hy_oki (hy_oki hy_ok0))) tw_37 tw_2 tw_35 tw_36 rfl (by decide) rfl (Nat.le_of_ble_eq_true rfl) (Nat.le_of_ble_eq_true rfl) hl.1 (Nat.le_of_ble_eq_true rfl) d_H_init_21) (fun ad9 H locs cells slots hag hl_w8 S => ?_)
  have ha_v0 : ad9 v0 = a_v0 := (hag v0 (by omega)).trans ha_v0
  have ha_q7 : ad9 w4.1.length = a_q7 := (hag w4.1.length (by omega)).trans ha_q7
  obtain ⟨w11, hw11, h⟩ := hy_bd h
  refine hy_putF hi B S ha_v0 (by rw [hy_v_ref, ha_q7]) (hy_cvr (by omega)) hw11 rfl (Nat.le_of_ble_eq_true rfl) i_5 t_5 t_5_ok n_5 (j := 1) tw_164 (fun _ h => h) rfl rfl rfl rfl d_H_init_24 (fun H locs S hl_w11 => ?_)
  refine lv_aload_n hx hb d_H_init_27 rfl (lv_at hl 0 rfl) ?_
  obtain ⟨w12, hw12, h⟩ := hy_bd h
  refine hy_new B S hw12 rfl i_2 t_2 t_2_ok tw_33 tw_34 tw_2 hy_df2 hy_no2 d_H_init_28 (fun ad13 a_q14 H hag ha_q14 S hl_w12 => ?_)
  have ha_v0 : ad13 v0 = a_v0 := (hag v0 (by omega)).trans ha_v0
  refine lv_dup hx hb d_H_init_31 rfl ?_
  refine lv_sipush (v := 400) hx hb d_H_init_32 (by decide) ?_
  refine lv_iconst (v := 1) hx hb d_H_init_35 (by decide) ?_
  obtain ⟨w15, hq_w15, h⟩ := hy_bv_spec h
  refine hy_callv (hy_runI (rest := [.ref a_q14, .ref a_v0]) (As := [.int 400, .int 1]) (r := w11.1.length) (b := a_q14) B S rfl ha_q14 (by rfl) (c_N_init hl9 G ad13 hq_w15) (hy_okr (by omega) (hy_oki (hy_oki hy_ok0))) tw_37 tw_2 tw_35 tw_36 rfl (by decide) rfl (Nat.le_of_ble_eq_true rfl) (Nat.le_of_ble_eq_true rfl) hl.1 (Nat.le_of_ble_eq_true rfl) d_H_init_36) (fun ad16 H locs cells slots hag hl_w15 S => ?_)
  have ha_v0 : ad16 v0 = a_v0 := (hag v0 (by omega)).trans ha_v0
  have ha_q14 : ad16 w11.1.length = a_q14 := (hag w11.1.length (by omega)).trans ha_q14
  obtain ⟨w18, hw18, h⟩ := hy_bd h
  refine hy_putF hi B S ha_v0 (by rw [hy_v_ref, ha_q14]) (hy_cvr (by omega)) hw18 rfl (Nat.le_of_ble_eq_true rfl) i_5 t_5 t_5_ok n_5 (j := 2) tw_165 (fun _ h => h) rfl rfl rfl rfl d_H_init_39 (fun H locs S hl_w18 => ?_)
  refine lv_aload_n hx hb d_H_init_42 rfl (lv_at hl 0 rfl) ?_
  obtain ⟨w19, hw19, h⟩ := hy_bd h
  refine hy_new B S hw19 rfl i_0 t_0 t_0_ok tw_57 tw_58 tw_3 hy_df0 hy_no0 d_H_init_43 (fun ad20 a_q21 H hag ha_q21 S hl_w19 => ?_)
  have ha_v0 : ad20 v0 = a_v0 := (hag v0 (by omega)).trans ha_v0
  refine lv_dup hx hb d_H_init_46 rfl ?_
  obtain ⟨w22, hq_w22, h⟩ := hy_bv_spec h
  refine hy_callv (hy_runIN (host := "HyphenPatterns") (rest := [.ref a_q21, .ref a_v0]) (As := []) (r := w18.1.length) (b := a_q21) B S rfl ha_q21 (by rfl) (c_D_init hl9 G ad20 hq_w22) (hy_okr (by omega) hy_ok0) tw_61 tw_3 (by decide +kernel) tw_60 rfl (by decide) rfl (Nat.le_of_ble_eq_true rfl) (Nat.le_of_ble_eq_true rfl) hl.1 (Nat.le_of_ble_eq_true rfl) d_H_init_47) (fun ad23 H locs cells slots hag hl_w22 S => ?_)
  have ha_v0 : ad23 v0 = a_v0 := (hag v0 (by omega)).trans ha_v0
  have ha_q21 : ad23 w18.1.length = a_q21 := (hag w18.1.length (by omega)).trans ha_q21
  obtain ⟨w25, hw25, h⟩ := hy_bd h
  refine hy_putF hi B S ha_v0 (by rw [hy_v_ref, ha_q21]) (hy_cvr (by omega)) hw25 rfl (Nat.le_of_ble_eq_true rfl) i_5 t_5 t_5_ok n_5 (j := 3) tw_166 (fun _ h => h) rfl rfl rfl rfl d_H_init_50 (fun H locs S hl_w25 => ?_)
  refine lv_aload_n hx hb d_H_init_53 rfl (lv_at hl 0 rfl) ?_
  obtain ⟨w26, hw26, h⟩ := hy_bd h
  refine hy_new B S hw26 rfl i_3 t_3 t_3_ok tw_75 tw_76 tw_4 hy_df3 hy_no3 d_H_init_54 (fun ad27 a_q28 H hag ha_q28 S hl_w26 => ?_)
  have ha_v0 : ad27 v0 = a_v0 := (hag v0 (by omega)).trans ha_v0
  refine lv_dup hx hb d_H_init_57 rfl ?_
  obtain ⟨w29, hq_w29, h⟩ := hy_bv_spec h
  refine hy_callv (hy_runIN (host := "HyphenPatterns") (rest := [.ref a_q28, .ref a_v0]) (As := []) (r := w25.1.length) (b := a_q28) B S rfl ha_q28 (by rfl) (c_G_init hl9 G ad27 hq_w29) (hy_okr (by omega) hy_ok0) tw_79 tw_4 (by decide +kernel) tw_78 rfl (by decide) rfl (Nat.le_of_ble_eq_true rfl) (Nat.le_of_ble_eq_true rfl) hl.1 (Nat.le_of_ble_eq_true rfl) d_H_init_58) (fun ad30 H locs cells slots hag hl_w29 S => ?_)
  have ha_v0 : ad30 v0 = a_v0 := (hag v0 (by omega)).trans ha_v0
  have ha_q28 : ad30 w25.1.length = a_q28 := (hag w25.1.length (by omega)).trans ha_q28
  obtain ⟨w32, hw32, h⟩ := hy_bd h
  refine hy_putF hi B S ha_v0 (by rw [hy_v_ref, ha_q28]) (hy_cvr (by omega)) hw32 rfl (Nat.le_of_ble_eq_true rfl) i_5 t_5 t_5_ok n_5 (j := 4) tw_167 (fun _ h => h) rfl rfl rfl rfl d_H_init_61 (fun H locs S hl_w32 => ?_)
  refine lv_aload_n hx hb d_H_init_64 rfl (lv_at hl 0 rfl) ?_
  refine lv_iconst (v := 0) hx hb d_H_init_65 (by decide) ?_
  obtain ⟨w33, hw33, h⟩ := hy_bd h
  refine hy_put B S ha_v0 rfl hy_cvi hw33 rfl (Nat.le_of_ble_eq_true rfl) i_5 t_5 t_5_ok n_5 (j := 5) tw_168 (fun _ h => h) rfl rfl rfl d_H_init_66 (fun H locs S hl_w33 => ?_)
  refine lv_iconst (v := 0) hx hb d_H_init_69 (by decide) ?_
  refine lv_istore_n (lv' := [(1, .int 0), (0, .ref a_v0)]) hx hb d_H_init_70 rfl hl (Nat.le_of_ble_eq_true rfl) rfl (fun ls hl => ?_)
  cases h
  exact hy_jump K S (hy_okr (by omega) (hy_oki hy_ok0)) (lv_sub hl [1, 0] rfl) (by subst ha_v0; rfl) (by subst ha_v0; rfl)
set_option maxHeartbeats 4000000 in
set_option maxRecDepth 100000 in
theorem sk_H_init_71 {p : Program} {l : Launch} {e : Env} {s : State} {m : MethodId} {args : Array Value} {below : List Frame} {meth : Method} {c : Code} {G : hy_G} {A : Nat → Prop} {ad0 : Nat → Nat} {w0 : hy_W} {o : hy_O} (hl9 : l.flags = flags0) (hA : hy_A G ad0 w0 s.heap.size = A) (hi : meth.name = "<init>") (B : hy_B p l e (hy_rm 5 92 w0) s m args below meth c "HyphenPatterns" b_H_init 2 none [] G A) (v0 : Nat) (v1 : Int32) (w : hy_W) (nx : hy_N) (h : sg_H_init_71 v0 v1 w = some nx) (K : hy_Nx lay_H_init p l e (hy_rm 5 92 w0) s m args below meth c 2 G A ad0 w0.1.length (hy_Q below G ad0 w0 o args s) o nx) : hy_At lay_H_init p l e (hy_rm 5 92 w0) s m args below meth c 2 G A ad0 w0.1.length (hy_Q below G ad0 w0 o args s) (71, [.ref v0, .int v1], w) := by
  intro ad H locs cells slots ls S hok hl
  have hx := B.1
  have hb := B.2.1
  dsimp only at S hok
  have hl : lv_has ls 2 [(0, .ref (ad v0)), (1, .int v1)] := hl
  show W p l e (hy_rm 5 92 w0) s m args below meth c H locs cells slots (hy_Q below G ad0 w0 o args s) (F0 m 71 ls [])
  have hv_v0 : v0 < w.1.length := hok (.ref v0) (List.mem_of_getElem? (i := 0) rfl) v0 rfl
  obtain ⟨a_v0, ha_v0⟩ : ∃ a, ad v0 = a := ⟨_, rfl⟩
  rw [ha_v0] at hl
  unfold sg_H_init_71 at h
  refine lv_iload_n hx hb d_H_init_71 rfl (lv_at hl 1 rfl) ?_
  refine lv_iconst (v := 4) hx hb d_H_init_72 (by decide) ?_
  refine lv_icmp_ge (tgt := 95) hx hb d_H_init_73 (by decide) (fun c1 => ?_) (fun c1 => ?_)
  · rw [if_pos c1] at h
    cases h
    cases K
    exact hy_vret hA B S d_H_init_95
  · rw [if_neg c1] at h
    refine lv_aload_n hx hb d_H_init_76 rfl (lv_at hl 0 rfl) ?_
    obtain ⟨r2, hr2, h⟩ := hy_bd h
    refine hy_getr B S ha_v0 hr2 rfl (Nat.le_of_ble_eq_true rfl) i_5 (j := 0) tw_163 (fun _ h => h) d_H_init_77 (fun a_r2 ha_r2 hv_r2 => ?_)
    refine lv_iload_n hx hb d_H_init_80 rfl (lv_at hl 1 rfl) ?_
    obtain ⟨w3, hw3, h⟩ := hy_bd h
    refine hy_new B S hw3 rfl i_1 t_1 t_1_ok tw_31 tw_98 tw_5 hy_df1 hy_no1 d_H_init_81 (fun ad4 a_q5 H hag ha_q5 S hl_w3 => ?_)
    have ha_v0 : ad4 v0 = a_v0 := (hag v0 (by omega)).trans ha_v0
    have ha_r2 : ad4 r2 = a_r2 := (hag r2 (by omega)).trans ha_r2
    refine lv_dup hx hb d_H_init_84 rfl ?_
    obtain ⟨w6, hq_w6, h⟩ := hy_bv_spec h
    refine hy_callv (hy_runIN (host := "HyphenPatterns") (rest := [.ref a_q5, .int v1, .ref a_r2]) (As := []) (r := w.1.length) (b := a_q5) B S rfl ha_q5 (by rfl) (c_L_init hl9 G ad4 hq_w6) (hy_okr (by omega) hy_ok0) tw_101 tw_5 (by decide +kernel) tw_100 rfl (by decide) rfl (Nat.le_of_ble_eq_true rfl) (Nat.le_of_ble_eq_true rfl) hl.1 (Nat.le_of_ble_eq_true rfl) d_H_init_85) (fun ad7 H locs cells slots hag hl_w6 S => ?_)
    have ha_v0 : ad7 v0 = a_v0 := (hag v0 (by omega)).trans ha_v0
    have ha_q5 : ad7 w.1.length = a_q5 := (hag w.1.length (by omega)).trans ha_q5
    have ha_r2 : ad7 r2 = a_r2 := (hag r2 (by omega)).trans ha_r2
    obtain ⟨ob10, h⟩ := hy_if h
    obtain ⟨fs_ob10, hf_ob10, hg_ob10⟩ := hy_ob_spec ob10
    obtain ⟨w9, hw9, h⟩ := hy_bd h
    refine hy_aastS B S ha_r2 ha_q5 hw9 hf_ob10 hg_ob10 rfl (Nat.le_of_ble_eq_true rfl) rfl d_H_init_88 (fun H locs S hl_w9 => ?_)
    refine lv_iinc (v := (v1 + 1)) (lv' := [(1, .int (v1 + 1)), (0, .ref a_v0)]) hx hb d_H_init_89 hl (k := 1) rfl rfl (Nat.le_of_ble_eq_true rfl) rfl (fun ls hl => ?_)
    refine lv_goto (tgt := 71) hx hb d_H_init_92 (by decide) ?_
    cases h
    exact hy_jump K S (hy_okr (by omega) (hy_oki hy_ok0)) (lv_sub hl [1, 0] rfl) (by subst ha_v0; rfl) (by subst ha_v0; rfl)
theorem nk_H_init {p : Program} {l : Launch} {e : Env} {s : State} {m : MethodId} {args : Array Value} {below : List Frame} {meth : Method} {c : Code} {G : hy_G} {A : Nat → Prop} {ad0 : Nat → Nat} {w0 : hy_W} {o : hy_O} (hl9 : l.flags = flags0) (hA : hy_A G ad0 w0 s.heap.size = A) (hi : meth.name = "<init>") (B : hy_B p l e (hy_rm 5 92 w0) s m args below meth c "HyphenPatterns" b_H_init 2 none [] G A) (q : hy_P) (nx : hy_N) (hq : nx_H_init q = some nx) (K : hy_Nx lay_H_init p l e (hy_rm 5 92 w0) s m args below meth c 2 G A ad0 w0.1.length (hy_Q below G ad0 w0 o args s) o nx) : hy_At lay_H_init p l e (hy_rm 5 92 w0) s m args below meth c 2 G A ad0 w0.1.length (hy_Q below G ad0 w0 o args s) q := by
  unfold nx_H_init at hq
  split at hq
  · exact sk_H_init_0 hl9 hA hi B _ _ nx hq K
  · exact sk_H_init_71 hl9 hA hi B _ _ _ nx hq K
  · cases hq
theorem c_H_init {l : Launch} (hl9 : l.flags = flags0) (G : hy_G) (ad : Nat → Nat) {v0 : Nat} {w : hy_W} {o : hy_O} (h : f_H_init [.ref v0] w = some o) : hy_M l y_H_init (Cond.code y_H_init b_H_init 2 none :: hy_T) 5 92 G ad [.ref v0] w o := by
  obtain ⟨n, hn⟩ := hy_fx_iff.mp h
  refine hy_ofW hl9 (by decide +kernel) (Nat.le_of_ble_eq_true rfl) (fun p e s m args below meth c A hA hi B S hok ls hl => ?_)
  exact hy_loop (nk_H_init hl9 hA (hi rfl) B) n _ hn ad s.heap [] 0 0 ls S hok hl
theorem d_N_empty_0 : decode b_N_empty 0 = .ok (.aload_n 0, 1) := by decide +kernel
theorem d_N_empty_1 : decode b_N_empty 1 = .ok (.getfield 15, 3) := by decide +kernel
theorem d_N_empty_4 : decode b_N_empty 4 = .ok (.istore_n 1, 1) := by decide +kernel
theorem d_N_empty_5 : decode b_N_empty 5 = .ok (.aload_n 0, 1) := by decide +kernel
theorem d_N_empty_6 : decode b_N_empty 6 = .ok (.iconst 0, 1) := by decide +kernel
theorem d_N_empty_7 : decode b_N_empty 7 = .ok (.putfield 15, 3) := by decide +kernel
theorem d_N_empty_10 : decode b_N_empty 10 = .ok (.iload_n 1, 1) := by decide +kernel
theorem d_N_empty_11 : decode b_N_empty 11 = .ok (.ireturn, 1) := by decide +kernel
def lay_N_empty (pc : Nat) : List Nat := if pc = 0 then [0] else []
noncomputable def sg_N_empty_0 (v0 : Nat) (w : hy_W) : Option hy_N := (hy_gi w v0 2 3).bind fun x1 => (hy_pf w v0 2 3 (.int 0)).bind fun w2 => some (.inr (.inl (some (.int x1)), w2))
noncomputable def nx_N_empty (q : hy_P) : Option hy_N := match q with
  | (0, [.ref v0], w) => sg_N_empty_0 v0 w
  | _ => none
noncomputable def f_N_empty (av : List Value) (w : hy_W) : Option hy_O := hy_fx nx_N_empty (0, av, w)
set_option maxHeartbeats 4000000 in
set_option maxRecDepth 100000 in
theorem sk_N_empty_0 {p : Program} {l : Launch} {e : Env} {s : State} {m : MethodId} {args : Array Value} {below : List Frame} {meth : Method} {c : Code} {G : hy_G} {A : Nat → Prop} {ad0 : Nat → Nat} {w0 : hy_W} {o : hy_O} (hl9 : l.flags = flags0) (hA : hy_A G ad0 w0 s.heap.size = A) (B : hy_B p l e (hy_rm 0 0 w0) s m args below meth c "HyphenPatterns$Numbers" b_N_empty 2 (some .int) [] G A) (v0 : Nat) (w : hy_W) (nx : hy_N) (h : sg_N_empty_0 v0 w = some nx) (K : hy_Nx lay_N_empty p l e (hy_rm 0 0 w0) s m args below meth c 2 G A ad0 w0.1.length (hy_Q below G ad0 w0 o args s) o nx) : hy_At lay_N_empty p l e (hy_rm 0 0 w0) s m args below meth c 2 G A ad0 w0.1.length (hy_Q below G ad0 w0 o args s) (0, [.ref v0], w) := by
  intro ad H locs cells slots ls S hok hl
  have hx := B.1
  have hb := B.2.1
  dsimp only at S hok
  have hl : lv_has ls 2 [(0, .ref (ad v0))] := hl
  show W p l e (hy_rm 0 0 w0) s m args below meth c H locs cells slots (hy_Q below G ad0 w0 o args s) (F0 m 0 ls [])
  have hv_v0 : v0 < w.1.length := hok (.ref v0) (List.mem_of_getElem? (i := 0) rfl) v0 rfl
  obtain ⟨a_v0, ha_v0⟩ : ∃ a, ad v0 = a := ⟨_, rfl⟩
  rw [ha_v0] at hl
  unfold sg_N_empty_0 at h
  refine lv_aload_n hx hb d_N_empty_0 rfl (lv_at hl 0 rfl) ?_
  obtain ⟨x1, hx1, h⟩ := hy_bd h
  refine hy_geti B S ha_v0 hx1 rfl (Nat.le_of_ble_eq_true rfl) i_2 (j := 3) tw_44 (fun _ h => h) d_N_empty_1 ?_
  refine lv_istore_n (lv' := [(1, .int x1), (0, .ref a_v0)]) hx hb d_N_empty_4 rfl hl (Nat.le_of_ble_eq_true rfl) rfl (fun ls hl => ?_)
  refine lv_aload_n hx hb d_N_empty_5 rfl (lv_at hl 1 rfl) ?_
  refine lv_iconst (v := 0) hx hb d_N_empty_6 (by decide) ?_
  obtain ⟨w2, hw2, h⟩ := hy_bd h
  refine hy_put B S ha_v0 rfl hy_cvi hw2 rfl (Nat.le_of_ble_eq_true rfl) i_2 t_2 t_2_ok n_2 (j := 3) tw_44 (fun _ h => h) rfl rfl rfl d_N_empty_7 (fun H locs S hl_w2 => ?_)
  refine lv_iload_n hx hb d_N_empty_10 rfl (lv_at hl 0 rfl) ?_
  cases h
  cases K
  exact hy_iret hA B S d_N_empty_11
theorem nk_N_empty {p : Program} {l : Launch} {e : Env} {s : State} {m : MethodId} {args : Array Value} {below : List Frame} {meth : Method} {c : Code} {G : hy_G} {A : Nat → Prop} {ad0 : Nat → Nat} {w0 : hy_W} {o : hy_O} (hl9 : l.flags = flags0) (hA : hy_A G ad0 w0 s.heap.size = A) (B : hy_B p l e (hy_rm 0 0 w0) s m args below meth c "HyphenPatterns$Numbers" b_N_empty 2 (some .int) [] G A) (q : hy_P) (nx : hy_N) (hq : nx_N_empty q = some nx) (K : hy_Nx lay_N_empty p l e (hy_rm 0 0 w0) s m args below meth c 2 G A ad0 w0.1.length (hy_Q below G ad0 w0 o args s) o nx) : hy_At lay_N_empty p l e (hy_rm 0 0 w0) s m args below meth c 2 G A ad0 w0.1.length (hy_Q below G ad0 w0 o args s) q := by
  unfold nx_N_empty at hq
  split at hq
  · exact sk_N_empty_0 hl9 hA B _ _ nx hq K
  · cases hq
theorem c_N_empty {l : Launch} (hl9 : l.flags = flags0) (G : hy_G) (ad : Nat → Nat) {v0 : Nat} {w : hy_W} {o : hy_O} (h : f_N_empty [.ref v0] w = some o) : hy_M l y_N_empty (Cond.code y_N_empty b_N_empty 2 (some .int) :: hy_T) 0 0 G ad [.ref v0] w o := by
  obtain ⟨n, hn⟩ := hy_fx_iff.mp h
  refine hy_ofW hl9 (by decide +kernel) (Nat.le_of_ble_eq_true rfl) (fun p e s m args below meth c A hA hi B S hok ls hl => ?_)
  exact hy_loop (nk_N_empty hl9 hA B) n _ hn ad s.heap [] 0 0 ls S hok hl
theorem d_H_drop_0 : decode b_H_drop 0 = .ok (.aload_n 0, 1) := by decide +kernel
theorem d_H_drop_1 : decode b_H_drop 1 = .ok (.getfield 20, 3) := by decide +kernel
theorem d_H_drop_4 : decode b_H_drop 4 = .ok (.invokevirtual 89, 3) := by decide +kernel
theorem d_H_drop_7 : decode b_H_drop 7 = .ok (.ireturn, 1) := by decide +kernel
def lay_H_drop (pc : Nat) : List Nat := if pc = 0 then [0] else []
noncomputable def sg_H_drop_0 (v0 : Nat) (w : hy_W) : Option hy_N := (hy_gr w v0 5 1).bind fun r1 => if hy_ob w r1 2 = true then hy_bi (f_N_empty [.ref r1] w) fun x4 w2 => some (.inr (.inl (some (.int x4)), w2)) else none
noncomputable def nx_H_drop (q : hy_P) : Option hy_N := match q with
  | (0, [.ref v0], w) => sg_H_drop_0 v0 w
  | _ => none
noncomputable def f_H_drop (av : List Value) (w : hy_W) : Option hy_O := hy_fx nx_H_drop (0, av, w)
set_option maxHeartbeats 4000000 in
set_option maxRecDepth 100000 in
theorem sk_H_drop_0 {p : Program} {l : Launch} {e : Env} {s : State} {m : MethodId} {args : Array Value} {below : List Frame} {meth : Method} {c : Code} {G : hy_G} {A : Nat → Prop} {ad0 : Nat → Nat} {w0 : hy_W} {o : hy_O} (hl9 : l.flags = flags0) (hA : hy_A G ad0 w0 s.heap.size = A) (B : hy_B p l e (hy_rm 1 21 w0) s m args below meth c "HyphenPatterns" b_H_drop 1 (some .int) [] G A) (v0 : Nat) (w : hy_W) (nx : hy_N) (h : sg_H_drop_0 v0 w = some nx) (K : hy_Nx lay_H_drop p l e (hy_rm 1 21 w0) s m args below meth c 1 G A ad0 w0.1.length (hy_Q below G ad0 w0 o args s) o nx) : hy_At lay_H_drop p l e (hy_rm 1 21 w0) s m args below meth c 1 G A ad0 w0.1.length (hy_Q below G ad0 w0 o args s) (0, [.ref v0], w) := by
  intro ad H locs cells slots ls S hok hl
  have hx := B.1
  have hb := B.2.1
  dsimp only at S hok
  have hl : lv_has ls 1 [(0, .ref (ad v0))] := hl
  show W p l e (hy_rm 1 21 w0) s m args below meth c H locs cells slots (hy_Q below G ad0 w0 o args s) (F0 m 0 ls [])
  have hv_v0 : v0 < w.1.length := hok (.ref v0) (List.mem_of_getElem? (i := 0) rfl) v0 rfl
  obtain ⟨a_v0, ha_v0⟩ : ∃ a, ad v0 = a := ⟨_, rfl⟩
  rw [ha_v0] at hl
  unfold sg_H_drop_0 at h
  refine lv_aload_n hx hb d_H_drop_0 rfl (lv_at hl 0 rfl) ?_
  obtain ⟨r1, hr1, h⟩ := hy_bd h
  refine hy_getr B S ha_v0 hr1 rfl (Nat.le_of_ble_eq_true rfl) i_5 (j := 1) tw_164 (fun _ h => h) d_H_drop_1 (fun a_r1 ha_r1 hv_r1 => ?_)
  obtain ⟨ob5, h⟩ := hy_if h
  obtain ⟨fs_ob5, hf_ob5, hg_ob5⟩ := hy_ob_spec ob5
  obtain ⟨x4, w2, hq_w2, h⟩ := hy_bi_spec h
  refine hy_calli (hy_runV (rest := []) (As := []) (r := r1) (b := a_r1) B S rfl ha_r1 (by rfl) (c_N_empty hl9 G ad hq_w2) (hy_okr (by omega) hy_ok0) tw_189 tw_2 tw_186 tw_187 sl_N_empty (by decide) rfl (Nat.le_of_ble_eq_true rfl) (Nat.le_of_ble_eq_true rfl) hf_ob5 hg_ob5 rfl hl.1 (Nat.le_of_ble_eq_true rfl) d_H_drop_4) (fun ad3 H locs cells slots hag hl_w2 S => ?_)
  have ha_v0 : ad3 v0 = a_v0 := (hag v0 (by omega)).trans ha_v0
  cases h
  cases K
  exact hy_iret hA B S d_H_drop_7
theorem nk_H_drop {p : Program} {l : Launch} {e : Env} {s : State} {m : MethodId} {args : Array Value} {below : List Frame} {meth : Method} {c : Code} {G : hy_G} {A : Nat → Prop} {ad0 : Nat → Nat} {w0 : hy_W} {o : hy_O} (hl9 : l.flags = flags0) (hA : hy_A G ad0 w0 s.heap.size = A) (B : hy_B p l e (hy_rm 1 21 w0) s m args below meth c "HyphenPatterns" b_H_drop 1 (some .int) [] G A) (q : hy_P) (nx : hy_N) (hq : nx_H_drop q = some nx) (K : hy_Nx lay_H_drop p l e (hy_rm 1 21 w0) s m args below meth c 1 G A ad0 w0.1.length (hy_Q below G ad0 w0 o args s) o nx) : hy_At lay_H_drop p l e (hy_rm 1 21 w0) s m args below meth c 1 G A ad0 w0.1.length (hy_Q below G ad0 w0 o args s) q := by
  unfold nx_H_drop at hq
  split at hq
  · exact sk_H_drop_0 hl9 hA B _ _ nx hq K
  · cases hq
theorem c_H_drop {l : Launch} (hl9 : l.flags = flags0) (G : hy_G) (ad : Nat → Nat) {v0 : Nat} {w : hy_W} {o : hy_O} (h : f_H_drop [.ref v0] w = some o) : hy_M l y_H_drop (Cond.code y_H_drop b_H_drop 1 (some .int) :: hy_T) 1 21 G ad [.ref v0] w o := by
  obtain ⟨n, hn⟩ := hy_fx_iff.mp h
  refine hy_ofW hl9 (by decide +kernel) (Nat.le_of_ble_eq_true rfl) (fun p e s m args below meth c A hA hi B S hok ls hl => ?_)
  exact hy_loop (nk_H_drop hl9 hA B) n _ hn ad s.heap [] 0 0 ls S hok hl
theorem d_A_size_0 : decode b_A_size 0 = .ok (.aload_n 0, 1) := by decide +kernel
theorem d_A_size_1 : decode b_A_size 1 = .ok (.getfield 48, 3) := by decide +kernel
theorem d_A_size_4 : decode b_A_size 4 = .ok (.ireturn, 1) := by decide +kernel
def lay_A_size (pc : Nat) : List Nat := if pc = 0 then [0] else []
noncomputable def sg_A_size_0 (v0 : Nat) (w : hy_W) : Option hy_N := (hy_gi w v0 7 1).bind fun x1 => some (.inr (.inl (some (.int x1)), w))
noncomputable def nx_A_size (q : hy_P) : Option hy_N := match q with
  | (0, [.ref v0], w) => sg_A_size_0 v0 w
  | _ => none
noncomputable def f_A_size (av : List Value) (w : hy_W) : Option hy_O := hy_fx nx_A_size (0, av, w)
set_option maxHeartbeats 4000000 in
set_option maxRecDepth 100000 in
theorem sk_A_size_0 {p : Program} {l : Launch} {e : Env} {s : State} {m : MethodId} {args : Array Value} {below : List Frame} {meth : Method} {c : Code} {G : hy_G} {A : Nat → Prop} {ad0 : Nat → Nat} {w0 : hy_W} {o : hy_O} (hl9 : l.flags = flags0) (hA : hy_A G ad0 w0 s.heap.size = A) (B : hy_B p l e (hy_rm 0 0 w0) s m args below meth c "java/util/ArrayList" b_A_size 1 (some .int) [] G A) (v0 : Nat) (w : hy_W) (nx : hy_N) (h : sg_A_size_0 v0 w = some nx) (K : hy_Nx lay_A_size p l e (hy_rm 0 0 w0) s m args below meth c 1 G A ad0 w0.1.length (hy_Q below G ad0 w0 o args s) o nx) : hy_At lay_A_size p l e (hy_rm 0 0 w0) s m args below meth c 1 G A ad0 w0.1.length (hy_Q below G ad0 w0 o args s) (0, [.ref v0], w) := by
  intro ad H locs cells slots ls S hok hl
  have hx := B.1
  have hb := B.2.1
  dsimp only at S hok
  have hl : lv_has ls 1 [(0, .ref (ad v0))] := hl
  show W p l e (hy_rm 0 0 w0) s m args below meth c H locs cells slots (hy_Q below G ad0 w0 o args s) (F0 m 0 ls [])
  have hv_v0 : v0 < w.1.length := hok (.ref v0) (List.mem_of_getElem? (i := 0) rfl) v0 rfl
  obtain ⟨a_v0, ha_v0⟩ : ∃ a, ad v0 = a := ⟨_, rfl⟩
  rw [ha_v0] at hl
  unfold sg_A_size_0 at h
  refine lv_aload_n hx hb d_A_size_0 rfl (lv_at hl 0 rfl) ?_
  obtain ⟨x1, hx1, h⟩ := hy_bd h
  refine hy_geti B S ha_v0 hx1 rfl (Nat.le_of_ble_eq_true rfl) i_7 (j := 1) tw_118 (fun _ h => h) d_A_size_1 ?_
  cases h
  cases K
  exact hy_iret hA B S d_A_size_4
theorem nk_A_size {p : Program} {l : Launch} {e : Env} {s : State} {m : MethodId} {args : Array Value} {below : List Frame} {meth : Method} {c : Code} {G : hy_G} {A : Nat → Prop} {ad0 : Nat → Nat} {w0 : hy_W} {o : hy_O} (hl9 : l.flags = flags0) (hA : hy_A G ad0 w0 s.heap.size = A) (B : hy_B p l e (hy_rm 0 0 w0) s m args below meth c "java/util/ArrayList" b_A_size 1 (some .int) [] G A) (q : hy_P) (nx : hy_N) (hq : nx_A_size q = some nx) (K : hy_Nx lay_A_size p l e (hy_rm 0 0 w0) s m args below meth c 1 G A ad0 w0.1.length (hy_Q below G ad0 w0 o args s) o nx) : hy_At lay_A_size p l e (hy_rm 0 0 w0) s m args below meth c 1 G A ad0 w0.1.length (hy_Q below G ad0 w0 o args s) q := by
  unfold nx_A_size at hq
  split at hq
  · exact sk_A_size_0 hl9 hA B _ _ nx hq K
  · cases hq
theorem c_A_size {l : Launch} (hl9 : l.flags = flags0) (G : hy_G) (ad : Nat → Nat) {v0 : Nat} {w : hy_W} {o : hy_O} (h : f_A_size [.ref v0] w = some o) : hy_M l y_A_size (Cond.code y_A_size b_A_size 1 (some .int) :: hy_T) 0 0 G ad [.ref v0] w o := by
  obtain ⟨n, hn⟩ := hy_fx_iff.mp h
  refine hy_ofW hl9 (by decide +kernel) (Nat.le_of_ble_eq_true rfl) (fun p e s m args below meth c A hA hi B S hok ls hl => ?_)
  exact hy_loop (nk_A_size hl9 hA B) n _ hn ad s.heap [] 0 0 ls S hok hl
theorem d_A_clear_0 : decode b_A_clear 0 = .ok (.aload_n 0, 1) := by decide +kernel
theorem d_A_clear_1 : decode b_A_clear 1 = .ok (.dup, 1) := by decide +kernel
theorem d_A_clear_2 : decode b_A_clear 2 = .ok (.getfield 63, 3) := by decide +kernel
theorem d_A_clear_5 : decode b_A_clear 5 = .ok (.iconst 1, 1) := by decide +kernel
theorem d_A_clear_6 : decode b_A_clear 6 = .ok (.iadd, 1) := by decide +kernel
theorem d_A_clear_7 : decode b_A_clear 7 = .ok (.putfield 63, 3) := by decide +kernel
theorem d_A_clear_10 : decode b_A_clear 10 = .ok (.aload_n 0, 1) := by decide +kernel
theorem d_A_clear_11 : decode b_A_clear 11 = .ok (.getfield 9, 3) := by decide +kernel
theorem d_A_clear_14 : decode b_A_clear 14 = .ok (.astore_n 1, 1) := by decide +kernel
theorem d_A_clear_15 : decode b_A_clear 15 = .ok (.aload_n 0, 1) := by decide +kernel
theorem d_A_clear_16 : decode b_A_clear 16 = .ok (.getfield 48, 3) := by decide +kernel
theorem d_A_clear_19 : decode b_A_clear 19 = .ok (.istore_n 2, 1) := by decide +kernel
theorem d_A_clear_20 : decode b_A_clear 20 = .ok (.aload_n 0, 1) := by decide +kernel
theorem d_A_clear_21 : decode b_A_clear 21 = .ok (.iconst 0, 1) := by decide +kernel
theorem d_A_clear_22 : decode b_A_clear 22 = .ok (.dup_x1, 1) := by decide +kernel
theorem d_A_clear_23 : decode b_A_clear 23 = .ok (.putfield 48, 3) := by decide +kernel
theorem d_A_clear_26 : decode b_A_clear 26 = .ok (.istore_n 3, 1) := by decide +kernel
theorem d_A_clear_27 : decode b_A_clear 27 = .ok (.iload_n 3, 1) := by decide +kernel
theorem d_A_clear_28 : decode b_A_clear 28 = .ok (.iload_n 2, 1) := by decide +kernel
theorem d_A_clear_29 : decode b_A_clear 29 = .ok (.if_icmp .ge 13, 3) := by decide +kernel
theorem d_A_clear_32 : decode b_A_clear 32 = .ok (.aload_n 1, 1) := by decide +kernel
theorem d_A_clear_33 : decode b_A_clear 33 = .ok (.iload_n 3, 1) := by decide +kernel
theorem d_A_clear_34 : decode b_A_clear 34 = .ok (.aconst_null, 1) := by decide +kernel
theorem d_A_clear_35 : decode b_A_clear 35 = .ok (.aastore, 1) := by decide +kernel
theorem d_A_clear_36 : decode b_A_clear 36 = .ok (.iinc 3 1, 3) := by decide +kernel
theorem d_A_clear_39 : decode b_A_clear 39 = .ok (.goto (-12), 3) := by decide +kernel
theorem d_A_clear_42 : decode b_A_clear 42 = .ok (.return_, 1) := by decide +kernel
def lay_A_clear (pc : Nat) : List Nat := if pc = 0 then [0] else if pc = 27 then [1, 2, 3] else []
noncomputable def sg_A_clear_0 (v0 : Nat) (w : hy_W) : Option hy_N := (hy_gi w v0 7 2).bind fun x1 => (hy_pf w v0 7 2 (.int (x1 + 1))).bind fun w2 => (hy_gr w2 v0 7 0).bind fun r3 => (hy_gi w2 v0 7 1).bind fun x4 => (hy_pf w2 v0 7 1 (.int 0)).bind fun w5 => some (.inl (27, [.ref r3, .int x4, .int 0], w5))
noncomputable def sg_A_clear_27 (v1 : Nat) (v2 : Int32) (v3 : Int32) (w : hy_W) : Option hy_N := if v2 ≤ v3 then (some (.inr (.inl none, w))) else ((hy_pa w 3 v1 v3 .null).bind fun w2 => some (.inl (27, [.ref v1, .int v2, .int (v3 + 1)], w2)))
noncomputable def nx_A_clear (q : hy_P) : Option hy_N := match q with
  | (0, [.ref v0], w) => sg_A_clear_0 v0 w
  | (27, [.ref v1, .int v2, .int v3], w) => sg_A_clear_27 v1 v2 v3 w
  | _ => none
noncomputable def f_A_clear (av : List Value) (w : hy_W) : Option hy_O := hy_fx nx_A_clear (0, av, w)
set_option maxHeartbeats 4000000 in
set_option maxRecDepth 100000 in
theorem sk_A_clear_0 {p : Program} {l : Launch} {e : Env} {s : State} {m : MethodId} {args : Array Value} {below : List Frame} {meth : Method} {c : Code} {G : hy_G} {A : Nat → Prop} {ad0 : Nat → Nat} {w0 : hy_W} {o : hy_O} (hl9 : l.flags = flags0) (hA : hy_A G ad0 w0 s.heap.size = A) (B : hy_B p l e (hy_rm 0 0 w0) s m args below meth c "java/util/ArrayList" b_A_clear 4 none [] G A) (v0 : Nat) (w : hy_W) (nx : hy_N) (h : sg_A_clear_0 v0 w = some nx) (K : hy_Nx lay_A_clear p l e (hy_rm 0 0 w0) s m args below meth c 4 G A ad0 w0.1.length (hy_Q below G ad0 w0 o args s) o nx) : hy_At lay_A_clear p l e (hy_rm 0 0 w0) s m args below meth c 4 G A ad0 w0.1.length (hy_Q below G ad0 w0 o args s) (0, [.ref v0], w) := by
  intro ad H locs cells slots ls S hok hl
  have hx := B.1
  have hb := B.2.1
  dsimp only at S hok
  have hl : lv_has ls 4 [(0, .ref (ad v0))] := hl
  show W p l e (hy_rm 0 0 w0) s m args below meth c H locs cells slots (hy_Q below G ad0 w0 o args s) (F0 m 0 ls [])
  have hv_v0 : v0 < w.1.length := hok (.ref v0) (List.mem_of_getElem? (i := 0) rfl) v0 rfl
  obtain ⟨a_v0, ha_v0⟩ : ∃ a, ad v0 = a := ⟨_, rfl⟩
  rw [ha_v0] at hl
  unfold sg_A_clear_0 at h
  refine lv_aload_n hx hb d_A_clear_0 rfl (lv_at hl 0 rfl) ?_
  refine lv_dup hx hb d_A_clear_1 rfl ?_
  obtain ⟨x1, hx1, h⟩ := hy_bd h
  refine hy_geti B S ha_v0 hx1 rfl (Nat.le_of_ble_eq_true rfl) i_7 (j := 2) tw_120 (fun x h => u_same (B.2.2.2.2.1 _ tw_121) x h) d_A_clear_2 ?_
  refine lv_iconst (v := 1) hx hb d_A_clear_5 (by decide) ?_
  refine lv_iadd hx hb d_A_clear_6 ?_
  obtain ⟨w2, hw2, h⟩ := hy_bd h
  refine hy_put B S ha_v0 rfl hy_cvi hw2 rfl (Nat.le_of_ble_eq_true rfl) i_7 t_7 t_7_ok n_7 (j := 2) tw_120 (fun x h => u_same (B.2.2.2.2.1 _ tw_121) x h) rfl rfl rfl d_A_clear_7 (fun H locs S hl_w2 => ?_)
  refine lv_aload_n hx hb d_A_clear_10 rfl (lv_at hl 0 rfl) ?_
  obtain ⟨r3, hr3, h⟩ := hy_bd h
  refine hy_getr B S ha_v0 hr3 rfl (Nat.le_of_ble_eq_true rfl) i_7 (j := 0) tw_117 (fun _ h => h) d_A_clear_11 (fun a_r3 ha_r3 hv_r3 => ?_)
  refine lv_astore_n (lv' := [(1, .ref a_r3), (0, .ref a_v0)]) hx hb d_A_clear_14 rfl hl (Nat.le_of_ble_eq_true rfl) rfl (fun ls hl => ?_)
  refine lv_aload_n hx hb d_A_clear_15 rfl (lv_at hl 1 rfl) ?_
  obtain ⟨x4, hx4, h⟩ := hy_bd h
  refine hy_geti B S ha_v0 hx4 rfl (Nat.le_of_ble_eq_true rfl) i_7 (j := 1) tw_118 (fun _ h => h) d_A_clear_16 ?_
  refine lv_istore_n (lv' := [(2, .int x4), (1, .ref a_r3), (0, .ref a_v0)]) hx hb d_A_clear_19 rfl hl (Nat.le_of_ble_eq_true rfl) rfl (fun ls hl => ?_)
  refine lv_aload_n hx hb d_A_clear_20 rfl (lv_at hl 2 rfl) ?_
  refine lv_iconst (v := 0) hx hb d_A_clear_21 (by decide) ?_
  refine lv_dup_x1 hx hb d_A_clear_22 rfl rfl ?_
  obtain ⟨w5, hw5, h⟩ := hy_bd h
  refine hy_put B S ha_v0 rfl hy_cvi hw5 rfl (Nat.le_of_ble_eq_true rfl) i_7 t_7 t_7_ok n_7 (j := 1) tw_118 (fun _ h => h) rfl rfl rfl d_A_clear_23 (fun H locs S hl_w5 => ?_)
  refine lv_istore_n (lv' := [(3, .int 0), (2, .int x4), (1, .ref a_r3), (0, .ref a_v0)]) hx hb d_A_clear_26 rfl hl (Nat.le_of_ble_eq_true rfl) rfl (fun ls hl => ?_)
  cases h
  exact hy_jump K S (hy_okr (by omega) (hy_oki (hy_oki hy_ok0))) (lv_sub hl [2, 1, 0] rfl) (by subst ha_r3; rfl) (by subst ha_r3; rfl)
set_option maxHeartbeats 4000000 in
set_option maxRecDepth 100000 in
theorem sk_A_clear_27 {p : Program} {l : Launch} {e : Env} {s : State} {m : MethodId} {args : Array Value} {below : List Frame} {meth : Method} {c : Code} {G : hy_G} {A : Nat → Prop} {ad0 : Nat → Nat} {w0 : hy_W} {o : hy_O} (hl9 : l.flags = flags0) (hA : hy_A G ad0 w0 s.heap.size = A) (B : hy_B p l e (hy_rm 0 0 w0) s m args below meth c "java/util/ArrayList" b_A_clear 4 none [] G A) (v1 : Nat) (v2 : Int32) (v3 : Int32) (w : hy_W) (nx : hy_N) (h : sg_A_clear_27 v1 v2 v3 w = some nx) (K : hy_Nx lay_A_clear p l e (hy_rm 0 0 w0) s m args below meth c 4 G A ad0 w0.1.length (hy_Q below G ad0 w0 o args s) o nx) : hy_At lay_A_clear p l e (hy_rm 0 0 w0) s m args below meth c 4 G A ad0 w0.1.length (hy_Q below G ad0 w0 o args s) (27, [.ref v1, .int v2, .int v3], w) := by
  intro ad H locs cells slots ls S hok hl
  have hx := B.1
  have hb := B.2.1
  dsimp only at S hok
  have hl : lv_has ls 4 [(1, .ref (ad v1)), (2, .int v2), (3, .int v3)] := hl
  show W p l e (hy_rm 0 0 w0) s m args below meth c H locs cells slots (hy_Q below G ad0 w0 o args s) (F0 m 27 ls [])
  have hv_v1 : v1 < w.1.length := hok (.ref v1) (List.mem_of_getElem? (i := 0) rfl) v1 rfl
  obtain ⟨a_v1, ha_v1⟩ : ∃ a, ad v1 = a := ⟨_, rfl⟩
  rw [ha_v1] at hl
  unfold sg_A_clear_27 at h
  refine lv_iload_n hx hb d_A_clear_27 rfl (lv_at hl 2 rfl) ?_
  refine lv_iload_n hx hb d_A_clear_28 rfl (lv_at hl 1 rfl) ?_
  refine lv_icmp_ge (tgt := 42) hx hb d_A_clear_29 (by decide) (fun c1 => ?_) (fun c1 => ?_)
  · rw [if_pos c1] at h
    cases h
    cases K
    exact hy_vret hA B S d_A_clear_42
  · rw [if_neg c1] at h
    refine lv_aload_n hx hb d_A_clear_32 rfl (lv_at hl 0 rfl) ?_
    refine lv_iload_n hx hb d_A_clear_33 rfl (lv_at hl 2 rfl) ?_
    refine lv_null hx hb d_A_clear_34 ?_
    obtain ⟨w2, hw2, h⟩ := hy_bd h
    refine hy_aastN B S ha_v1 (Or.inr rfl) hw2 d_A_clear_35 (fun H locs S hl_w2 => ?_)
    refine lv_iinc (v := (v3 + 1)) (lv' := [(3, .int (v3 + 1)), (1, .ref a_v1), (2, .int v2)]) hx hb d_A_clear_36 hl (k := 2) rfl rfl (Nat.le_of_ble_eq_true rfl) rfl (fun ls hl => ?_)
    refine lv_goto (tgt := 27) hx hb d_A_clear_39 (by decide) ?_
    cases h
    exact hy_jump K S (hy_okr (by omega) (hy_oki (hy_oki hy_ok0))) (lv_sub hl [1, 2, 0] rfl) (by subst ha_v1; rfl) (by subst ha_v1; rfl)
theorem nk_A_clear {p : Program} {l : Launch} {e : Env} {s : State} {m : MethodId} {args : Array Value} {below : List Frame} {meth : Method} {c : Code} {G : hy_G} {A : Nat → Prop} {ad0 : Nat → Nat} {w0 : hy_W} {o : hy_O} (hl9 : l.flags = flags0) (hA : hy_A G ad0 w0 s.heap.size = A) (B : hy_B p l e (hy_rm 0 0 w0) s m args below meth c "java/util/ArrayList" b_A_clear 4 none [] G A) (q : hy_P) (nx : hy_N) (hq : nx_A_clear q = some nx) (K : hy_Nx lay_A_clear p l e (hy_rm 0 0 w0) s m args below meth c 4 G A ad0 w0.1.length (hy_Q below G ad0 w0 o args s) o nx) : hy_At lay_A_clear p l e (hy_rm 0 0 w0) s m args below meth c 4 G A ad0 w0.1.length (hy_Q below G ad0 w0 o args s) q := by
  unfold nx_A_clear at hq
  split at hq
  · exact sk_A_clear_0 hl9 hA B _ _ nx hq K
  · exact sk_A_clear_27 hl9 hA B _ _ _ _ nx hq K
  · cases hq
theorem c_A_clear {l : Launch} (hl9 : l.flags = flags0) (G : hy_G) (ad : Nat → Nat) {v0 : Nat} {w : hy_W} {o : hy_O} (h : f_A_clear [.ref v0] w = some o) : hy_M l y_A_clear (Cond.code y_A_clear b_A_clear 4 none :: hy_T) 0 0 G ad [.ref v0] w o := by
  obtain ⟨n, hn⟩ := hy_fx_iff.mp h
  refine hy_ofW hl9 (by decide +kernel) (Nat.le_of_ble_eq_true rfl) (fun p e s m args below meth c A hA hi B S hok ls hl => ?_)
  exact hy_loop (nk_A_clear hl9 hA B) n _ hn ad s.heap [] 0 0 ls S hok hl
theorem d_H_forget_0 : decode b_H_forget 0 = .ok (.aload_n 0, 1) := by decide +kernel
theorem d_H_forget_1 : decode b_H_forget 1 = .ok (.getfield 11, 3) := by decide +kernel
theorem d_H_forget_4 : decode b_H_forget 4 = .ok (.aload_n 0, 1) := by decide +kernel
theorem d_H_forget_5 : decode b_H_forget 5 = .ok (.getfield 41, 3) := by decide +kernel
theorem d_H_forget_8 : decode b_H_forget 8 = .ok (.aaload, 1) := by decide +kernel
theorem d_H_forget_9 : decode b_H_forget 9 = .ok (.astore_n 1, 1) := by decide +kernel
theorem d_H_forget_10 : decode b_H_forget 10 = .ok (.aload_n 1, 1) := by decide +kernel
theorem d_H_forget_11 : decode b_H_forget 11 = .ok (.getfield 99, 3) := by decide +kernel
theorem d_H_forget_14 : decode b_H_forget 14 = .ok (.invokevirtual 121, 3) := by decide +kernel
theorem d_H_forget_17 : decode b_H_forget 17 = .ok (.aload_n 1, 1) := by decide +kernel
theorem d_H_forget_18 : decode b_H_forget 18 = .ok (.getfield 115, 3) := by decide +kernel
theorem d_H_forget_21 : decode b_H_forget 21 = .ok (.invokevirtual 121, 3) := by decide +kernel
theorem d_H_forget_24 : decode b_H_forget 24 = .ok (.iadd, 1) := by decide +kernel
theorem d_H_forget_25 : decode b_H_forget 25 = .ok (.istore_n 2, 1) := by decide +kernel
theorem d_H_forget_26 : decode b_H_forget 26 = .ok (.aload_n 1, 1) := by decide +kernel
theorem d_H_forget_27 : decode b_H_forget 27 = .ok (.getfield 99, 3) := by decide +kernel
theorem d_H_forget_30 : decode b_H_forget 30 = .ok (.invokevirtual 126, 3) := by decide +kernel
theorem d_H_forget_33 : decode b_H_forget 33 = .ok (.aload_n 1, 1) := by decide +kernel
theorem d_H_forget_34 : decode b_H_forget 34 = .ok (.getfield 115, 3) := by decide +kernel
theorem d_H_forget_37 : decode b_H_forget 37 = .ok (.invokevirtual 126, 3) := by decide +kernel
theorem d_H_forget_40 : decode b_H_forget 40 = .ok (.iload_n 2, 1) := by decide +kernel
theorem d_H_forget_41 : decode b_H_forget 41 = .ok (.ireturn, 1) := by decide +kernel
def lay_H_forget (pc : Nat) : List Nat := if pc = 0 then [0] else []
noncomputable def sg_H_forget_0 (v0 : Nat) (w : hy_W) : Option hy_N := (hy_gr w v0 5 0).bind fun r1 => (hy_gi w v0 5 5).bind fun x2 => (hy_ar w 2 r1 x2).bind fun r3 => (hy_gr w r3 1 3).bind fun r4 => if hy_ob w r4 7 = true then hy_bi (f_A_size [.ref r4] w) fun x7 w5 => (hy_gr w5 r3 1 4).bind fun r9 => if hy_ob w5 r9 7 = true then hy_bi (f_A_size [.ref r9] w5) fun x12 w10 => (hy_gr w10 r3 1 3).bind fun r14 => if hy_ob w10 r14 7 = true then hy_bv (f_A_clear [.ref r14] w10) fun w15 => (hy_gr w15 r3 1 4).bind fun r19 => if hy_ob w15 r19 7 = true then hy_bv (f_A_clear [.ref r19] w15) fun w20 => some (.inr (.inl (some (.int (x7 + x12))), w20)) else none else none else none else none
noncomputable def nx_H_forget (q : hy_P) : Option hy_N := match q with
  | (0, [.ref v0], w) => sg_H_forget_0 v0 w
  | _ => none
noncomputable def f_H_forget (av : List Value) (w : hy_W) : Option hy_O := hy_fx nx_H_forget (0, av, w)
set_option maxHeartbeats 4000000 in
set_option maxRecDepth 100000 in
theorem sk_H_forget_0 {p : Program} {l : Launch} {e : Env} {s : State} {m : MethodId} {args : Array Value} {below : List Frame} {meth : Method} {c : Code} {G : hy_G} {A : Nat → Prop} {ad0 : Nat → Nat} {w0 : hy_W} {o : hy_O} (hl9 : l.flags = flags0) (hA : hy_A G ad0 w0 s.heap.size = A) (B : hy_B p l e (hy_rm 1 23 w0) s m args below meth c "HyphenPatterns" b_H_forget 3 (some .int) [] G A) (v0 : Nat) (w : hy_W) (nx : hy_N) (h : sg_H_forget_0 v0 w = some nx) (K : hy_Nx lay_H_forget p l e (hy_rm 1 23 w0) s m args below meth c 3 G A ad0 w0.1.length (hy_Q below G ad0 w0 o args s) o nx) : hy_At lay_H_forget p l e (hy_rm 1 23 w0) s m args below meth c 3 G A ad0 w0.1.length (hy_Q below G ad0 w0 o args s) (0, [.ref v0], w) := by
  intro ad H locs cells slots ls S hok hl
  have hx := B.1
  have hb := B.2.1
  dsimp only at S hok
  have hl : lv_has ls 3 [(0, .ref (ad v0))] := hl
  show W p l e (hy_rm 1 23 w0) s m args below meth c H locs cells slots (hy_Q below G ad0 w0 o args s) (F0 m 0 ls [])
  have hv_v0 : v0 < w.1.length := hok (.ref v0) (List.mem_of_getElem? (i := 0) rfl) v0 rfl
  obtain ⟨a_v0, ha_v0⟩ : ∃ a, ad v0 = a := ⟨_, rfl⟩
  rw [ha_v0] at hl
  unfold sg_H_forget_0 at h
  refine lv_aload_n hx hb d_H_forget_0 rfl (lv_at hl 0 rfl) ?_
  obtain ⟨r1, hr1, h⟩ := hy_bd h
  refine hy_getr B S ha_v0 hr1 rfl (Nat.le_of_ble_eq_true rfl) i_5 (j := 0) tw_163 (fun _ h => h) d_H_forget_1 (fun a_r1 ha_r1 hv_r1 => ?_)
  refine lv_aload_n hx hb d_H_forget_4 rfl (lv_at hl 0 rfl) ?_
  obtain ⟨x2, hx2, h⟩ := hy_bd h
  refine hy_geti B S ha_v0 hx2 rfl (Nat.le_of_ble_eq_true rfl) i_5 (j := 5) tw_168 (fun _ h => h) d_H_forget_5 ?_
  obtain ⟨r3, hr3, h⟩ := hy_bd h
  refine hy_aald B S ha_r1 (Or.inl rfl) hr3 d_H_forget_8 (fun a_r3 ha_r3 hv_r3 => ?_)
  refine lv_astore_n (lv' := [(1, .ref a_r3), (0, .ref a_v0)]) hx hb d_H_forget_9 rfl hl (Nat.le_of_ble_eq_true rfl) rfl (fun ls hl => ?_)
  refine lv_aload_n hx hb d_H_forget_10 rfl (lv_at hl 0 rfl) ?_
  obtain ⟨r4, hr4, h⟩ := hy_bd h
  refine hy_getr B S ha_r3 hr4 rfl (Nat.le_of_ble_eq_true rfl) i_1 (j := 3) tw_134 (fun _ h => h) d_H_forget_11 (fun a_r4 ha_r4 hv_r4 => ?_)
  obtain ⟨ob8, h⟩ := hy_if h
  obtain ⟨fs_ob8, hf_ob8, hg_ob8⟩ := hy_ob_spec ob8
  obtain ⟨x7, w5, hq_w5, h⟩ := hy_bi_spec h
  refine hy_calli (hy_runV (rest := []) (As := []) (r := r4) (b := a_r4) B S rfl ha_r4 (by rfl) (c_A_size hl9 G ad hq_w5) (hy_okr (by omega) hy_ok0) tw_197 tw_8 tw_194 tw_195 sl_A_size (by decide) rfl (Nat.le_of_ble_eq_true rfl) (Nat.le_of_ble_eq_true rfl) hf_ob8 hg_ob8 rfl hl.1 (Nat.le_of_ble_eq_true rfl) d_H_forget_14) (fun ad6 H locs cells slots hag hl_w5 S => ?_)
  have ha_v0 : ad6 v0 = a_v0 := (hag v0 (by omega)).trans ha_v0
  have ha_r3 : ad6 r3 = a_r3 := (hag r3 (by omega)).trans ha_r3
  refine lv_aload_n hx hb d_H_forget_17 rfl (lv_at hl 0 rfl) ?_
  obtain ⟨r9, hr9, h⟩ := hy_bd h
  refine hy_getr B S ha_r3 hr9 rfl (Nat.le_of_ble_eq_true rfl) i_1 (j := 4) tw_137 (fun _ h => h) d_H_forget_18 (fun a_r9 ha_r9 hv_r9 => ?_)
  obtain ⟨ob13, h⟩ := hy_if h
  obtain ⟨fs_ob13, hf_ob13, hg_ob13⟩ := hy_ob_spec ob13
  obtain ⟨x12, w10, hq_w10, h⟩ := hy_bi_spec h
  refine hy_calli (hy_runV (rest := [.int x7]) (As := []) (r := r9) (b := a_r9) B S rfl ha_r9 (by rfl) (c_A_size hl9 G ad6 hq_w10) (hy_okr (by omega) hy_ok0) tw_197 tw_8 tw_194 tw_195 sl_A_size (by decide) rfl (Nat.le_of_ble_eq_true rfl) (Nat.le_of_ble_eq_true rfl) hf_ob13 hg_ob13 rfl hl.1 (Nat.le_of_ble_eq_true rfl) d_H_forget_21) (fun ad11 H locs cells slots hag hl_w10 S => ?_)
  have ha_v0 : ad11 v0 = a_v0 := (hag v0 (by omega)).trans ha_v0
  have ha_r3 : ad11 r3 = a_r3 := (hag r3 (by omega)).trans ha_r3
  refine lv_iadd hx hb d_H_forget_24 ?_
  refine lv_istore_n (lv' := [(2, .int (x7 + x12)), (1, .ref a_r3), (0, .ref a_v0)]) hx hb d_H_forget_25 rfl hl (Nat.le_of_ble_eq_true rfl) rfl (fun ls hl => ?_)
  refine lv_aload_n hx hb d_H_forget_26 rfl (lv_at hl 1 rfl) ?_
  obtain ⟨r14, hr14, h⟩ := hy_bd h
  refine hy_getr B S ha_r3 hr14 rfl (Nat.le_of_ble_eq_true rfl) i_1 (j := 3) tw_134 (fun _ h => h) d_H_forget_27 (fun a_r14 ha_r14 hv_r14 => ?_)
  obtain ⟨ob18, h⟩ := hy_if h
  obtain ⟨fs_ob18, hf_ob18, hg_ob18⟩ := hy_ob_spec ob18
  obtain ⟨w15, hq_w15, h⟩ := hy_bv_spec h
  refine hy_callv (hy_runV (rest := []) (As := []) (r := r14) (b := a_r14) B S rfl ha_r14 (by rfl) (c_A_clear hl9 G ad11 hq_w15) (hy_okr (by omega) hy_ok0) tw_201 tw_8 tw_198 tw_199 sl_A_clear (by decide) rfl (Nat.le_of_ble_eq_true rfl) (Nat.le_of_ble_eq_true rfl) hf_ob18 hg_ob18 rfl hl.1 (Nat.le_of_ble_eq_true rfl) d_H_forget_30) (fun ad16 H locs cells slots hag hl_w15 S => ?_)
  have ha_v0 : ad16 v0 = a_v0 := (hag v0 (by omega)).trans ha_v0
  have ha_r3 : ad16 r3 = a_r3 := (hag r3 (by omega)).trans ha_r3
  refine lv_aload_n hx hb d_H_forget_33 rfl (lv_at hl 1 rfl) ?_
  obtain ⟨r19, hr19, h⟩ := hy_bd h
  refine hy_getr B S ha_r3 hr19 rfl (Nat.le_of_ble_eq_true rfl) i_1 (j := 4) tw_137 (fun _ h => h) d_H_forget_34 (fun a_r19 ha_r19 hv_r19 => ?_)
  obtain ⟨ob23, h⟩ := hy_if h
  obtain ⟨fs_ob23, hf_ob23, hg_ob23⟩ := hy_ob_spec ob23
  obtain ⟨w20, hq_w20, h⟩ := hy_bv_spec h
  refine hy_callv (hy_runV (rest := []) (As := []) (r := r19) (b := a_r19) B S rfl ha_r19 (by rfl) (c_A_clear hl9 G ad16 hq_w20) (hy_okr (by omega) hy_ok0) tw_201 tw_8 tw_198 tw_199 sl_A_clear (by decide) rfl (Nat.le_of_ble_eq_true rfl) (Nat.le_of_ble_eq_true rfl) hf_ob23 hg_ob23 rfl hl.1 (Nat.le_of_ble_eq_true rfl) d_H_forget_37) (fun ad21 H locs cells slots hag hl_w20 S => ?_)
  have ha_v0 : ad21 v0 = a_v0 := (hag v0 (by omega)).trans ha_v0
  have ha_r3 : ad21 r3 = a_r3 := (hag r3 (by omega)).trans ha_r3
  refine lv_iload_n hx hb d_H_forget_40 rfl (lv_at hl 0 rfl) ?_
  cases h
  cases K
  exact hy_iret hA B S d_H_forget_41
theorem nk_H_forget {p : Program} {l : Launch} {e : Env} {s : State} {m : MethodId} {args : Array Value} {below : List Frame} {meth : Method} {c : Code} {G : hy_G} {A : Nat → Prop} {ad0 : Nat → Nat} {w0 : hy_W} {o : hy_O} (hl9 : l.flags = flags0) (hA : hy_A G ad0 w0 s.heap.size = A) (B : hy_B p l e (hy_rm 1 23 w0) s m args below meth c "HyphenPatterns" b_H_forget 3 (some .int) [] G A) (q : hy_P) (nx : hy_N) (hq : nx_H_forget q = some nx) (K : hy_Nx lay_H_forget p l e (hy_rm 1 23 w0) s m args below meth c 3 G A ad0 w0.1.length (hy_Q below G ad0 w0 o args s) o nx) : hy_At lay_H_forget p l e (hy_rm 1 23 w0) s m args below meth c 3 G A ad0 w0.1.length (hy_Q below G ad0 w0 o args s) q := by
  unfold nx_H_forget at hq
  split at hq
  · exact sk_H_forget_0 hl9 hA B _ _ nx hq K
  · cases hq
theorem c_H_forget {l : Launch} (hl9 : l.flags = flags0) (G : hy_G) (ad : Nat → Nat) {v0 : Nat} {w : hy_W} {o : hy_O} (h : f_H_forget [.ref v0] w = some o) : hy_M l y_H_forget (Cond.code y_H_forget b_H_forget 3 (some .int) :: hy_T) 1 23 G ad [.ref v0] w o := by
  obtain ⟨n, hn⟩ := hy_fx_iff.mp h
  refine hy_ofW hl9 (by decide +kernel) (Nat.le_of_ble_eq_true rfl) (fun p e s m args below meth c A hA hi B S hok ls hl => ?_)
  exact hy_loop (nk_H_forget hl9 hA B) n _ hn ad s.heap [] 0 0 ls S hok hl
theorem d_H_clear_0 : decode b_H_clear 0 = .ok (.aload_n 0, 1) := by decide +kernel
theorem d_H_clear_1 : decode b_H_clear 1 = .ok (.getfield 24, 3) := by decide +kernel
theorem d_H_clear_4 : decode b_H_clear 4 = .ok (.invokevirtual 89, 3) := by decide +kernel
theorem d_H_clear_7 : decode b_H_clear 7 = .ok (.ireturn, 1) := by decide +kernel
def lay_H_clear (pc : Nat) : List Nat := if pc = 0 then [0] else []
noncomputable def sg_H_clear_0 (v0 : Nat) (w : hy_W) : Option hy_N := (hy_gr w v0 5 2).bind fun r1 => if hy_ob w r1 2 = true then hy_bi (f_N_empty [.ref r1] w) fun x4 w2 => some (.inr (.inl (some (.int x4)), w2)) else none
noncomputable def nx_H_clear (q : hy_P) : Option hy_N := match q with
  | (0, [.ref v0], w) => sg_H_clear_0 v0 w
  | _ => none
noncomputable def f_H_clear (av : List Value) (w : hy_W) : Option hy_O := hy_fx nx_H_clear (0, av, w)
set_option maxHeartbeats 4000000 in
set_option maxRecDepth 100000 in
theorem sk_H_clear_0 {p : Program} {l : Launch} {e : Env} {s : State} {m : MethodId} {args : Array Value} {below : List Frame} {meth : Method} {c : Code} {G : hy_G} {A : Nat → Prop} {ad0 : Nat → Nat} {w0 : hy_W} {o : hy_O} (hl9 : l.flags = flags0) (hA : hy_A G ad0 w0 s.heap.size = A) (B : hy_B p l e (hy_rm 1 21 w0) s m args below meth c "HyphenPatterns" b_H_clear 1 (some .int) [] G A) (v0 : Nat) (w : hy_W) (nx : hy_N) (h : sg_H_clear_0 v0 w = some nx) (K : hy_Nx lay_H_clear p l e (hy_rm 1 21 w0) s m args below meth c 1 G A ad0 w0.1.length (hy_Q below G ad0 w0 o args s) o nx) : hy_At lay_H_clear p l e (hy_rm 1 21 w0) s m args below meth c 1 G A ad0 w0.1.length (hy_Q below G ad0 w0 o args s) (0, [.ref v0], w) := by
  intro ad H locs cells slots ls S hok hl
  have hx := B.1
  have hb := B.2.1
  dsimp only at S hok
  have hl : lv_has ls 1 [(0, .ref (ad v0))] := hl
  show W p l e (hy_rm 1 21 w0) s m args below meth c H locs cells slots (hy_Q below G ad0 w0 o args s) (F0 m 0 ls [])
  have hv_v0 : v0 < w.1.length := hok (.ref v0) (List.mem_of_getElem? (i := 0) rfl) v0 rfl
  obtain ⟨a_v0, ha_v0⟩ : ∃ a, ad v0 = a := ⟨_, rfl⟩
  rw [ha_v0] at hl
  unfold sg_H_clear_0 at h
  refine lv_aload_n hx hb d_H_clear_0 rfl (lv_at hl 0 rfl) ?_
  obtain ⟨r1, hr1, h⟩ := hy_bd h
  refine hy_getr B S ha_v0 hr1 rfl (Nat.le_of_ble_eq_true rfl) i_5 (j := 2) tw_165 (fun _ h => h) d_H_clear_1 (fun a_r1 ha_r1 hv_r1 => ?_)
  obtain ⟨ob5, h⟩ := hy_if h
  obtain ⟨fs_ob5, hf_ob5, hg_ob5⟩ := hy_ob_spec ob5
  obtain ⟨x4, w2, hq_w2, h⟩ := hy_bi_spec h
  refine hy_calli (hy_runV (rest := []) (As := []) (r := r1) (b := a_r1) B S rfl ha_r1 (by rfl) (c_N_empty hl9 G ad hq_w2) (hy_okr (by omega) hy_ok0) tw_189 tw_2 tw_186 tw_187 sl_N_empty (by decide) rfl (Nat.le_of_ble_eq_true rfl) (Nat.le_of_ble_eq_true rfl) hf_ob5 hg_ob5 rfl hl.1 (Nat.le_of_ble_eq_true rfl) d_H_clear_4) (fun ad3 H locs cells slots hag hl_w2 S => ?_)
  have ha_v0 : ad3 v0 = a_v0 := (hag v0 (by omega)).trans ha_v0
  cases h
  cases K
  exact hy_iret hA B S d_H_clear_7
theorem nk_H_clear {p : Program} {l : Launch} {e : Env} {s : State} {m : MethodId} {args : Array Value} {below : List Frame} {meth : Method} {c : Code} {G : hy_G} {A : Nat → Prop} {ad0 : Nat → Nat} {w0 : hy_W} {o : hy_O} (hl9 : l.flags = flags0) (hA : hy_A G ad0 w0 s.heap.size = A) (B : hy_B p l e (hy_rm 1 21 w0) s m args below meth c "HyphenPatterns" b_H_clear 1 (some .int) [] G A) (q : hy_P) (nx : hy_N) (hq : nx_H_clear q = some nx) (K : hy_Nx lay_H_clear p l e (hy_rm 1 21 w0) s m args below meth c 1 G A ad0 w0.1.length (hy_Q below G ad0 w0 o args s) o nx) : hy_At lay_H_clear p l e (hy_rm 1 21 w0) s m args below meth c 1 G A ad0 w0.1.length (hy_Q below G ad0 w0 o args s) q := by
  unfold nx_H_clear at hq
  split at hq
  · exact sk_H_clear_0 hl9 hA B _ _ nx hq K
  · cases hq
theorem c_H_clear {l : Launch} (hl9 : l.flags = flags0) (G : hy_G) (ad : Nat → Nat) {v0 : Nat} {w : hy_W} {o : hy_O} (h : f_H_clear [.ref v0] w = some o) : hy_M l y_H_clear (Cond.code y_H_clear b_H_clear 1 (some .int) :: hy_T) 1 21 G ad [.ref v0] w o := by
  obtain ⟨n, hn⟩ := hy_fx_iff.mp h
  refine hy_ofW hl9 (by decide +kernel) (Nat.le_of_ble_eq_true rfl) (fun p e s m args below meth c A hA hi B S hok ls hl => ?_)
  exact hy_loop (nk_H_clear hl9 hA B) n _ hn ad s.heap [] 0 0 ls S hok hl
theorem d_L_letterOf_0 : decode b_L_letterOf 0 = .ok (.aload_n 0, 1) := by decide +kernel
theorem d_L_letterOf_1 : decode b_L_letterOf 1 = .ok (.getfield 31, 3) := by decide +kernel
theorem d_L_letterOf_4 : decode b_L_letterOf 4 = .ok (.iconst 1, 1) := by decide +kernel
theorem d_L_letterOf_5 : decode b_L_letterOf 5 = .ok (.isub, 1) := by decide +kernel
theorem d_L_letterOf_6 : decode b_L_letterOf 6 = .ok (.istore_n 2, 1) := by decide +kernel
theorem d_L_letterOf_7 : decode b_L_letterOf 7 = .ok (.iload_n 2, 1) := by decide +kernel
theorem d_L_letterOf_8 : decode b_L_letterOf 8 = .ok (.ifCond .lt 58, 3) := by decide +kernel
theorem d_L_letterOf_11 : decode b_L_letterOf 11 = .ok (.iload_n 1, 1) := by decide +kernel
theorem d_L_letterOf_12 : decode b_L_letterOf 12 = .ok (.aload_n 0, 1) := by decide +kernel
theorem d_L_letterOf_13 : decode b_L_letterOf 13 = .ok (.getfield 9, 3) := by decide +kernel
theorem d_L_letterOf_16 : decode b_L_letterOf 16 = .ok (.iload_n 2, 1) := by decide +kernel
theorem d_L_letterOf_17 : decode b_L_letterOf 17 = .ok (.iaload, 1) := by decide +kernel
theorem d_L_letterOf_18 : decode b_L_letterOf 18 = .ok (.if_icmp .lt 42, 3) := by decide +kernel
theorem d_L_letterOf_21 : decode b_L_letterOf 21 = .ok (.iload_n 1, 1) := by decide +kernel
theorem d_L_letterOf_22 : decode b_L_letterOf 22 = .ok (.aload_n 0, 1) := by decide +kernel
theorem d_L_letterOf_23 : decode b_L_letterOf 23 = .ok (.getfield 15, 3) := by decide +kernel
theorem d_L_letterOf_26 : decode b_L_letterOf 26 = .ok (.iload_n 2, 1) := by decide +kernel
theorem d_L_letterOf_27 : decode b_L_letterOf 27 = .ok (.iaload, 1) := by decide +kernel
theorem d_L_letterOf_28 : decode b_L_letterOf 28 = .ok (.if_icmp .gt 32, 3) := by decide +kernel
theorem d_L_letterOf_31 : decode b_L_letterOf 31 = .ok (.aload_n 0, 1) := by decide +kernel
theorem d_L_letterOf_32 : decode b_L_letterOf 32 = .ok (.getfield 18, 3) := by decide +kernel
theorem d_L_letterOf_35 : decode b_L_letterOf 35 = .ok (.iload_n 2, 1) := by decide +kernel
theorem d_L_letterOf_36 : decode b_L_letterOf 36 = .ok (.iaload, 1) := by decide +kernel
theorem d_L_letterOf_37 : decode b_L_letterOf 37 = .ok (.ifCond .ne 7, 3) := by decide +kernel
theorem d_L_letterOf_40 : decode b_L_letterOf 40 = .ok (.iconst 0, 1) := by decide +kernel
theorem d_L_letterOf_41 : decode b_L_letterOf 41 = .ok (.goto 18, 3) := by decide +kernel
theorem d_L_letterOf_44 : decode b_L_letterOf 44 = .ok (.aload_n 0, 1) := by decide +kernel
theorem d_L_letterOf_45 : decode b_L_letterOf 45 = .ok (.getfield 18, 3) := by decide +kernel
theorem d_L_letterOf_48 : decode b_L_letterOf 48 = .ok (.iload_n 2, 1) := by decide +kernel
theorem d_L_letterOf_49 : decode b_L_letterOf 49 = .ok (.iaload, 1) := by decide +kernel
theorem d_L_letterOf_50 : decode b_L_letterOf 50 = .ok (.iload_n 1, 1) := by decide +kernel
theorem d_L_letterOf_51 : decode b_L_letterOf 51 = .ok (.aload_n 0, 1) := by decide +kernel
theorem d_L_letterOf_52 : decode b_L_letterOf 52 = .ok (.getfield 9, 3) := by decide +kernel
theorem d_L_letterOf_55 : decode b_L_letterOf 55 = .ok (.iload_n 2, 1) := by decide +kernel
theorem d_L_letterOf_56 : decode b_L_letterOf 56 = .ok (.iaload, 1) := by decide +kernel
theorem d_L_letterOf_57 : decode b_L_letterOf 57 = .ok (.isub, 1) := by decide +kernel
theorem d_L_letterOf_58 : decode b_L_letterOf 58 = .ok (.iadd, 1) := by decide +kernel
theorem d_L_letterOf_59 : decode b_L_letterOf 59 = .ok (.ireturn, 1) := by decide +kernel
theorem d_L_letterOf_60 : decode b_L_letterOf 60 = .ok (.iinc 2 (-1), 3) := by decide +kernel
theorem d_L_letterOf_63 : decode b_L_letterOf 63 = .ok (.goto (-56), 3) := by decide +kernel
theorem d_L_letterOf_66 : decode b_L_letterOf 66 = .ok (.iconst 0, 1) := by decide +kernel
theorem d_L_letterOf_67 : decode b_L_letterOf 67 = .ok (.ireturn, 1) := by decide +kernel
def lay_L_letterOf (pc : Nat) : List Nat := if pc = 0 then [0, 1] else if pc = 7 then [0, 1, 2] else if pc = 60 then [0, 1, 2] else []
noncomputable def sg_L_letterOf_0 (v0 : Nat) (v1 : Int32) (w : hy_W) : Option hy_N := (hy_gi w v0 1 5).bind fun x1 => some (.inl (7, [.ref v0, .int v1, .int (x1 - 1)], w))
noncomputable def sg_L_letterOf_7 (v0 : Nat) (v1 : Int32) (v2 : Int32) (w : hy_W) : Option hy_N := if v2 < 0 then (some (.inr (.inl (some (.int 0)), w))) else ((hy_gr w v0 1 0).bind fun r2 => (hy_ai w r2 v2).bind fun x3 => if v1 < x3 then (some (.inl (60, [.ref v0, .int v1, .int v2], w))) else ((hy_gr w v0 1 1).bind fun r5 => (hy_ai w r5 v2).bind fun x6 => if x6 < v1 then (some (.inl (60, [.ref v0, .int v1, .int v2], w))) else ((hy_gr w v0 1 2).bind fun r8 => (hy_ai w r8 v2).bind fun x9 => if x9 = 0 then (some (.inr (.inl (some (.int 0)), w))) else ((hy_gr w v0 1 2).bind fun r11 => (hy_ai w r11 v2).bind fun x12 => (hy_gr w v0 1 0).bind fun r13 => (hy_ai w r13 v2).bind fun x14 => some (.inr (.inl (some (.int (x12 + (v1 - x14)))), w))))))
noncomputable def sg_L_letterOf_60 (v0 : Nat) (v1 : Int32) (v2 : Int32) (w : hy_W) : Option hy_N := some (.inl (7, [.ref v0, .int v1, .int (v2 + (-1))], w))
noncomputable def nx_L_letterOf (q : hy_P) : Option hy_N := match q with
  | (0, [.ref v0, .int v1], w) => sg_L_letterOf_0 v0 v1 w
  | (7, [.ref v0, .int v1, .int v2], w) => sg_L_letterOf_7 v0 v1 v2 w
  | (60, [.ref v0, .int v1, .int v2], w) => sg_L_letterOf_60 v0 v1 v2 w
  | _ => none
noncomputable def f_L_letterOf (av : List Value) (w : hy_W) : Option hy_O := hy_fx nx_L_letterOf (0, av, w)
set_option maxHeartbeats 4000000 in
set_option maxRecDepth 100000 in
theorem sk_L_letterOf_0 {p : Program} {l : Launch} {e : Env} {s : State} {m : MethodId} {args : Array Value} {below : List Frame} {meth : Method} {c : Code} {G : hy_G} {A : Nat → Prop} {ad0 : Nat → Nat} {w0 : hy_W} {o : hy_O} (hl9 : l.flags = flags0) (hA : hy_A G ad0 w0 s.heap.size = A) (B : hy_B p l e (hy_rm 0 0 w0) s m args below meth c "HyphenPatterns$Language" b_L_letterOf 3 (some .int) [] G A) (v0 : Nat) (v1 : Int32) (w : hy_W) (nx : hy_N) (h : sg_L_letterOf_0 v0 v1 w = some nx) (K : hy_Nx lay_L_letterOf p l e (hy_rm 0 0 w0) s m args below meth c 3 G A ad0 w0.1.length (hy_Q below G ad0 w0 o args s) o nx) : hy_At lay_L_letterOf p l e (hy_rm 0 0 w0) s m args below meth c 3 G A ad0 w0.1.length (hy_Q below G ad0 w0 o args s) (0, [.ref v0, .int v1], w) := by
  intro ad H locs cells slots ls S hok hl
  have hx := B.1
  have hb := B.2.1
  dsimp only at S hok
  have hl : lv_has ls 3 [(0, .ref (ad v0)), (1, .int v1)] := hl
  show W p l e (hy_rm 0 0 w0) s m args below meth c H locs cells slots (hy_Q below G ad0 w0 o args s) (F0 m 0 ls [])
  have hv_v0 : v0 < w.1.length := hok (.ref v0) (List.mem_of_getElem? (i := 0) rfl) v0 rfl
  obtain ⟨a_v0, ha_v0⟩ : ∃ a, ad v0 = a := ⟨_, rfl⟩
  rw [ha_v0] at hl
  unfold sg_L_letterOf_0 at h
  refine lv_aload_n hx hb d_L_letterOf_0 rfl (lv_at hl 0 rfl) ?_
  obtain ⟨x1, hx1, h⟩ := hy_bd h
  refine hy_geti B S ha_v0 hx1 rfl (Nat.le_of_ble_eq_true rfl) i_1 (j := 5) tw_138 (fun _ h => h) d_L_letterOf_1 ?_
  refine lv_iconst (v := 1) hx hb d_L_letterOf_4 (by decide) ?_
  refine lv_isub hx hb d_L_letterOf_5 ?_
  refine lv_istore_n (lv' := [(2, .int (x1 - 1)), (0, .ref a_v0), (1, .int v1)]) hx hb d_L_letterOf_6 rfl hl (Nat.le_of_ble_eq_true rfl) rfl (fun ls hl => ?_)
  cases h
  exact hy_jump K S (hy_okr (by omega) (hy_oki (hy_oki hy_ok0))) (lv_sub hl [1, 2, 0] rfl) (by subst ha_v0; rfl) (by subst ha_v0; rfl)
set_option maxHeartbeats 4000000 in
set_option maxRecDepth 100000 in
theorem sk_L_letterOf_7 {p : Program} {l : Launch} {e : Env} {s : State} {m : MethodId} {args : Array Value} {below : List Frame} {meth : Method} {c : Code} {G : hy_G} {A : Nat → Prop} {ad0 : Nat → Nat} {w0 : hy_W} {o : hy_O} (hl9 : l.flags = flags0) (hA : hy_A G ad0 w0 s.heap.size = A) (B : hy_B p l e (hy_rm 0 0 w0) s m args below meth c "HyphenPatterns$Language" b_L_letterOf 3 (some .int) [] G A) (v0 : Nat) (v1 : Int32) (v2 : Int32) (w : hy_W) (nx : hy_N) (h : sg_L_letterOf_7 v0 v1 v2 w = some nx) (K : hy_Nx lay_L_letterOf p l e (hy_rm 0 0 w0) s m args below meth c 3 G A ad0 w0.1.length (hy_Q below G ad0 w0 o args s) o nx) : hy_At lay_L_letterOf p l e (hy_rm 0 0 w0) s m args below meth c 3 G A ad0 w0.1.length (hy_Q below G ad0 w0 o args s) (7, [.ref v0, .int v1, .int v2], w) := by
  intro ad H locs cells slots ls S hok hl
  have hx := B.1
  have hb := B.2.1
  dsimp only at S hok
  have hl : lv_has ls 3 [(0, .ref (ad v0)), (1, .int v1), (2, .int v2)] := hl
  show W p l e (hy_rm 0 0 w0) s m args below meth c H locs cells slots (hy_Q below G ad0 w0 o args s) (F0 m 7 ls [])
  have hv_v0 : v0 < w.1.length := hok (.ref v0) (List.mem_of_getElem? (i := 0) rfl) v0 rfl
  obtain ⟨a_v0, ha_v0⟩ : ∃ a, ad v0 = a := ⟨_, rfl⟩
  rw [ha_v0] at hl
  unfold sg_L_letterOf_7 at h
  refine lv_iload_n hx hb d_L_letterOf_7 rfl (lv_at hl 2 rfl) ?_
  refine lv_if_lt (tgt := 66) hx hb d_L_letterOf_8 (by decide) (fun c1 => ?_) (fun c1 => ?_)
  · rw [if_pos c1] at h
    refine lv_iconst (v := 0) hx hb d_L_letterOf_66 (by decide) ?_
    cases h
    cases K
    exact hy_iret hA B S d_L_letterOf_67
  · rw [if_neg c1] at h
    refine lv_iload_n hx hb d_L_letterOf_11 rfl (lv_at hl 1 rfl) ?_
    refine lv_aload_n hx hb d_L_letterOf_12 rfl (lv_at hl 0 rfl) ?_
    obtain ⟨r2, hr2, h⟩ := hy_bd h
    refine hy_getr B S ha_v0 hr2 rfl (Nat.le_of_ble_eq_true rfl) i_1 (j := 0) tw_129 (fun _ h => h) d_L_letterOf_13 (fun a_r2 ha_r2 hv_r2 => ?_)
    refine lv_iload_n hx hb d_L_letterOf_16 rfl (lv_at hl 2 rfl) ?_
    obtain ⟨x3, hx3, h⟩ := hy_bd h
    refine hy_iald B S ha_r2 hx3 d_L_letterOf_17 ?_
    refine lv_icmp_lt (tgt := 60) hx hb d_L_letterOf_18 (by decide) (fun c4 => ?_) (fun c4 => ?_)
    · rw [if_pos c4] at h
      cases h
      exact hy_jump K S (hy_okr (by omega) (hy_oki (hy_oki hy_ok0))) (lv_sub hl [0, 1, 2] rfl) (by subst ha_v0; rfl) (by subst ha_v0; rfl)
    · rw [if_neg c4] at h
      refine lv_iload_n hx hb d_L_letterOf_21 rfl (lv_at hl 1 rfl) ?_
      refine lv_aload_n hx hb d_L_letterOf_22 rfl (lv_at hl 0 rfl) ?_
      obtain ⟨r5, hr5, h⟩ := hy_bd h
      refine hy_getr B S ha_v0 hr5 rfl (Nat.le_of_ble_eq_true rfl) i_1 (j := 1) tw_130 (fun _ h => h) d_L_letterOf_23 (fun a_r5 ha_r5 hv_r5 => ?_)
      refine lv_iload_n hx hb d_L_letterOf_26 rfl (lv_at hl 2 rfl) ?_
      obtain ⟨x6, hx6, h⟩ := hy_bd h
      refine hy_iald B S ha_r5 hx6 d_L_letterOf_27 ?_
      refine lv_icmp_gt (tgt := 60) hx hb d_L_letterOf_28 (by decide) (fun c7 => ?_) (fun c7 => ?_)
      · rw [if_pos c7] at h
        cases h
        exact hy_jump K S (hy_okr (by omega) (hy_oki (hy_oki hy_ok0))) (lv_sub hl [0, 1, 2] rfl) (by subst ha_v0; rfl) (by subst ha_v0; rfl)
      · rw [if_neg c7] at h
        refine lv_aload_n hx hb d_L_letterOf_31 rfl (lv_at hl 0 rfl) ?_
        obtain ⟨r8, hr8, h⟩ := hy_bd h
        refine hy_getr B S ha_v0 hr8 rfl (Nat.le_of_ble_eq_true rfl) i_1 (j := 2) tw_131 (fun _ h => h) d_L_letterOf_32 (fun a_r8 ha_r8 hv_r8 => ?_)
        refine lv_iload_n hx hb d_L_letterOf_35 rfl (lv_at hl 2 rfl) ?_
        obtain ⟨x9, hx9, h⟩ := hy_bd h
        refine hy_iald B S ha_r8 hx9 d_L_letterOf_36 ?_
        refine lv_if_ne (tgt := 44) hx hb d_L_letterOf_37 (by decide) (fun c10 => ?_) (fun c10 => ?_)
        · rw [if_neg c10] at h
          refine lv_aload_n hx hb d_L_letterOf_44 rfl (lv_at hl 0 rfl) ?_
          obtain ⟨r11, hr11, h⟩ := hy_bd h
          refine hy_getr B S ha_v0 hr11 rfl (Nat.le_of_ble_eq_true rfl) i_1 (j := 2) tw_131 (fun _ h => h) d_L_letterOf_45 (fun a_r11 ha_r11 hv_r11 => ?_)
          refine lv_iload_n hx hb d_L_letterOf_48 rfl (lv_at hl 2 rfl) ?_
          obtain ⟨x12, hx12, h⟩ := hy_bd h
          refine hy_iald B S ha_r11 hx12 d_L_letterOf_49 ?_
          refine lv_iload_n hx hb d_L_letterOf_50 rfl (lv_at hl 1 rfl) ?_
          refine lv_aload_n hx hb d_L_letterOf_51 rfl (lv_at hl 0 rfl) ?_
          obtain ⟨r13, hr13, h⟩ := hy_bd h
          refine hy_getr B S ha_v0 hr13 rfl (Nat.le_of_ble_eq_true rfl) i_1 (j := 0) tw_129 (fun _ h => h) d_L_letterOf_52 (fun a_r13 ha_r13 hv_r13 => ?_)
          refine lv_iload_n hx hb d_L_letterOf_55 rfl (lv_at hl 2 rfl) ?_
          obtain ⟨x14, hx14, h⟩ := hy_bd h
          refine hy_iald B S ha_r13 hx14 d_L_letterOf_56 ?_
          refine lv_isub hx hb d_L_letterOf_57 ?_
          refine lv_iadd hx hb d_L_letterOf_58 ?_
          cases h
          cases K
          exact hy_iret hA B S d_L_letterOf_59
        · rw [if_pos c10] at h
          refine lv_iconst (v := 0) hx hb d_L_letterOf_40 (by decide) ?_
          refine lv_goto (tgt := 59) hx hb d_L_letterOf_41 (by decide) ?_
          cases h
          cases K
          exact hy_iret hA B S d_L_letterOf_59
set_option maxHeartbeats 4000000 in
set_option maxRecDepth 100000 in
theorem sk_L_letterOf_60 {p : Program} {l : Launch} {e : Env} {s : State} {m : MethodId} {args : Array Value} {below : List Frame} {meth : Method} {c : Code} {G : hy_G} {A : Nat → Prop} {ad0 : Nat → Nat} {w0 : hy_W} {o : hy_O} (hl9 : l.flags = flags0) (hA : hy_A G ad0 w0 s.heap.size = A) (B : hy_B p l e (hy_rm 0 0 w0) s m args below meth c "HyphenPatterns$Language" b_L_letterOf 3 (some .int) [] G A) (v0 : Nat) (v1 : Int32) (v2 : Int32) (w : hy_W) (nx : hy_N) (h : sg_L_letterOf_60 v0 v1 v2 w = some nx) (K : hy_Nx lay_L_letterOf p l e (hy_rm 0 0 w0) s m args below meth c 3 G A ad0 w0.1.length (hy_Q below G ad0 w0 o args s) o nx) : hy_At lay_L_letterOf p l e (hy_rm 0 0 w0) s m args below meth c 3 G A ad0 w0.1.length (hy_Q below G ad0 w0 o args s) (60, [.ref v0, .int v1, .int v2], w) := by
  intro ad H locs cells slots ls S hok hl
  have hx := B.1
  have hb := B.2.1
  dsimp only at S hok
  have hl : lv_has ls 3 [(0, .ref (ad v0)), (1, .int v1), (2, .int v2)] := hl
  show W p l e (hy_rm 0 0 w0) s m args below meth c H locs cells slots (hy_Q below G ad0 w0 o args s) (F0 m 60 ls [])
  have hv_v0 : v0 < w.1.length := hok (.ref v0) (List.mem_of_getElem? (i := 0) rfl) v0 rfl
  obtain ⟨a_v0, ha_v0⟩ : ∃ a, ad v0 = a := ⟨_, rfl⟩
  rw [ha_v0] at hl
  unfold sg_L_letterOf_60 at h
  refine lv_iinc (v := (v2 + (-1))) (lv' := [(2, .int (v2 + (-1))), (0, .ref a_v0), (1, .int v1)]) hx hb d_L_letterOf_60 hl (k := 2) rfl rfl (Nat.le_of_ble_eq_true rfl) rfl (fun ls hl => ?_)
  refine lv_goto (tgt := 7) hx hb d_L_letterOf_63 (by decide) ?_
  cases h
  exact hy_jump K S (hy_okr (by omega) (hy_oki (hy_oki hy_ok0))) (lv_sub hl [1, 2, 0] rfl) (by subst ha_v0; rfl) (by subst ha_v0; rfl)
theorem nk_L_letterOf {p : Program} {l : Launch} {e : Env} {s : State} {m : MethodId} {args : Array Value} {below : List Frame} {meth : Method} {c : Code} {G : hy_G} {A : Nat → Prop} {ad0 : Nat → Nat} {w0 : hy_W} {o : hy_O} (hl9 : l.flags = flags0) (hA : hy_A G ad0 w0 s.heap.size = A) (B : hy_B p l e (hy_rm 0 0 w0) s m args below meth c "HyphenPatterns$Language" b_L_letterOf 3 (some .int) [] G A) (q : hy_P) (nx : hy_N) (hq : nx_L_letterOf q = some nx) (K : hy_Nx lay_L_letterOf p l e (hy_rm 0 0 w0) s m args below meth c 3 G A ad0 w0.1.length (hy_Q below G ad0 w0 o args s) o nx) : hy_At lay_L_letterOf p l e (hy_rm 0 0 w0) s m args below meth c 3 G A ad0 w0.1.length (hy_Q below G ad0 w0 o args s) q := by
  unfold nx_L_letterOf at hq
  split at hq
  · exact sk_L_letterOf_0 hl9 hA B _ _ _ nx hq K
  · exact sk_L_letterOf_7 hl9 hA B _ _ _ _ nx hq K
  · exact sk_L_letterOf_60 hl9 hA B _ _ _ _ nx hq K
  · cases hq
theorem c_L_letterOf {l : Launch} (hl9 : l.flags = flags0) (G : hy_G) (ad : Nat → Nat) {v0 : Nat} {v1 : Int32} {w : hy_W} {o : hy_O} (h : f_L_letterOf [.ref v0, .int v1] w = some o) : hy_M l y_L_letterOf (Cond.code y_L_letterOf b_L_letterOf 3 (some .int) :: hy_T) 0 0 G ad [.ref v0, .int v1] w o := by
  obtain ⟨n, hn⟩ := hy_fx_iff.mp h
  refine hy_ofW hl9 (by decide +kernel) (Nat.le_of_ble_eq_true rfl) (fun p e s m args below meth c A hA hi B S hok ls hl => ?_)
  exact hy_loop (nk_L_letterOf hl9 hA B) n _ hn ad s.heap [] 0 0 ls S hok hl
