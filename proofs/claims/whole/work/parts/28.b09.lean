/-! BODIES (printed by our translator): M_keep, M_given, M_isSound, M_tell, M_drop, M_readRow -/
theorem d_M_keep_0 : decode b_M_keep 0 = .ok (.aload_n 0, 1) := by decide +kernel
theorem d_M_keep_1 : decode b_M_keep 1 = .ok (.getfield 31, 3) := by decide +kernel
theorem d_M_keep_4 : decode b_M_keep 4 = .ok (.iconst 0, 1) := by decide +kernel
theorem d_M_keep_5 : decode b_M_keep 5 = .ok (.iload_n 1, 1) := by decide +kernel
theorem d_M_keep_6 : decode b_M_keep 6 = .ok (.iastore, 1) := by decide +kernel
theorem d_M_keep_7 : decode b_M_keep 7 = .ok (.aload_n 0, 1) := by decide +kernel
theorem d_M_keep_8 : decode b_M_keep 8 = .ok (.getfield 31, 3) := by decide +kernel
theorem d_M_keep_11 : decode b_M_keep 11 = .ok (.iconst 1, 1) := by decide +kernel
theorem d_M_keep_12 : decode b_M_keep 12 = .ok (.iload_n 2, 1) := by decide +kernel
theorem d_M_keep_13 : decode b_M_keep 13 = .ok (.iastore, 1) := by decide +kernel
theorem d_M_keep_14 : decode b_M_keep 14 = .ok (.aload_n 0, 1) := by decide +kernel
theorem d_M_keep_15 : decode b_M_keep 15 = .ok (.getfield 31, 3) := by decide +kernel
theorem d_M_keep_18 : decode b_M_keep 18 = .ok (.iconst 2, 1) := by decide +kernel
theorem d_M_keep_19 : decode b_M_keep 19 = .ok (.iload_n 3, 1) := by decide +kernel
theorem d_M_keep_20 : decode b_M_keep 20 = .ok (.iastore, 1) := by decide +kernel
theorem d_M_keep_21 : decode b_M_keep 21 = .ok (.aload_n 0, 1) := by decide +kernel
theorem d_M_keep_22 : decode b_M_keep 22 = .ok (.getfield 31, 3) := by decide +kernel
theorem d_M_keep_25 : decode b_M_keep 25 = .ok (.iconst 3, 1) := by decide +kernel
theorem d_M_keep_26 : decode b_M_keep 26 = .ok (.iload 4, 2) := by decide +kernel
theorem d_M_keep_28 : decode b_M_keep 28 = .ok (.iastore, 1) := by decide +kernel
theorem d_M_keep_29 : decode b_M_keep 29 = .ok (.aload_n 0, 1) := by decide +kernel
theorem d_M_keep_30 : decode b_M_keep 30 = .ok (.getfield 31, 3) := by decide +kernel
theorem d_M_keep_33 : decode b_M_keep 33 = .ok (.iconst 4, 1) := by decide +kernel
theorem d_M_keep_34 : decode b_M_keep 34 = .ok (.iload 5, 2) := by decide +kernel
theorem d_M_keep_36 : decode b_M_keep 36 = .ok (.iastore, 1) := by decide +kernel
theorem d_M_keep_37 : decode b_M_keep 37 = .ok (.return_, 1) := by decide +kernel
def lay_M_keep (pc : Nat) : List Nat := if pc = 0 then [0, 1, 2, 3, 4, 5] else []
noncomputable def sg_M_keep_0 (v0 : Nat) (v1 : Int32) (v2 : Int32) (v3 : Int32) (v4 : Int32) (v5 : Int32) (w : hy_W) : Option hy_N := (hy_gr w v0 6 10).bind fun r1 => (hy_pa w 0 r1 0 (.int v1)).bind fun w2 => (hy_gr w2 v0 6 10).bind fun r3 => (hy_pa w2 0 r3 1 (.int v2)).bind fun w4 => (hy_gr w4 v0 6 10).bind fun r5 => (hy_pa w4 0 r5 2 (.int v3)).bind fun w6 => (hy_gr w6 v0 6 10).bind fun r7 => (hy_pa w6 0 r7 3 (.int v4)).bind fun w8 => (hy_gr w8 v0 6 10).bind fun r9 => (hy_pa w8 0 r9 4 (.int v5)).bind fun w10 => some (.inr (.inl none, w10))
noncomputable def nx_M_keep (q : hy_P) : Option hy_N := match q with
  | (0, [.ref v0, .int v1, .int v2, .int v3, .int v4, .int v5], w) => sg_M_keep_0 v0 v1 v2 v3 v4 v5 w
  | _ => none
noncomputable def f_M_keep (av : List Value) (w : hy_W) : Option hy_O := hy_fx nx_M_keep (0, av, w)
set_option maxHeartbeats 4000000 in
set_option maxRecDepth 100000 in
theorem sk_M_keep_0 {p : Program} {l : Launch} {e : Env} {s : State} {m : MethodId} {args : Array Value} {below : List Frame} {meth : Method} {c : Code} {G : hy_G} {A : Nat → Prop} {ad0 : Nat → Nat} {w0 : hy_W} {o : hy_O} (hl9 : l.flags = flags0) (hA : hy_A G ad0 w0 s.heap.size = A) (B : hy_B p l e (hy_rm 0 0 w0) s m args below meth c "HyphenPatternsModel" b_M_keep 6 none [] G A) (v0 : Nat) (v1 : Int32) (v2 : Int32) (v3 : Int32) (v4 : Int32) (v5 : Int32) (w : hy_W) (nx : hy_N) (h : sg_M_keep_0 v0 v1 v2 v3 v4 v5 w = some nx) (K : hy_Nx lay_M_keep p l e (hy_rm 0 0 w0) s m args below meth c 6 G A ad0 w0.1.length (hy_Q below G ad0 w0 o args s) o nx) : hy_At lay_M_keep p l e (hy_rm 0 0 w0) s m args below meth c 6 G A ad0 w0.1.length (hy_Q below G ad0 w0 o args s) (0, [.ref v0, .int v1, .int v2, .int v3, .int v4, .int v5], w) := by
  intro ad H locs cells slots ls S hok hl
  have hx := B.1
  have hb := B.2.1
  dsimp only at S hok
  have hl : lv_has ls 6 [(0, .ref (ad v0)), (1, .int v1), (2, .int v2), (3, .int v3), (4, .int v4), (5, .int v5)] := hl
  show W p l e (hy_rm 0 0 w0) s m args below meth c H locs cells slots (hy_Q below G ad0 w0 o args s) (F0 m 0 ls [])
  have hv_v0 : v0 < w.1.length := hok (.ref v0) (List.mem_of_getElem? (i := 0) rfl) v0 rfl
  obtain ⟨a_v0, ha_v0⟩ : ∃ a, ad v0 = a := ⟨_, rfl⟩
  rw [ha_v0] at hl
  unfold sg_M_keep_0 at h
  refine lv_aload_n hx hb d_M_keep_0 rfl (lv_at hl 0 rfl) ?_
  obtain ⟨r1, hr1, h⟩ := hy_bd h
  refine hy_getr B S ha_v0 hr1 rfl (Nat.le_of_ble_eq_true rfl) i_6 (j := 10) tw_660 (fun _ h => h) d_M_keep_1 (fun a_r1 ha_r1 hv_r1 => ?_)
  refine lv_iconst (v := 0) hx hb d_M_keep_4 (by decide) ?_
  refine lv_iload_n hx hb d_M_keep_5 rfl (lv_at hl 1 rfl) ?_
  obtain ⟨w2, hw2, h⟩ := hy_bd h
  refine hy_iast B S ha_r1 hw2 d_M_keep_6 (fun H locs S hl_w2 => ?_)
  refine lv_aload_n hx hb d_M_keep_7 rfl (lv_at hl 0 rfl) ?_
  obtain ⟨r3, hr3, h⟩ := hy_bd h
  refine hy_getr B S ha_v0 hr3 rfl (Nat.le_of_ble_eq_true rfl) i_6 (j := 10) tw_660 (fun _ h => h) d_M_keep_8 (fun a_r3 ha_r3 hv_r3 => ?_)
  refine lv_iconst (v := 1) hx hb d_M_keep_11 (by decide) ?_
  refine lv_iload_n hx hb d_M_keep_12 rfl (lv_at hl 2 rfl) ?_
  obtain ⟨w4, hw4, h⟩ := hy_bd h
  refine hy_iast B S ha_r3 hw4 d_M_keep_13 (fun H locs S hl_w4 => ?_)
  refine lv_aload_n hx hb d_M_keep_14 rfl (lv_at hl 0 rfl) ?_
  obtain ⟨r5, hr5, h⟩ := hy_bd h
  refine hy_getr B S ha_v0 hr5 rfl (Nat.le_of_ble_eq_true rfl) i_6 (j := 10) tw_660 (fun _ h => h) d_M_keep_15 (fun a_r5 ha_r5 hv_r5 => ?_)
  refine lv_iconst (v := 2) hx hb d_M_keep_18 (by decide) ?_
  refine lv_iload_n hx hb d_M_keep_19 rfl (lv_at hl 3 rfl) ?_
  obtain ⟨w6, hw6, h⟩ := hy_bd h
  refine hy_iast B S ha_r5 hw6 d_M_keep_20 (fun H locs S hl_w6 => ?_)
  refine lv_aload_n hx hb d_M_keep_21 rfl (lv_at hl 0 rfl) ?_
  obtain ⟨r7, hr7, h⟩ := hy_bd h
  refine hy_getr B S ha_v0 hr7 rfl (Nat.le_of_ble_eq_true rfl) i_6 (j := 10) tw_660 (fun _ h => h) d_M_keep_22 (fun a_r7 ha_r7 hv_r7 => ?_)
  refine lv_iconst (v := 3) hx hb d_M_keep_25 (by decide) ?_
  refine lv_iload hx hb d_M_keep_26 (lv_at hl 4 rfl) ?_
  obtain ⟨w8, hw8, h⟩ := hy_bd h
  refine hy_iast B S ha_r7 hw8 d_M_keep_28 (fun H locs S hl_w8 => ?_)
  refine lv_aload_n hx hb d_M_keep_29 rfl (lv_at hl 0 rfl) ?_
  obtain ⟨r9, hr9, h⟩ := hy_bd h
  refine hy_getr B S ha_v0 hr9 rfl (Nat.le_of_ble_eq_true rfl) i_6 (j := 10) tw_660 (fun _ h => h) d_M_keep_30 (fun a_r9 ha_r9 hv_r9 => ?_)
  refine lv_iconst (v := 4) hx hb d_M_keep_33 (by decide) ?_
  refine lv_iload hx hb d_M_keep_34 (lv_at hl 5 rfl) ?_
  obtain ⟨w10, hw10, h⟩ := hy_bd h
  refine hy_iast B S ha_r9 hw10 d_M_keep_36 (fun H locs S hl_w10 => ?_)
  cases h
  cases K
  exact hy_vret hA B S d_M_keep_37
theorem nk_M_keep {p : Program} {l : Launch} {e : Env} {s : State} {m : MethodId} {args : Array Value} {below : List Frame} {meth : Method} {c : Code} {G : hy_G} {A : Nat → Prop} {ad0 : Nat → Nat} {w0 : hy_W} {o : hy_O} (hl9 : l.flags = flags0) (hA : hy_A G ad0 w0 s.heap.size = A) (B : hy_B p l e (hy_rm 0 0 w0) s m args below meth c "HyphenPatternsModel" b_M_keep 6 none [] G A) (q : hy_P) (nx : hy_N) (hq : nx_M_keep q = some nx) (K : hy_Nx lay_M_keep p l e (hy_rm 0 0 w0) s m args below meth c 6 G A ad0 w0.1.length (hy_Q below G ad0 w0 o args s) o nx) : hy_At lay_M_keep p l e (hy_rm 0 0 w0) s m args below meth c 6 G A ad0 w0.1.length (hy_Q below G ad0 w0 o args s) q := by
  unfold nx_M_keep at hq
  split at hq
  · exact sk_M_keep_0 hl9 hA B _ _ _ _ _ _ _ nx hq K
  · cases hq
theorem c_M_keep {l : Launch} (hl9 : l.flags = flags0) (G : hy_G) (ad : Nat → Nat) {v0 : Nat} {v1 : Int32} {v2 : Int32} {v3 : Int32} {v4 : Int32} {v5 : Int32} {w : hy_W} {o : hy_O} (h : f_M_keep [.ref v0, .int v1, .int v2, .int v3, .int v4, .int v5] w = some o) : hy_M l y_M_keep (Cond.code y_M_keep b_M_keep 6 none :: hy_T) 0 0 G ad [.ref v0, .int v1, .int v2, .int v3, .int v4, .int v5] w o := by
  obtain ⟨n, hn⟩ := hy_fx_iff.mp h
  refine hy_ofW hl9 (by decide +kernel) (Nat.le_of_ble_eq_true rfl) (fun p e s m args below meth c A hA hi B S hok ls hl => ?_)
  exact hy_loop (nk_M_keep hl9 hA B) n _ hn ad s.heap [] 0 0 ls S hok hl
theorem d_M_given_0 : decode b_M_given 0 = .ok (.iconst 0, 1) := by decide +kernel
theorem d_M_given_1 : decode b_M_given 1 = .ok (.istore_n 1, 1) := by decide +kernel
theorem d_M_given_2 : decode b_M_given 2 = .ok (.iload_n 1, 1) := by decide +kernel
theorem d_M_given_3 : decode b_M_given 3 = .ok (.iconst 5, 1) := by decide +kernel
theorem d_M_given_4 : decode b_M_given 4 = .ok (.if_icmp .ge 20, 3) := by decide +kernel
theorem d_M_given_7 : decode b_M_given 7 = .ok (.aload_n 0, 1) := by decide +kernel
theorem d_M_given_8 : decode b_M_given 8 = .ok (.getfield 31, 3) := by decide +kernel
theorem d_M_given_11 : decode b_M_given 11 = .ok (.iload_n 1, 1) := by decide +kernel
theorem d_M_given_12 : decode b_M_given 12 = .ok (.iaload, 1) := by decide +kernel
theorem d_M_given_13 : decode b_M_given 13 = .ok (.bipush (-11), 2) := by decide +kernel
theorem d_M_given_15 : decode b_M_given 15 = .ok (.if_icmp .eq 9, 3) := by decide +kernel
theorem d_M_given_18 : decode b_M_given 18 = .ok (.iinc 1 1, 3) := by decide +kernel
theorem d_M_given_21 : decode b_M_given 21 = .ok (.goto (-19), 3) := by decide +kernel
theorem d_M_given_24 : decode b_M_given 24 = .ok (.iload_n 1, 1) := by decide +kernel
theorem d_M_given_25 : decode b_M_given 25 = .ok (.ireturn, 1) := by decide +kernel
def lay_M_given (pc : Nat) : List Nat := if pc = 0 then [0] else if pc = 2 then [0, 1] else []
noncomputable def sg_M_given_0 (v0 : Nat) (w : hy_W) : Option hy_N := some (.inl (2, [.ref v0, .int 0], w))
noncomputable def sg_M_given_2 (v0 : Nat) (v1 : Int32) (w : hy_W) : Option hy_N := if (5 : Int32) ≤ v1 then (some (.inr (.inl (some (.int v1)), w))) else ((hy_gr w v0 6 10).bind fun r2 => (hy_ai w r2 v1).bind fun x3 => if x3 = (-11) then (some (.inr (.inl (some (.int v1)), w))) else (some (.inl (2, [.ref v0, .int (v1 + 1)], w))))
noncomputable def nx_M_given (q : hy_P) : Option hy_N := match q with
  | (0, [.ref v0], w) => sg_M_given_0 v0 w
  | (2, [.ref v0, .int v1], w) => sg_M_given_2 v0 v1 w
  | _ => none
noncomputable def f_M_given (av : List Value) (w : hy_W) : Option hy_O := hy_fx nx_M_given (0, av, w)
set_option maxHeartbeats 4000000 in
set_option maxRecDepth 100000 in
theorem sk_M_given_0 {p : Program} {l : Launch} {e : Env} {s : State} {m : MethodId} {args : Array Value} {below : List Frame} {meth : Method} {c : Code} {G : hy_G} {A : Nat → Prop} {ad0 : Nat → Nat} {w0 : hy_W} {o : hy_O} (hl9 : l.flags = flags0) (hA : hy_A G ad0 w0 s.heap.size = A) (B : hy_B p l e (hy_rm 0 0 w0) s m args below meth c "HyphenPatternsModel" b_M_given 2 (some .int) [] G A) (v0 : Nat) (w : hy_W) (nx : hy_N) (h : sg_M_given_0 v0 w = some nx) (K : hy_Nx lay_M_given p l e (hy_rm 0 0 w0) s m args below meth c 2 G A ad0 w0.1.length (hy_Q below G ad0 w0 o args s) o nx) : hy_At lay_M_given p l e (hy_rm 0 0 w0) s m args below meth c 2 G A ad0 w0.1.length (hy_Q below G ad0 w0 o args s) (0, [.ref v0], w) := by
  intro ad H locs cells slots ls S hok hl
  have hx := B.1
  have hb := B.2.1
  dsimp only at S hok
  have hl : lv_has ls 2 [(0, .ref (ad v0))] := hl
  show W p l e (hy_rm 0 0 w0) s m args below meth c H locs cells slots (hy_Q below G ad0 w0 o args s) (F0 m 0 ls [])
  have hv_v0 : v0 < w.1.length := hok (.ref v0) (List.mem_of_getElem? (i := 0) rfl) v0 rfl
  obtain ⟨a_v0, ha_v0⟩ : ∃ a, ad v0 = a := ⟨_, rfl⟩
  rw [ha_v0] at hl
  unfold sg_M_given_0 at h
  refine lv_iconst (v := 0) hx hb d_M_given_0 (by decide) ?_
  refine lv_istore_n (lv' := [(1, .int 0), (0, .ref a_v0)]) hx hb d_M_given_1 rfl hl (Nat.le_of_ble_eq_true rfl) rfl (fun ls hl => ?_)
  cases h
  exact hy_jump K S (hy_okr (by omega) (hy_oki hy_ok0)) (lv_sub hl [1, 0] rfl) (by subst ha_v0; rfl) (by subst ha_v0; rfl)
set_option maxHeartbeats 4000000 in
set_option maxRecDepth 100000 in
theorem sk_M_given_2 {p : Program} {l : Launch} {e : Env} {s : State} {m : MethodId} {args : Array Value} {below : List Frame} {meth : Method} {c : Code} {G : hy_G} {A : Nat → Prop} {ad0 : Nat → Nat} {w0 : hy_W} {o : hy_O} (hl9 : l.flags = flags0) (hA : hy_A G ad0 w0 s.heap.size = A) (B : hy_B p l e (hy_rm 0 0 w0) s m args below meth c "HyphenPatternsModel" b_M_given 2 (some .int) [] G A) (v0 : Nat) (v1 : Int32) (w : hy_W) (nx : hy_N) (h : sg_M_given_2 v0 v1 w = some nx) (K : hy_Nx lay_M_given p l e (hy_rm 0 0 w0) s m args below meth c 2 G A ad0 w0.1.length (hy_Q below G ad0 w0 o args s) o nx) : hy_At lay_M_given p l e (hy_rm 0 0 w0) s m args below meth c 2 G A ad0 w0.1.length (hy_Q below G ad0 w0 o args s) (2, [.ref v0, .int v1], w) := by
  intro ad H locs cells slots ls S hok hl
  have hx := B.1
  have hb := B.2.1
  dsimp only at S hok
  have hl : lv_has ls 2 [(0, .ref (ad v0)), (1, .int v1)] := hl
  show W p l e (hy_rm 0 0 w0) s m args below meth c H locs cells slots (hy_Q below G ad0 w0 o args s) (F0 m 2 ls [])
  have hv_v0 : v0 < w.1.length := hok (.ref v0) (List.mem_of_getElem? (i := 0) rfl) v0 rfl
  obtain ⟨a_v0, ha_v0⟩ : ∃ a, ad v0 = a := ⟨_, rfl⟩
  rw [ha_v0] at hl
  unfold sg_M_given_2 at h
  refine lv_iload_n hx hb d_M_given_2 rfl (lv_at hl 1 rfl) ?_
  refine lv_iconst (v := 5) hx hb d_M_given_3 (by decide) ?_
  refine lv_icmp_ge (tgt := 24) hx hb d_M_given_4 (by decide) (fun c1 => ?_) (fun c1 => ?_)
  · rw [if_pos c1] at h
    refine lv_iload_n hx hb d_M_given_24 rfl (lv_at hl 1 rfl) ?_
    cases h
    cases K
    exact hy_iret hA B S d_M_given_25
  · rw [if_neg c1] at h
    refine lv_aload_n hx hb d_M_given_7 rfl (lv_at hl 0 rfl) ?_
    obtain ⟨r2, hr2, h⟩ := hy_bd h
    refine hy_getr B S ha_v0 hr2 rfl (Nat.le_of_ble_eq_true rfl) i_6 (j := 10) tw_660 (fun _ h => h) d_M_given_8 (fun a_r2 ha_r2 hv_r2 => ?_)
    refine lv_iload_n hx hb d_M_given_11 rfl (lv_at hl 1 rfl) ?_
    obtain ⟨x3, hx3, h⟩ := hy_bd h
    refine hy_iald B S ha_r2 hx3 d_M_given_12 ?_
    refine lv_bipush (v := (-11)) hx hb d_M_given_13 (by decide) ?_
    refine lv_icmp_eq (tgt := 24) hx hb d_M_given_15 (by decide) (fun c4 => ?_) (fun c4 => ?_)
    · rw [if_pos c4] at h
      refine lv_iload_n hx hb d_M_given_24 rfl (lv_at hl 1 rfl) ?_
      cases h
      cases K
      exact hy_iret hA B S d_M_given_25
    · rw [if_neg c4] at h
      refine lv_iinc (v := (v1 + 1)) (lv' := [(1, .int (v1 + 1)), (0, .ref a_v0)]) hx hb d_M_given_18 hl (k := 1) rfl rfl (Nat.le_of_ble_eq_true rfl) rfl (fun ls hl => ?_)
      refine lv_goto (tgt := 2) hx hb d_M_given_21 (by decide) ?_
      cases h
      exact hy_jump K S (hy_okr (by omega) (hy_oki hy_ok0)) (lv_sub hl [1, 0] rfl) (by subst ha_v0; rfl) (by subst ha_v0; rfl)
theorem nk_M_given {p : Program} {l : Launch} {e : Env} {s : State} {m : MethodId} {args : Array Value} {below : List Frame} {meth : Method} {c : Code} {G : hy_G} {A : Nat → Prop} {ad0 : Nat → Nat} {w0 : hy_W} {o : hy_O} (hl9 : l.flags = flags0) (hA : hy_A G ad0 w0 s.heap.size = A) (B : hy_B p l e (hy_rm 0 0 w0) s m args below meth c "HyphenPatternsModel" b_M_given 2 (some .int) [] G A) (q : hy_P) (nx : hy_N) (hq : nx_M_given q = some nx) (K : hy_Nx lay_M_given p l e (hy_rm 0 0 w0) s m args below meth c 2 G A ad0 w0.1.length (hy_Q below G ad0 w0 o args s) o nx) : hy_At lay_M_given p l e (hy_rm 0 0 w0) s m args below meth c 2 G A ad0 w0.1.length (hy_Q below G ad0 w0 o args s) q := by
  unfold nx_M_given at hq
  split at hq
  · exact sk_M_given_0 hl9 hA B _ _ nx hq K
  · exact sk_M_given_2 hl9 hA B _ _ _ nx hq K
  · cases hq
theorem c_M_given {l : Launch} (hl9 : l.flags = flags0) (G : hy_G) (ad : Nat → Nat) {v0 : Nat} {w : hy_W} {o : hy_O} (h : f_M_given [.ref v0] w = some o) : hy_M l y_M_given (Cond.code y_M_given b_M_given 2 (some .int) :: hy_T) 0 0 G ad [.ref v0] w o := by
  obtain ⟨n, hn⟩ := hy_fx_iff.mp h
  refine hy_ofW hl9 (by decide +kernel) (Nat.le_of_ble_eq_true rfl) (fun p e s m args below meth c A hA hi B S hok ls hl => ?_)
  exact hy_loop (nk_M_given hl9 hA B) n _ hn ad s.heap [] 0 0 ls S hok hl
theorem d_M_isSound_0 : decode b_M_isSound 0 = .ok (.iconst 1, 1) := by decide +kernel
theorem d_M_isSound_1 : decode b_M_isSound 1 = .ok (.istore_n 3, 1) := by decide +kernel
theorem d_M_isSound_2 : decode b_M_isSound 2 = .ok (.iconst 0, 1) := by decide +kernel
theorem d_M_isSound_3 : decode b_M_isSound 3 = .ok (.istore 4, 2) := by decide +kernel
theorem d_M_isSound_5 : decode b_M_isSound 5 = .ok (.iload 4, 2) := by decide +kernel
theorem d_M_isSound_7 : decode b_M_isSound 7 = .ok (.iload_n 1, 1) := by decide +kernel
theorem d_M_isSound_8 : decode b_M_isSound 8 = .ok (.if_icmp .ge 42, 3) := by decide +kernel
theorem d_M_isSound_11 : decode b_M_isSound 11 = .ok (.iload_n 3, 1) := by decide +kernel
theorem d_M_isSound_12 : decode b_M_isSound 12 = .ok (.ifCond .eq 30, 3) := by decide +kernel
theorem d_M_isSound_15 : decode b_M_isSound 15 = .ok (.aload_n 0, 1) := by decide +kernel
theorem d_M_isSound_16 : decode b_M_isSound 16 = .ok (.getfield 31, 3) := by decide +kernel
theorem d_M_isSound_19 : decode b_M_isSound 19 = .ok (.iload 4, 2) := by decide +kernel
theorem d_M_isSound_21 : decode b_M_isSound 21 = .ok (.iaload, 1) := by decide +kernel
theorem d_M_isSound_22 : decode b_M_isSound 22 = .ok (.iload_n 2, 1) := by decide +kernel
theorem d_M_isSound_23 : decode b_M_isSound 23 = .ok (.if_icmp .lt 19, 3) := by decide +kernel
theorem d_M_isSound_26 : decode b_M_isSound 26 = .ok (.aload_n 0, 1) := by decide +kernel
theorem d_M_isSound_27 : decode b_M_isSound 27 = .ok (.getfield 31, 3) := by decide +kernel
theorem d_M_isSound_30 : decode b_M_isSound 30 = .ok (.iload 4, 2) := by decide +kernel
theorem d_M_isSound_32 : decode b_M_isSound 32 = .ok (.iaload, 1) := by decide +kernel
theorem d_M_isSound_33 : decode b_M_isSound 33 = .ok (.ldc 71, 2) := by decide +kernel
theorem d_M_isSound_35 : decode b_M_isSound 35 = .ok (.if_icmp .gt 7, 3) := by decide +kernel
theorem d_M_isSound_38 : decode b_M_isSound 38 = .ok (.iconst 1, 1) := by decide +kernel
theorem d_M_isSound_39 : decode b_M_isSound 39 = .ok (.goto 4, 3) := by decide +kernel
theorem d_M_isSound_42 : decode b_M_isSound 42 = .ok (.iconst 0, 1) := by decide +kernel
theorem d_M_isSound_43 : decode b_M_isSound 43 = .ok (.istore_n 3, 1) := by decide +kernel
theorem d_M_isSound_44 : decode b_M_isSound 44 = .ok (.iinc 4 1, 3) := by decide +kernel
theorem d_M_isSound_47 : decode b_M_isSound 47 = .ok (.goto (-42), 3) := by decide +kernel
theorem d_M_isSound_50 : decode b_M_isSound 50 = .ok (.iload_n 3, 1) := by decide +kernel
theorem d_M_isSound_51 : decode b_M_isSound 51 = .ok (.ireturn, 1) := by decide +kernel
def lay_M_isSound (pc : Nat) : List Nat := if pc = 0 then [0, 1, 2] else if pc = 5 then [0, 1, 2, 3, 4] else if pc = 42 then [0, 1, 2, 4] else if pc = 43 then [0, 1, 2, 4] else []
noncomputable def sg_M_isSound_0 (v0 : Nat) (v1 : Int32) (v2 : Int32) (w : hy_W) : Option hy_N := some (.inl (5, [.ref v0, .int v1, .int v2, .int 1, .int 0], w))
noncomputable def sg_M_isSound_5 (v0 : Nat) (v1 : Int32) (v2 : Int32) (v3 : Int32) (v4 : Int32) (w : hy_W) : Option hy_N := if v1 ≤ v4 then (if v3 = 0 ∨ v3 = 1 then some (.inr (.inl (some (.int v3)), w)) else none) else (if v3 = 0 then (some (.inl (42, [.ref v0, .int v1, .int v2, .int v4], w))) else ((hy_gr w v0 6 10).bind fun r4 => (hy_ai w r4 v4).bind fun x5 => if x5 < v2 then (some (.inl (42, [.ref v0, .int v1, .int v2, .int v4], w))) else ((hy_gr w v0 6 10).bind fun r7 => (hy_ai w r7 v4).bind fun x8 => if (1114111 : Int32) < x8 then (some (.inl (42, [.ref v0, .int v1, .int v2, .int v4], w))) else (some (.inl (43, [.ref v0, .int v1, .int v2, .int v4, .int 1], w))))))
noncomputable def sg_M_isSound_42 (v0 : Nat) (v1 : Int32) (v2 : Int32) (v4 : Int32) (w : hy_W) : Option hy_N := some (.inl (43, [.ref v0, .int v1, .int v2, .int v4, .int 0], w))
noncomputable def sg_M_isSound_43 (v0 : Nat) (v1 : Int32) (v2 : Int32) (v4 : Int32) (s0 : Int32) (w : hy_W) : Option hy_N := some (.inl (5, [.ref v0, .int v1, .int v2, .int s0, .int (v4 + 1)], w))
noncomputable def nx_M_isSound (q : hy_P) : Option hy_N := match q with
  | (0, [.ref v0, .int v1, .int v2], w) => sg_M_isSound_0 v0 v1 v2 w
  | (5, [.ref v0, .int v1, .int v2, .int v3, .int v4], w) => sg_M_isSound_5 v0 v1 v2 v3 v4 w
  | (42, [.ref v0, .int v1, .int v2, .int v4], w) => sg_M_isSound_42 v0 v1 v2 v4 w
  | (43, [.ref v0, .int v1, .int v2, .int v4, .int s0], w) => sg_M_isSound_43 v0 v1 v2 v4 s0 w
  | _ => none
noncomputable def f_M_isSound (av : List Value) (w : hy_W) : Option hy_O := hy_fx nx_M_isSound (0, av, w)
set_option maxHeartbeats 4000000 in
set_option maxRecDepth 100000 in
theorem sk_M_isSound_0 {p : Program} {l : Launch} {e : Env} {s : State} {m : MethodId} {args : Array Value} {below : List Frame} {meth : Method} {c : Code} {G : hy_G} {A : Nat → Prop} {ad0 : Nat → Nat} {w0 : hy_W} {o : hy_O} (hl9 : l.flags = flags0) (hA : hy_A G ad0 w0 s.heap.size = A) (B : hy_B p l e (hy_rm 0 0 w0) s m args below meth c "HyphenPatternsModel" b_M_isSound 5 (some .boolean) [] G A) (v0 : Nat) (v1 : Int32) (v2 : Int32) (w : hy_W) (nx : hy_N) (h : sg_M_isSound_0 v0 v1 v2 w = some nx) (K : hy_Nx lay_M_isSound p l e (hy_rm 0 0 w0) s m args below meth c 5 G A ad0 w0.1.length (hy_Q below G ad0 w0 o args s) o nx) : hy_At lay_M_isSound p l e (hy_rm 0 0 w0) s m args below meth c 5 G A ad0 w0.1.length (hy_Q below G ad0 w0 o args s) (0, [.ref v0, .int v1, .int v2], w) := by
  intro ad H locs cells slots ls S hok hl
  have hx := B.1
  have hb := B.2.1
  dsimp only at S hok
  have hl : lv_has ls 5 [(0, .ref (ad v0)), (1, .int v1), (2, .int v2)] := hl
  show W p l e (hy_rm 0 0 w0) s m args below meth c H locs cells slots (hy_Q below G ad0 w0 o args s) (F0 m 0 ls [])
  have hv_v0 : v0 < w.1.length := hok (.ref v0) (List.mem_of_getElem? (i := 0) rfl) v0 rfl
  obtain ⟨a_v0, ha_v0⟩ : ∃ a, ad v0 = a := ⟨_, rfl⟩
  rw [ha_v0] at hl
  unfold sg_M_isSound_0 at h
  refine lv_iconst (v := 1) hx hb d_M_isSound_0 (by decide) ?_
  refine lv_istore_n (lv' := [(3, .int 1), (0, .ref a_v0), (1, .int v1), (2, .int v2)]) hx hb d_M_isSound_1 rfl hl (Nat.le_of_ble_eq_true rfl) rfl (fun ls hl => ?_)
  refine lv_iconst (v := 0) hx hb d_M_isSound_2 (by decide) ?_
  refine lv_istore (lv' := [(4, .int 0), (3, .int 1), (0, .ref a_v0), (1, .int v1), (2, .int v2)]) hx hb d_M_isSound_3 hl (Nat.le_of_ble_eq_true rfl) rfl (fun ls hl => ?_)
  cases h
  exact hy_jump K S (hy_okr (by omega) (hy_oki (hy_oki (hy_oki (hy_oki hy_ok0))))) (lv_sub hl [2, 3, 4, 1, 0] rfl) (by subst ha_v0; rfl) (by subst ha_v0; rfl)
set_option maxHeartbeats 4000000 in
set_option maxRecDepth 100000 in
theorem sk_M_isSound_5 {p : Program} {l : Launch} {e : Env} {s : State} {m : MethodId} {args : Array Value} {below : List Frame} {meth : Method} {c : Code} {G : hy_G} {A : Nat → Prop} {ad0 : Nat → Nat} {w0 : hy_W} {o : hy_O} (hl9 : l.flags = flags0) (hA : hy_A G ad0 w0 s.heap.size = A) (B : hy_B p l e (hy_rm 0 0 w0) s m args below meth c "HyphenPatternsModel" b_M_isSound 5 (some .boolean) [] G A) (v0 : Nat) (v1 : Int32) (v2 : Int32) (v3 : Int32) (v4 : Int32) (w : hy_W) (nx : hy_N) (h : sg_M_isSound_5 v0 v1 v2 v3 v4 w = some nx) (K : hy_Nx lay_M_isSound p l e (hy_rm 0 0 w0) s m args below meth c 5 G A ad0 w0.1.length (hy_Q below G ad0 w0 o args s) o nx) : hy_At lay_M_isSound p l e (hy_rm 0 0 w0) s m args below meth c 5 G A ad0 w0.1.length (hy_Q below G ad0 w0 o args s) (5, [.ref v0, .int v1, .int v2, .int v3, .int v4], w) := by
  intro ad H locs cells slots ls S hok hl
  have hx := B.1
  have hb := B.2.1
  dsimp only at S hok
  have hl : lv_has ls 5 [(0, .ref (ad v0)), (1, .int v1), (2, .int v2), (3, .int v3), (4, .int v4)] := hl
  show W p l e (hy_rm 0 0 w0) s m args below meth c H locs cells slots (hy_Q below G ad0 w0 o args s) (F0 m 5 ls [])
  have hv_v0 : v0 < w.1.length := hok (.ref v0) (List.mem_of_getElem? (i := 0) rfl) v0 rfl
  obtain ⟨a_v0, ha_v0⟩ : ∃ a, ad v0 = a := ⟨_, rfl⟩
  rw [ha_v0] at hl
  unfold sg_M_isSound_5 at h
  refine lv_iload hx hb d_M_isSound_5 (lv_at hl 4 rfl) ?_
  refine lv_iload_n hx hb d_M_isSound_7 rfl (lv_at hl 1 rfl) ?_
  refine lv_icmp_ge (tgt := 50) hx hb d_M_isSound_8 (by decide) (fun c1 => ?_) (fun c1 => ?_)
  · rw [if_pos c1] at h
    refine lv_iload_n hx hb d_M_isSound_50 rfl (lv_at hl 3 rfl) ?_
    obtain ⟨z2, h⟩ := hy_if h
    cases h
    cases K
    exact hy_zret hA B S z2 d_M_isSound_51
  · rw [if_neg c1] at h
    refine lv_iload_n hx hb d_M_isSound_11 rfl (lv_at hl 3 rfl) ?_
    refine lv_if_eq (tgt := 42) hx hb d_M_isSound_12 (by decide) (fun c3 => ?_) (fun c3 => ?_)
    · rw [if_pos c3] at h
      cases h
      exact hy_jump K S (hy_okr (by omega) (hy_oki (hy_oki (hy_oki hy_ok0)))) (lv_sub hl [0, 1, 2, 4] rfl) (by subst ha_v0; rfl) (by subst ha_v0; rfl)
    · rw [if_neg c3] at h
      refine lv_aload_n hx hb d_M_isSound_15 rfl (lv_at hl 0 rfl) ?_
      obtain ⟨r4, hr4, h⟩ := hy_bd h
      refine hy_getr B S ha_v0 hr4 rfl (Nat.le_of_ble_eq_true rfl) i_6 (j := 10) tw_660 (fun _ h => h) d_M_isSound_16 (fun a_r4 ha_r4 hv_r4 => ?_)
      refine lv_iload hx hb d_M_isSound_19 (lv_at hl 4 rfl) ?_
      obtain ⟨x5, hx5, h⟩ := hy_bd h
      refine hy_iald B S ha_r4 hx5 d_M_isSound_21 ?_
      refine lv_iload_n hx hb d_M_isSound_22 rfl (lv_at hl 2 rfl) ?_
      refine lv_icmp_lt (tgt := 42) hx hb d_M_isSound_23 (by decide) (fun c6 => ?_) (fun c6 => ?_)
      · rw [if_pos c6] at h
        cases h
        exact hy_jump K S (hy_okr (by omega) (hy_oki (hy_oki (hy_oki hy_ok0)))) (lv_sub hl [0, 1, 2, 4] rfl) (by subst ha_v0; rfl) (by subst ha_v0; rfl)
      · rw [if_neg c6] at h
        refine lv_aload_n hx hb d_M_isSound_26 rfl (lv_at hl 0 rfl) ?_
        obtain ⟨r7, hr7, h⟩ := hy_bd h
        refine hy_getr B S ha_v0 hr7 rfl (Nat.le_of_ble_eq_true rfl) i_6 (j := 10) tw_660 (fun _ h => h) d_M_isSound_27 (fun a_r7 ha_r7 hv_r7 => ?_)
        refine lv_iload hx hb d_M_isSound_30 (lv_at hl 4 rfl) ?_
        obtain ⟨x8, hx8, h⟩ := hy_bd h
        refine hy_iald B S ha_r7 hx8 d_M_isSound_32 ?_
        refine lv_ldc (v := 1114111) hx hb B.2.2.2.1 (B.2.2.2.2.1 _ tw_748) d_M_isSound_33 ?_
        refine lv_icmp_gt (tgt := 42) hx hb d_M_isSound_35 (by decide) (fun c9 => ?_) (fun c9 => ?_)
        · rw [if_pos c9] at h
          cases h
          exact hy_jump K S (hy_okr (by omega) (hy_oki (hy_oki (hy_oki hy_ok0)))) (lv_sub hl [0, 1, 2, 4] rfl) (by subst ha_v0; rfl) (by subst ha_v0; rfl)
        · rw [if_neg c9] at h
          refine lv_iconst (v := 1) hx hb d_M_isSound_38 (by decide) ?_
          refine lv_goto (tgt := 43) hx hb d_M_isSound_39 (by decide) ?_
          cases h
          exact hy_jump K S (hy_okr (by omega) (hy_oki (hy_oki (hy_oki (hy_oki hy_ok0))))) (lv_sub hl [0, 1, 2, 4] rfl) (by subst ha_v0; rfl) (by subst ha_v0; rfl)
set_option maxHeartbeats 4000000 in
set_option maxRecDepth 100000 in
theorem sk_M_isSound_42 {p : Program} {l : Launch} {e : Env} {s : State} {m : MethodId} {args : Array Value} {below : List Frame} {meth : Method} {c : Code} {G : hy_G} {A : Nat → Prop} {ad0 : Nat → Nat} {w0 : hy_W} {o : hy_O} (hl9 : l.flags = flags0) (hA : hy_A G ad0 w0 s.heap.size = A) (B : hy_B p l e (hy_rm 0 0 w0) s m args below meth c "HyphenPatternsModel" b_M_isSound 5 (some .boolean) [] G A) (v0 : Nat) (v1 : Int32) (v2 : Int32) (v4 : Int32) (w : hy_W) (nx : hy_N) (h : sg_M_isSound_42 v0 v1 v2 v4 w = some nx) (K : hy_Nx lay_M_isSound p l e (hy_rm 0 0 w0) s m args below meth c 5 G A ad0 w0.1.length (hy_Q below G ad0 w0 o args s) o nx) : hy_At lay_M_isSound p l e (hy_rm 0 0 w0) s m args below meth c 5 G A ad0 w0.1.length (hy_Q below G ad0 w0 o args s) (42, [.ref v0, .int v1, .int v2, .int v4], w) := by
  intro ad H locs cells slots ls S hok hl
  have hx := B.1
  have hb := B.2.1
  dsimp only at S hok
  have hl : lv_has ls 5 [(0, .ref (ad v0)), (1, .int v1), (2, .int v2), (4, .int v4)] := hl
  show W p l e (hy_rm 0 0 w0) s m args below meth c H locs cells slots (hy_Q below G ad0 w0 o args s) (F0 m 42 ls [])
  have hv_v0 : v0 < w.1.length := hok (.ref v0) (List.mem_of_getElem? (i := 0) rfl) v0 rfl
  obtain ⟨a_v0, ha_v0⟩ : ∃ a, ad v0 = a := ⟨_, rfl⟩
  rw [ha_v0] at hl
  unfold sg_M_isSound_42 at h
  refine lv_iconst (v := 0) hx hb d_M_isSound_42 (by decide) ?_
  cases h
  exact hy_jump K S (hy_okr (by omega) (hy_oki (hy_oki (hy_oki (hy_oki hy_ok0))))) (lv_sub hl [0, 1, 2, 3] rfl) (by subst ha_v0; rfl) (by subst ha_v0; rfl)
set_option maxHeartbeats 4000000 in
set_option maxRecDepth 100000 in
theorem sk_M_isSound_43 {p : Program} {l : Launch} {e : Env} {s : State} {m : MethodId} {args : Array Value} {below : List Frame} {meth : Method} {c : Code} {G : hy_G} {A : Nat → Prop} {ad0 : Nat → Nat} {w0 : hy_W} {o : hy_O} (hl9 : l.flags = flags0) (hA : hy_A G ad0 w0 s.heap.size = A) (B : hy_B p l e (hy_rm 0 0 w0) s m args below meth c "HyphenPatternsModel" b_M_isSound 5 (some .boolean) [] G A) (v0 : Nat) (v1 : Int32) (v2 : Int32) (v4 : Int32) (s0 : Int32) (w : hy_W) (nx : hy_N) (h : sg_M_isSound_43 v0 v1 v2 v4 s0 w = some nx) (K : hy_Nx lay_M_isSound p l e (hy_rm 0 0 w0) s m args below meth c 5 G A ad0 w0.1.length (hy_Q below G ad0 w0 o args s) o nx) : hy_At lay_M_isSound p l e (hy_rm 0 0 w0) s m args below meth c 5 G A ad0 w0.1.length (hy_Q below G ad0 w0 o args s) (43, [.ref v0, .int v1, .int v2, .int v4, .int s0], w) := by
  intro ad H locs cells slots ls S hok hl
  have hx := B.1
  have hb := B.2.1
  dsimp only at S hok
  have hl : lv_has ls 5 [(0, .ref (ad v0)), (1, .int v1), (2, .int v2), (4, .int v4)] := hl
  show W p l e (hy_rm 0 0 w0) s m args below meth c H locs cells slots (hy_Q below G ad0 w0 o args s) (F0 m 43 ls [.int s0])
  have hv_v0 : v0 < w.1.length := hok (.ref v0) (List.mem_of_getElem? (i := 0) rfl) v0 rfl
  obtain ⟨a_v0, ha_v0⟩ : ∃ a, ad v0 = a := ⟨_, rfl⟩
  rw [ha_v0] at hl
  unfold sg_M_isSound_43 at h
  refine lv_istore_n (lv' := [(3, .int s0), (0, .ref a_v0), (1, .int v1), (2, .int v2), (4, .int v4)]) hx hb d_M_isSound_43 rfl hl (Nat.le_of_ble_eq_true rfl) rfl (fun ls hl => ?_)
  refine lv_iinc (v := (v4 + 1)) (lv' := [(4, .int (v4 + 1)), (3, .int s0), (0, .ref a_v0), (1, .int v1), (2, .int v2)]) hx hb d_M_isSound_44 hl (k := 4) rfl rfl (Nat.le_of_ble_eq_true rfl) rfl (fun ls hl => ?_)
  refine lv_goto (tgt := 5) hx hb d_M_isSound_47 (by decide) ?_
  cases h
  exact hy_jump K S (hy_okr (by omega) (hy_oki (hy_oki (hy_oki (hy_oki hy_ok0))))) (lv_sub hl [2, 3, 4, 1, 0] rfl) (by subst ha_v0; rfl) (by subst ha_v0; rfl)
theorem nk_M_isSound {p : Program} {l : Launch} {e : Env} {s : State} {m : MethodId} {args : Array Value} {below : List Frame} {meth : Method} {c : Code} {G : hy_G} {A : Nat → Prop} {ad0 : Nat → Nat} {w0 : hy_W} {o : hy_O} (hl9 : l.flags = flags0) (hA : hy_A G ad0 w0 s.heap.size = A) (B : hy_B p l e (hy_rm 0 0 w0) s m args below meth c "HyphenPatternsModel" b_M_isSound 5 (some .boolean) [] G A) (q : hy_P) (nx : hy_N) (hq : nx_M_isSound q = some nx) (K : hy_Nx lay_M_isSound p l e (hy_rm 0 0 w0) s m args below meth c 5 G A ad0 w0.1.length (hy_Q below G ad0 w0 o args s) o nx) : hy_At lay_M_isSound p l e (hy_rm 0 0 w0) s m args below meth c 5 G A ad0 w0.1.length (hy_Q below G ad0 w0 o args s) q := by
  unfold nx_M_isSound at hq
  split at hq
  · exact sk_M_isSound_0 hl9 hA B _ _ _ _ nx hq K
  · exact sk_M_isSound_5 hl9 hA B _ _ _ _ _ _ nx hq K
  · exact sk_M_isSound_42 hl9 hA B _ _ _ _ _ nx hq K
  · exact sk_M_isSound_43 hl9 hA B _ _ _ _ _ _ nx hq K
  · cases hq
theorem c_M_isSound {l : Launch} (hl9 : l.flags = flags0) (G : hy_G) (ad : Nat → Nat) {v0 : Nat} {v1 : Int32} {v2 : Int32} {w : hy_W} {o : hy_O} (h : f_M_isSound [.ref v0, .int v1, .int v2] w = some o) : hy_M l y_M_isSound (Cond.code y_M_isSound b_M_isSound 5 (some .boolean) :: hy_T) 0 0 G ad [.ref v0, .int v1, .int v2] w o := by
  obtain ⟨n, hn⟩ := hy_fx_iff.mp h
  refine hy_ofW hl9 (by decide +kernel) (Nat.le_of_ble_eq_true rfl) (fun p e s m args below meth c A hA hi B S hok ls hl => ?_)
  exact hy_loop (nk_M_isSound hl9 hA B) n _ hn ad s.heap [] 0 0 ls S hok hl
theorem d_M_tell_0 : decode b_M_tell 0 = .ok (.aload_n 0, 1) := by decide +kernel
theorem d_M_tell_1 : decode b_M_tell 1 = .ok (.iload_n 1, 1) := by decide +kernel
theorem d_M_tell_2 : decode b_M_tell 2 = .ok (.iload_n 2, 1) := by decide +kernel
theorem d_M_tell_3 : decode b_M_tell 3 = .ok (.iload_n 3, 1) := by decide +kernel
theorem d_M_tell_4 : decode b_M_tell 4 = .ok (.iload 4, 2) := by decide +kernel
theorem d_M_tell_6 : decode b_M_tell 6 = .ok (.iload 5, 2) := by decide +kernel
theorem d_M_tell_8 : decode b_M_tell 8 = .ok (.invokevirtual 84, 3) := by decide +kernel
theorem d_M_tell_11 : decode b_M_tell 11 = .ok (.aload_n 0, 1) := by decide +kernel
theorem d_M_tell_12 : decode b_M_tell 12 = .ok (.invokevirtual 88, 3) := by decide +kernel
theorem d_M_tell_15 : decode b_M_tell 15 = .ok (.istore 6, 2) := by decide +kernel
theorem d_M_tell_17 : decode b_M_tell 17 = .ok (.aload_n 0, 1) := by decide +kernel
theorem d_M_tell_18 : decode b_M_tell 18 = .ok (.aload_n 0, 1) := by decide +kernel
theorem d_M_tell_19 : decode b_M_tell 19 = .ok (.iload 6, 2) := by decide +kernel
theorem d_M_tell_21 : decode b_M_tell 21 = .ok (.bipush (-10), 2) := by decide +kernel
theorem d_M_tell_23 : decode b_M_tell 23 = .ok (.invokevirtual 92, 3) := by decide +kernel
theorem d_M_tell_26 : decode b_M_tell 26 = .ok (.ifCond .ne 7, 3) := by decide +kernel
theorem d_M_tell_29 : decode b_M_tell 29 = .ok (.iconst 1, 1) := by decide +kernel
theorem d_M_tell_30 : decode b_M_tell 30 = .ok (.goto 20, 3) := by decide +kernel
theorem d_M_tell_33 : decode b_M_tell 33 = .ok (.aload_n 0, 1) := by decide +kernel
theorem d_M_tell_34 : decode b_M_tell 34 = .ok (.getfield 96, 3) := by decide +kernel
theorem d_M_tell_37 : decode b_M_tell 37 = .ok (.iload 6, 2) := by decide +kernel
theorem d_M_tell_39 : decode b_M_tell 39 = .ok (.iadd, 1) := by decide +kernel
theorem d_M_tell_40 : decode b_M_tell 40 = .ok (.bipush 40, 2) := by decide +kernel
theorem d_M_tell_42 : decode b_M_tell 42 = .ok (.if_icmp .le 7, 3) := by decide +kernel
theorem d_M_tell_45 : decode b_M_tell 45 = .ok (.iconst 2, 1) := by decide +kernel
theorem d_M_tell_46 : decode b_M_tell 46 = .ok (.goto 4, 3) := by decide +kernel
theorem d_M_tell_49 : decode b_M_tell 49 = .ok (.iconst 0, 1) := by decide +kernel
theorem d_M_tell_50 : decode b_M_tell 50 = .ok (.invokevirtual 72, 3) := by decide +kernel
theorem d_M_tell_53 : decode b_M_tell 53 = .ok (.ifCond .eq 5, 3) := by decide +kernel
theorem d_M_tell_56 : decode b_M_tell 56 = .ok (.iconst 0, 1) := by decide +kernel
theorem d_M_tell_57 : decode b_M_tell 57 = .ok (.ireturn, 1) := by decide +kernel
theorem d_M_tell_58 : decode b_M_tell 58 = .ok (.iconst 0, 1) := by decide +kernel
theorem d_M_tell_59 : decode b_M_tell 59 = .ok (.istore 7, 2) := by decide +kernel
theorem d_M_tell_61 : decode b_M_tell 61 = .ok (.iload 7, 2) := by decide +kernel
theorem d_M_tell_63 : decode b_M_tell 63 = .ok (.iload 6, 2) := by decide +kernel
theorem d_M_tell_65 : decode b_M_tell 65 = .ok (.if_icmp .ge 35, 3) := by decide +kernel
theorem d_M_tell_68 : decode b_M_tell 68 = .ok (.aload_n 0, 1) := by decide +kernel
theorem d_M_tell_69 : decode b_M_tell 69 = .ok (.getfield 28, 3) := by decide +kernel
theorem d_M_tell_72 : decode b_M_tell 72 = .ok (.aload_n 0, 1) := by decide +kernel
theorem d_M_tell_73 : decode b_M_tell 73 = .ok (.getfield 96, 3) := by decide +kernel
theorem d_M_tell_76 : decode b_M_tell 76 = .ok (.aload_n 0, 1) := by decide +kernel
theorem d_M_tell_77 : decode b_M_tell 77 = .ok (.getfield 31, 3) := by decide +kernel
theorem d_M_tell_80 : decode b_M_tell 80 = .ok (.iload 7, 2) := by decide +kernel
theorem d_M_tell_82 : decode b_M_tell 82 = .ok (.iaload, 1) := by decide +kernel
theorem d_M_tell_83 : decode b_M_tell 83 = .ok (.iastore, 1) := by decide +kernel
theorem d_M_tell_84 : decode b_M_tell 84 = .ok (.aload_n 0, 1) := by decide +kernel
theorem d_M_tell_85 : decode b_M_tell 85 = .ok (.dup, 1) := by decide +kernel
theorem d_M_tell_86 : decode b_M_tell 86 = .ok (.getfield 96, 3) := by decide +kernel
theorem d_M_tell_89 : decode b_M_tell 89 = .ok (.iconst 1, 1) := by decide +kernel
theorem d_M_tell_90 : decode b_M_tell 90 = .ok (.iadd, 1) := by decide +kernel
theorem d_M_tell_91 : decode b_M_tell 91 = .ok (.putfield 96, 3) := by decide +kernel
theorem d_M_tell_94 : decode b_M_tell 94 = .ok (.iinc 7 1, 3) := by decide +kernel
theorem d_M_tell_97 : decode b_M_tell 97 = .ok (.goto (-36), 3) := by decide +kernel
theorem d_M_tell_100 : decode b_M_tell 100 = .ok (.aload_n 0, 1) := by decide +kernel
theorem d_M_tell_101 : decode b_M_tell 101 = .ok (.getfield 96, 3) := by decide +kernel
theorem d_M_tell_104 : decode b_M_tell 104 = .ok (.ireturn, 1) := by decide +kernel
def lay_M_tell (pc : Nat) : List Nat := if pc = 0 then [0, 1, 2, 3, 4, 5] else if pc = 50 then [0, 6] else if pc = 61 then [0, 6, 7] else []
noncomputable def sg_M_tell_0 (v0 : Nat) (v1 : Int32) (v2 : Int32) (v3 : Int32) (v4 : Int32) (v5 : Int32) (w : hy_W) : Option hy_N := if hy_ob w v0 6 = true then hy_bv (f_M_keep [.ref v0, .int v1, .int v2, .int v3, .int v4, .int v5] w) fun w1 => if hy_ob w1 v0 6 = true then hy_bi (f_M_given [.ref v0] w1) fun x7 w5 => if hy_ob w5 v0 6 = true then hy_bi (f_M_isSound [.ref v0, .int x7, .int (-10)] w5) fun x11 w9 => if x11 = 0 then (some (.inl (50, [.ref v0, .int x7, .int 1, .ref v0], w9))) else ((hy_gi w9 v0 6 8).bind fun x14 => if (x14 + x7) ≤ 40 then (some (.inl (50, [.ref v0, .int x7, .int 0, .ref v0], w9))) else (some (.inl (50, [.ref v0, .int x7, .int 2, .ref v0], w9)))) else none else none else none
noncomputable def sg_M_tell_50 (v0 : Nat) (v6 : Int32) (s0 : Int32) (s1 : Nat) (w : hy_W) : Option hy_N := if hy_ob w s1 6 = true then hy_bi (f_M_refused [.ref s1, .int s0] w) fun x3 w1 => if x3 = 0 then (some (.inl (61, [.ref v0, .int v6, .int 0], w1))) else (some (.inr (.inl (some (.int 0)), w1))) else none
noncomputable def sg_M_tell_61 (v0 : Nat) (v6 : Int32) (v7 : Int32) (w : hy_W) : Option hy_N := if v6 ≤ v7 then ((hy_gi w v0 6 8).bind fun x2 => some (.inr (.inl (some (.int x2)), w))) else ((hy_gr w v0 6 9).bind fun r3 => (hy_gi w v0 6 8).bind fun x4 => (hy_gr w v0 6 10).bind fun r5 => (hy_ai w r5 v7).bind fun x6 => (hy_pa w 0 r3 x4 (.int x6)).bind fun w7 => (hy_gi w7 v0 6 8).bind fun x8 => (hy_pf w7 v0 6 8 (.int (x8 + 1))).bind fun w9 => some (.inl (61, [.ref v0, .int v6, .int (v7 + 1)], w9)))
noncomputable def nx_M_tell (q : hy_P) : Option hy_N := match q with
  | (0, [.ref v0, .int v1, .int v2, .int v3, .int v4, .int v5], w) => sg_M_tell_0 v0 v1 v2 v3 v4 v5 w
  | (50, [.ref v0, .int v6, .int s0, .ref s1], w) => sg_M_tell_50 v0 v6 s0 s1 w
  | (61, [.ref v0, .int v6, .int v7], w) => sg_M_tell_61 v0 v6 v7 w
  | _ => none
noncomputable def f_M_tell (av : List Value) (w : hy_W) : Option hy_O := hy_fx nx_M_tell (0, av, w)
set_option maxHeartbeats 4000000 in
set_option maxRecDepth 100000 in
theorem sk_M_tell_0 {p : Program} {l : Launch} {e : Env} {s : State} {m : MethodId} {args : Array Value} {below : List Frame} {meth : Method} {c : Code} {G : hy_G} {A : Nat → Prop} {ad0 : Nat → Nat} {w0 : hy_W} {o : hy_O} (hl9 : l.flags = flags0) (hA : hy_A G ad0 w0 s.heap.size = A) (B : hy_B p l e (hy_rm 1 25 w0) s m args below meth c "HyphenPatternsModel" b_M_tell 8 (some .int) [] G A) (v0 : Nat) (v1 : Int32) (v2 : Int32) (v3 : Int32) (v4 : Int32) (v5 : Int32) (w : hy_W) (nx : hy_N) (h : sg_M_tell_0 v0 v1 v2 v3 v4 v5 w = some nx) (K : hy_Nx lay_M_tell p l e (hy_rm 1 25 w0) s m args below meth c 8 G A ad0 w0.1.length (hy_Q below G ad0 w0 o args s) o nx) : hy_At lay_M_tell p l e (hy_rm 1 25 w0) s m args below meth c 8 G A ad0 w0.1.length (hy_Q below G ad0 w0 o args s) (0, [.ref v0, .int v1, .int v2, .int v3, .int v4, .int v5], w) := by
  intro ad H locs cells slots ls S hok hl
  have hx := B.1
  have hb := B.2.1
  dsimp only at S hok
  have hl : lv_has ls 8 [(0, .ref (ad v0)), (1, .int v1), (2, .int v2), (3, .int v3), (4, .int v4), (5, .int v5)] := hl
  show W p l e (hy_rm 1 25 w0) s m args below meth c H locs cells slots (hy_Q below G ad0 w0 o args s) (F0 m 0 ls [])
  have hv_v0 : v0 < w.1.length := hok (.ref v0) (List.mem_of_getElem? (i := 0) rfl) v0 rfl
  obtain ⟨a_v0, ha_v0⟩ : ∃ a, ad v0 = a := ⟨_, rfl⟩
  rw [ha_v0] at hl
  unfold sg_M_tell_0 at h
  refine lv_aload_n hx hb d_M_tell_0 rfl (lv_at hl 0 rfl) ?_
  refine lv_iload_n hx hb d_M_tell_1 rfl (lv_at hl 1 rfl) ?_
  refine lv_iload_n hx hb d_M_tell_2 rfl (lv_at hl 2 rfl) ?_
  refine lv_iload_n hx hb d_M_tell_3 rfl (lv_at hl 3 rfl) ?_
  refine lv_iload hx hb d_M_tell_4 (lv_at hl 4 rfl) ?_
  refine lv_iload hx hb d_M_tell_6 (lv_at hl 5 rfl) ?_
  obtain ⟨ob4, h⟩ := hy_if h
  obtain ⟨fs_ob4, hf_ob4, hg_ob4⟩ := hy_ob_spec ob4
  obtain ⟨w1, hq_w1, h⟩ := hy_bv_spec h
  refine hy_callv (hy_runV (rest := []) (As := [.int v1, .int v2, .int v3, .int v4, .int v5]) (r := v0) (b := a_v0) B S rfl ha_v0 (by rfl) (c_M_keep hl9 G ad hq_w1) (hy_okr (by omega) (hy_oki (hy_oki (hy_oki (hy_oki (hy_oki hy_ok0)))))) tw_761 tw_9 tw_758 tw_760 sl_M_keep (by decide) rfl (Nat.le_of_ble_eq_true rfl) (Nat.le_of_ble_eq_true rfl) hf_ob4 hg_ob4 rfl hl.1 (Nat.le_of_ble_eq_true rfl) d_M_tell_8) (fun ad2 H locs cells slots hag hl_w1 S => ?_)
  have ha_v0 : ad2 v0 = a_v0 := (hag v0 (by omega)).trans ha_v0
  refine lv_aload_n hx hb d_M_tell_11 rfl (lv_at hl 0 rfl) ?_
  obtain ⟨ob8, h⟩ := hy_if h
  obtain ⟨fs_ob8, hf_ob8, hg_ob8⟩ := hy_ob_spec ob8
  obtain ⟨x7, w5, hq_w5, h⟩ := hy_bi_spec h
  refine hy_calli (hy_runV (rest := []) (As := []) (r := v0) (b := a_v0) B S rfl ha_v0 (by rfl) (c_M_given hl9 G ad2 hq_w5) (hy_okr (by omega) hy_ok0) tw_765 tw_9 tw_762 tw_764 sl_M_given (by decide) rfl (Nat.le_of_ble_eq_true rfl) (Nat.le_of_ble_eq_true rfl) hf_ob8 hg_ob8 rfl hl.1 (Nat.le_of_ble_eq_true rfl) d_M_tell_12) (fun ad6 H locs cells slots hag hl_w5 S => ?_)
  have ha_v0 : ad6 v0 = a_v0 := (hag v0 (by omega)).trans ha_v0
  refine lv_istore (lv' := [(6, .int x7), (0, .ref a_v0), (1, .int v1), (2, .int v2), (3, .int v3), (4, .int v4), (5, .int v5)]) hx hb d_M_tell_15 hl (Nat.le_of_ble_eq_true rfl) rfl (fun ls hl => ?_)
  refine lv_aload_n hx hb d_M_tell_17 rfl (lv_at hl 1 rfl) ?_
  refine lv_aload_n hx hb d_M_tell_18 rfl (lv_at hl 1 rfl) ?_
  refine lv_iload hx hb d_M_tell_19 (lv_at hl 0 rfl) ?_
  refine lv_bipush (v := (-10)) hx hb d_M_tell_21 (by decide) ?_
  obtain ⟨ob12, h⟩ := hy_if h
  obtain ⟨fs_ob12, hf_ob12, hg_ob12⟩ := hy_ob_spec ob12
  obtain ⟨x11, w9, hq_w9, h⟩ := hy_bi_spec h
  refine hy_calli (hy_runV (rest := [.ref a_v0]) (As := [.int x7, .int (-10)]) (r := v0) (b := a_v0) B S rfl ha_v0 (by rfl) (c_M_isSound hl9 G ad6 hq_w9) (hy_okr (by omega) (hy_oki (hy_oki hy_ok0))) tw_769 tw_9 tw_766 tw_768 sl_M_isSound (by decide) rfl (Nat.le_of_ble_eq_true rfl) (Nat.le_of_ble_eq_true rfl) hf_ob12 hg_ob12 rfl hl.1 (Nat.le_of_ble_eq_true rfl) d_M_tell_23) (fun ad10 H locs cells slots hag hl_w9 S => ?_)
  have ha_v0 : ad10 v0 = a_v0 := (hag v0 (by omega)).trans ha_v0
  refine lv_if_ne (tgt := 33) hx hb d_M_tell_26 (by decide) (fun c13 => ?_) (fun c13 => ?_)
  · rw [if_neg c13] at h
    refine lv_aload_n hx hb d_M_tell_33 rfl (lv_at hl 1 rfl) ?_
    obtain ⟨x14, hx14, h⟩ := hy_bd h
    refine hy_geti B S ha_v0 hx14 rfl (Nat.le_of_ble_eq_true rfl) i_6 (j := 8) tw_658 (fun _ h => h) d_M_tell_34 ?_
    refine lv_iload hx hb d_M_tell_37 (lv_at hl 0 rfl) ?_
    refine lv_iadd hx hb d_M_tell_39 ?_
    refine lv_bipush (v := 40) hx hb d_M_tell_40 (by decide) ?_
    refine lv_icmp_le (tgt := 49) hx hb d_M_tell_42 (by decide) (fun c15 => ?_) (fun c15 => ?_)
    · rw [if_pos c15] at h
      refine lv_iconst (v := 0) hx hb d_M_tell_49 (by decide) ?_
      cases h
      exact hy_jump K S (hy_okr (by omega) (hy_oki (hy_oki (hy_okr (by omega) hy_ok0)))) (lv_sub hl [1, 0] rfl) (by subst ha_v0; rfl) (by subst ha_v0; rfl)
    · rw [if_neg c15] at h
      refine lv_iconst (v := 2) hx hb d_M_tell_45 (by decide) ?_
      refine lv_goto (tgt := 50) hx hb d_M_tell_46 (by decide) ?_
      cases h
      exact hy_jump K S (hy_okr (by omega) (hy_oki (hy_oki (hy_okr (by omega) hy_ok0)))) (lv_sub hl [1, 0] rfl) (by subst ha_v0; rfl) (by subst ha_v0; rfl)
  · rw [if_pos c13] at h
    refine lv_iconst (v := 1) hx hb d_M_tell_29 (by decide) ?_
    refine lv_goto (tgt := 50) hx hb d_M_tell_30 (by decide) ?_
    cases h
    exact hy_jump K S (hy_okr (by omega) (hy_oki (hy_oki (hy_okr (by omega) hy_ok0)))) (lv_sub hl [1, 0] rfl) (by subst ha_v0; rfl) (by subst ha_v0; rfl)
set_option maxHeartbeats 4000000 in
set_option maxRecDepth 100000 in
theorem sk_M_tell_50 {p : Program} {l : Launch} {e : Env} {s : State} {m : MethodId} {args : Array Value} {below : List Frame} {meth : Method} {c : Code} {G : hy_G} {A : Nat → Prop} {ad0 : Nat → Nat} {w0 : hy_W} {o : hy_O} (hl9 : l.flags = flags0) (hA : hy_A G ad0 w0 s.heap.size = A) (B : hy_B p l e (hy_rm 1 25 w0) s m args below meth c "HyphenPatternsModel" b_M_tell 8 (some .int) [] G A) (v0 : Nat) (v6 : Int32) (s0 : Int32) (s1 : Nat) (w : hy_W) (nx : hy_N) (h : sg_M_tell_50 v0 v6 s0 s1 w = some nx) (K : hy_Nx lay_M_tell p l e (hy_rm 1 25 w0) s m args below meth c 8 G A ad0 w0.1.length (hy_Q below G ad0 w0 o args s) o nx) : hy_At lay_M_tell p l e (hy_rm 1 25 w0) s m args below meth c 8 G A ad0 w0.1.length (hy_Q below G ad0 w0 o args s) (50, [.ref v0, .int v6, .int s0, .ref s1], w) := by
  intro ad H locs cells slots ls S hok hl
  have hx := B.1
  have hb := B.2.1
  dsimp only at S hok
  have hl : lv_has ls 8 [(0, .ref (ad v0)), (6, .int v6)] := hl
  show W p l e (hy_rm 1 25 w0) s m args below meth c H locs cells slots (hy_Q below G ad0 w0 o args s) (F0 m 50 ls [.int s0, .ref (ad s1)])
  have hv_v0 : v0 < w.1.length := hok (.ref v0) (List.mem_of_getElem? (i := 0) rfl) v0 rfl
  obtain ⟨a_v0, ha_v0⟩ : ∃ a, ad v0 = a := ⟨_, rfl⟩
  rw [ha_v0] at hl
  have hv_s1 : s1 < w.1.length := hok (.ref s1) (List.mem_of_getElem? (i := 3) rfl) s1 rfl
  obtain ⟨a_s1, ha_s1⟩ : ∃ a, ad s1 = a := ⟨_, rfl⟩
  rw [ha_s1]
  unfold sg_M_tell_50 at h
  obtain ⟨ob4, h⟩ := hy_if h
  obtain ⟨fs_ob4, hf_ob4, hg_ob4⟩ := hy_ob_spec ob4
  obtain ⟨x3, w1, hq_w1, h⟩ := hy_bi_spec h
  refine hy_calli (hy_runV (rest := []) (As := [.int s0]) (r := s1) (b := a_s1) B S rfl ha_s1 (by rfl) (c_M_refused hl9 G ad hq_w1) (hy_okr (by omega) (hy_oki hy_ok0)) tw_740 tw_9 tw_737 tw_739 sl_M_refused (by decide) rfl (Nat.le_of_ble_eq_true rfl) (Nat.le_of_ble_eq_true rfl) hf_ob4 hg_ob4 rfl hl.1 (Nat.le_of_ble_eq_true rfl) d_M_tell_50) (fun ad2 H locs cells slots hag hl_w1 S => ?_)
  have ha_v0 : ad2 v0 = a_v0 := (hag v0 (by omega)).trans ha_v0
  refine lv_if_eq (tgt := 58) hx hb d_M_tell_53 (by decide) (fun c5 => ?_) (fun c5 => ?_)
  · rw [if_pos c5] at h
    refine lv_iconst (v := 0) hx hb d_M_tell_58 (by decide) ?_
    refine lv_istore (lv' := [(7, .int 0), (0, .ref a_v0), (6, .int v6)]) hx hb d_M_tell_59 hl (Nat.le_of_ble_eq_true rfl) rfl (fun ls hl => ?_)
    cases h
    exact hy_jump K S (hy_okr (by omega) (hy_oki (hy_oki hy_ok0))) (lv_sub hl [1, 2, 0] rfl) (by subst ha_v0; rfl) (by subst ha_v0; rfl)
  · rw [if_neg c5] at h
    refine lv_iconst (v := 0) hx hb d_M_tell_56 (by decide) ?_
    cases h
    cases K
    exact hy_iret hA B S d_M_tell_57
set_option maxHeartbeats 4000000 in
set_option maxRecDepth 100000 in
theorem sk_M_tell_61 {p : Program} {l : Launch} {e : Env} {s : State} {m : MethodId} {args : Array Value} {below : List Frame} {meth : Method} {c : Code} {G : hy_G} {A : Nat → Prop} {ad0 : Nat → Nat} {w0 : hy_W} {o : hy_O} (hl9 : l.flags = flags0) (hA : hy_A G ad0 w0 s.heap.size = A) (B : hy_B p l e (hy_rm 1 25 w0) s m args below meth c "HyphenPatternsModel" b_M_tell 8 (some .int) [] G A) (v0 : Nat) (v6 : Int32) (v7 : Int32) (w : hy_W) (nx : hy_N) (h : sg_M_tell_61 v0 v6 v7 w = some nx) (K : hy_Nx lay_M_tell p l e (hy_rm 1 25 w0) s m args below meth c 8 G A ad0 w0.1.length (hy_Q below G ad0 w0 o args s) o nx) : hy_At lay_M_tell p l e (hy_rm 1 25 w0) s m args below meth c 8 G A ad0 w0.1.length (hy_Q below G ad0 w0 o args s) (61, [.ref v0, .int v6, .int v7], w) := by
  intro ad H locs cells slots ls S hok hl
  have hx := B.1
  have hb := B.2.1
  dsimp only at S hok
  have hl : lv_has ls 8 [(0, .ref (ad v0)), (6, .int v6), (7, .int v7)] := hl
  show W p l e (hy_rm 1 25 w0) s m args below meth c H locs cells slots (hy_Q below G ad0 w0 o args s) (F0 m 61 ls [])
  have hv_v0 : v0 < w.1.length := hok (.ref v0) (List.mem_of_getElem? (i := 0) rfl) v0 rfl
  obtain ⟨a_v0, ha_v0⟩ : ∃ a, ad v0 = a := ⟨_, rfl⟩
  rw [ha_v0] at hl
  unfold sg_M_tell_61 at h
  refine lv_iload hx hb d_M_tell_61 (lv_at hl 2 rfl) ?_
  refine lv_iload hx hb d_M_tell_63 (lv_at hl 1 rfl) ?_
  refine lv_icmp_ge (tgt := 100) hx hb d_M_tell_65 (by decide) (fun c1 => ?_) (fun c1 => ?_)
  · rw [if_pos c1] at h
    refine lv_aload_n hx hb d_M_tell_100 rfl (lv_at hl 0 rfl) ?_
    obtain ⟨x2, hx2, h⟩ := hy_bd h
    refine hy_geti B S ha_v0 hx2 rfl (Nat.le_of_ble_eq_true rfl) i_6 (j := 8) tw_658 (fun _ h => h) d_M_tell_101 ?_
    cases h
    cases K
    exact hy_iret hA B S d_M_tell_104
  · rw [if_neg c1] at h
    refine lv_aload_n hx hb d_M_tell_68 rfl (lv_at hl 0 rfl) ?_
    obtain ⟨r3, hr3, h⟩ := hy_bd h
    refine hy_getr B S ha_v0 hr3 rfl (Nat.le_of_ble_eq_true rfl) i_6 (j := 9) tw_659 (fun _ h => h) d_M_tell_69 (fun a_r3 ha_r3 hv_r3 => ?_)
    refine lv_aload_n hx hb d_M_tell_72 rfl (lv_at hl 0 rfl) ?_
    obtain ⟨x4, hx4, h⟩ := hy_bd h
    refine hy_geti B S ha_v0 hx4 rfl (Nat.le_of_ble_eq_true rfl) i_6 (j := 8) tw_658 (fun _ h => h) d_M_tell_73 ?_
    refine lv_aload_n hx hb d_M_tell_76 rfl (lv_at hl 0 rfl) ?_
    obtain ⟨r5, hr5, h⟩ := hy_bd h
    refine hy_getr B S ha_v0 hr5 rfl (Nat.le_of_ble_eq_true rfl) i_6 (j := 10) tw_660 (fun _ h => h) d_M_tell_77 (fun a_r5 ha_r5 hv_r5 => ?_)
    refine lv_iload hx hb d_M_tell_80 (lv_at hl 2 rfl) ?_
    obtain ⟨x6, hx6, h⟩ := hy_bd h
    refine hy_iald B S ha_r5 hx6 d_M_tell_82 ?_
    obtain ⟨w7, hw7, h⟩ := hy_bd h
    refine hy_iast B S ha_r3 hw7 d_M_tell_83 (fun H locs S hl_w7 => ?_)
    refine lv_aload_n hx hb d_M_tell_84 rfl (lv_at hl 0 rfl) ?_
    refine lv_dup hx hb d_M_tell_85 rfl ?_
    obtain ⟨x8, hx8, h⟩ := hy_bd h
    refine hy_geti B S ha_v0 hx8 rfl (Nat.le_of_ble_eq_true rfl) i_6 (j := 8) tw_658 (fun _ h => h) d_M_tell_86 ?_
    refine lv_iconst (v := 1) hx hb d_M_tell_89 (by decide) ?_
    refine lv_iadd hx hb d_M_tell_90 ?_
    obtain ⟨w9, hw9, h⟩ := hy_bd h
    refine hy_put B S ha_v0 rfl hy_cvi hw9 rfl (Nat.le_of_ble_eq_true rfl) i_6 t_6 t_6_ok n_6 (j := 8) tw_658 (fun _ h => h) rfl rfl rfl d_M_tell_91 (fun H locs S hl_w9 => ?_)
    refine lv_iinc (v := (v7 + 1)) (lv' := [(7, .int (v7 + 1)), (0, .ref a_v0), (6, .int v6)]) hx hb d_M_tell_94 hl (k := 2) rfl rfl (Nat.le_of_ble_eq_true rfl) rfl (fun ls hl => ?_)
    refine lv_goto (tgt := 61) hx hb d_M_tell_97 (by decide) ?_
    cases h
    exact hy_jump K S (hy_okr (by omega) (hy_oki (hy_oki hy_ok0))) (lv_sub hl [1, 2, 0] rfl) (by subst ha_v0; rfl) (by subst ha_v0; rfl)
theorem nk_M_tell {p : Program} {l : Launch} {e : Env} {s : State} {m : MethodId} {args : Array Value} {below : List Frame} {meth : Method} {c : Code} {G : hy_G} {A : Nat → Prop} {ad0 : Nat → Nat} {w0 : hy_W} {o : hy_O} (hl9 : l.flags = flags0) (hA : hy_A G ad0 w0 s.heap.size = A) (B : hy_B p l e (hy_rm 1 25 w0) s m args below meth c "HyphenPatternsModel" b_M_tell 8 (some .int) [] G A) (q : hy_P) (nx : hy_N) (hq : nx_M_tell q = some nx) (K : hy_Nx lay_M_tell p l e (hy_rm 1 25 w0) s m args below meth c 8 G A ad0 w0.1.length (hy_Q below G ad0 w0 o args s) o nx) : hy_At lay_M_tell p l e (hy_rm 1 25 w0) s m args below meth c 8 G A ad0 w0.1.length (hy_Q below G ad0 w0 o args s) q := by
  unfold nx_M_tell at hq
  split at hq
  · exact sk_M_tell_0 hl9 hA B _ _ _ _ _ _ _ nx hq K
  · exact sk_M_tell_50 hl9 hA B _ _ _ _ _ nx hq K
  · exact sk_M_tell_61 hl9 hA B _ _ _ _ nx hq K
  · cases hq
theorem c_M_tell {l : Launch} (hl9 : l.flags = flags0) (G : hy_G) (ad : Nat → Nat) {v0 : Nat} {v1 : Int32} {v2 : Int32} {v3 : Int32} {v4 : Int32} {v5 : Int32} {w : hy_W} {o : hy_O} (h : f_M_tell [.ref v0, .int v1, .int v2, .int v3, .int v4, .int v5] w = some o) : hy_M l y_M_tell (Cond.code y_M_tell b_M_tell 8 (some .int) :: hy_T) 1 25 G ad [.ref v0, .int v1, .int v2, .int v3, .int v4, .int v5] w o := by
  obtain ⟨n, hn⟩ := hy_fx_iff.mp h
  refine hy_ofW hl9 (by decide +kernel) (Nat.le_of_ble_eq_true rfl) (fun p e s m args below meth c A hA hi B S hok ls hl => ?_)
  exact hy_loop (nk_M_tell hl9 hA B) n _ hn ad s.heap [] 0 0 ls S hok hl
theorem d_M_drop_0 : decode b_M_drop 0 = .ok (.aload_n 0, 1) := by decide +kernel
theorem d_M_drop_1 : decode b_M_drop 1 = .ok (.iconst 0, 1) := by decide +kernel
theorem d_M_drop_2 : decode b_M_drop 2 = .ok (.putfield 67, 3) := by decide +kernel
theorem d_M_drop_5 : decode b_M_drop 5 = .ok (.aload_n 0, 1) := by decide +kernel
theorem d_M_drop_6 : decode b_M_drop 6 = .ok (.getfield 96, 3) := by decide +kernel
theorem d_M_drop_9 : decode b_M_drop 9 = .ok (.istore_n 1, 1) := by decide +kernel
theorem d_M_drop_10 : decode b_M_drop 10 = .ok (.aload_n 0, 1) := by decide +kernel
theorem d_M_drop_11 : decode b_M_drop 11 = .ok (.iconst 0, 1) := by decide +kernel
theorem d_M_drop_12 : decode b_M_drop 12 = .ok (.putfield 96, 3) := by decide +kernel
theorem d_M_drop_15 : decode b_M_drop 15 = .ok (.iload_n 1, 1) := by decide +kernel
theorem d_M_drop_16 : decode b_M_drop 16 = .ok (.ireturn, 1) := by decide +kernel
def lay_M_drop (pc : Nat) : List Nat := if pc = 0 then [0] else []
noncomputable def sg_M_drop_0 (v0 : Nat) (w : hy_W) : Option hy_N := (hy_pf w v0 6 0 (.int 0)).bind fun w1 => (hy_gi w1 v0 6 8).bind fun x2 => (hy_pf w1 v0 6 8 (.int 0)).bind fun w3 => some (.inr (.inl (some (.int x2)), w3))
noncomputable def nx_M_drop (q : hy_P) : Option hy_N := match q with
  | (0, [.ref v0], w) => sg_M_drop_0 v0 w
  | _ => none
noncomputable def f_M_drop (av : List Value) (w : hy_W) : Option hy_O := hy_fx nx_M_drop (0, av, w)
set_option maxHeartbeats 4000000 in
set_option maxRecDepth 100000 in
theorem sk_M_drop_0 {p : Program} {l : Launch} {e : Env} {s : State} {m : MethodId} {args : Array Value} {below : List Frame} {meth : Method} {c : Code} {G : hy_G} {A : Nat → Prop} {ad0 : Nat → Nat} {w0 : hy_W} {o : hy_O} (hl9 : l.flags = flags0) (hA : hy_A G ad0 w0 s.heap.size = A) (B : hy_B p l e (hy_rm 0 0 w0) s m args below meth c "HyphenPatternsModel" b_M_drop 2 (some .int) [] G A) (v0 : Nat) (w : hy_W) (nx : hy_N) (h : sg_M_drop_0 v0 w = some nx) (K : hy_Nx lay_M_drop p l e (hy_rm 0 0 w0) s m args below meth c 2 G A ad0 w0.1.length (hy_Q below G ad0 w0 o args s) o nx) : hy_At lay_M_drop p l e (hy_rm 0 0 w0) s m args below meth c 2 G A ad0 w0.1.length (hy_Q below G ad0 w0 o args s) (0, [.ref v0], w) := by
  intro ad H locs cells slots ls S hok hl
  have hx := B.1
  have hb := B.2.1
  dsimp only at S hok
  have hl : lv_has ls 2 [(0, .ref (ad v0))] := hl
  show W p l e (hy_rm 0 0 w0) s m args below meth c H locs cells slots (hy_Q below G ad0 w0 o args s) (F0 m 0 ls [])
  have hv_v0 : v0 < w.1.length := hok (.ref v0) (List.mem_of_getElem? (i := 0) rfl) v0 rfl
  obtain ⟨a_v0, ha_v0⟩ : ∃ a, ad v0 = a := ⟨_, rfl⟩
  rw [ha_v0] at hl
  unfold sg_M_drop_0 at h
  refine lv_aload_n hx hb d_M_drop_0 rfl (lv_at hl 0 rfl) ?_
  refine lv_iconst (v := 0) hx hb d_M_drop_1 (by decide) ?_
  obtain ⟨w1, hw1, h⟩ := hy_bd h
  refine hy_put B S ha_v0 rfl hy_cvi hw1 rfl (Nat.le_of_ble_eq_true rfl) i_6 t_6 t_6_ok n_6 (j := 0) tw_650 (fun _ h => h) rfl rfl rfl d_M_drop_2 (fun H locs S hl_w1 => ?_)
  refine lv_aload_n hx hb d_M_drop_5 rfl (lv_at hl 0 rfl) ?_
  obtain ⟨x2, hx2, h⟩ := hy_bd h
  refine hy_geti B S ha_v0 hx2 rfl (Nat.le_of_ble_eq_true rfl) i_6 (j := 8) tw_658 (fun _ h => h) d_M_drop_6 ?_
  refine lv_istore_n (lv' := [(1, .int x2), (0, .ref a_v0)]) hx hb d_M_drop_9 rfl hl (Nat.le_of_ble_eq_true rfl) rfl (fun ls hl => ?_)
  refine lv_aload_n hx hb d_M_drop_10 rfl (lv_at hl 1 rfl) ?_
  refine lv_iconst (v := 0) hx hb d_M_drop_11 (by decide) ?_
  obtain ⟨w3, hw3, h⟩ := hy_bd h
  refine hy_put B S ha_v0 rfl hy_cvi hw3 rfl (Nat.le_of_ble_eq_true rfl) i_6 t_6 t_6_ok n_6 (j := 8) tw_658 (fun _ h => h) rfl rfl rfl d_M_drop_12 (fun H locs S hl_w3 => ?_)
  refine lv_iload_n hx hb d_M_drop_15 rfl (lv_at hl 0 rfl) ?_
  cases h
  cases K
  exact hy_iret hA B S d_M_drop_16
theorem nk_M_drop {p : Program} {l : Launch} {e : Env} {s : State} {m : MethodId} {args : Array Value} {below : List Frame} {meth : Method} {c : Code} {G : hy_G} {A : Nat → Prop} {ad0 : Nat → Nat} {w0 : hy_W} {o : hy_O} (hl9 : l.flags = flags0) (hA : hy_A G ad0 w0 s.heap.size = A) (B : hy_B p l e (hy_rm 0 0 w0) s m args below meth c "HyphenPatternsModel" b_M_drop 2 (some .int) [] G A) (q : hy_P) (nx : hy_N) (hq : nx_M_drop q = some nx) (K : hy_Nx lay_M_drop p l e (hy_rm 0 0 w0) s m args below meth c 2 G A ad0 w0.1.length (hy_Q below G ad0 w0 o args s) o nx) : hy_At lay_M_drop p l e (hy_rm 0 0 w0) s m args below meth c 2 G A ad0 w0.1.length (hy_Q below G ad0 w0 o args s) q := by
  unfold nx_M_drop at hq
  split at hq
  · exact sk_M_drop_0 hl9 hA B _ _ nx hq K
  · cases hq
theorem c_M_drop {l : Launch} (hl9 : l.flags = flags0) (G : hy_G) (ad : Nat → Nat) {v0 : Nat} {w : hy_W} {o : hy_O} (h : f_M_drop [.ref v0] w = some o) : hy_M l y_M_drop (Cond.code y_M_drop b_M_drop 2 (some .int) :: hy_T) 0 0 G ad [.ref v0] w o := by
  obtain ⟨n, hn⟩ := hy_fx_iff.mp h
  refine hy_ofW hl9 (by decide +kernel) (Nat.le_of_ble_eq_true rfl) (fun p e s m args below meth c A hA hi B S hok ls hl => ?_)
  exact hy_loop (nk_M_drop hl9 hA B) n _ hn ad s.heap [] 0 0 ls S hok hl
theorem d_M_readRow_0 : decode b_M_readRow 0 = .ok (.aload_n 0, 1) := by decide +kernel
theorem d_M_readRow_1 : decode b_M_readRow 1 = .ok (.iconst 0, 1) := by decide +kernel
theorem d_M_readRow_2 : decode b_M_readRow 2 = .ok (.putfield 99, 3) := by decide +kernel
theorem d_M_readRow_5 : decode b_M_readRow 5 = .ok (.aload_n 0, 1) := by decide +kernel
theorem d_M_readRow_6 : decode b_M_readRow 6 = .ok (.getfield 37, 3) := by decide +kernel
theorem d_M_readRow_9 : decode b_M_readRow 9 = .ok (.iconst 0, 1) := by decide +kernel
theorem d_M_readRow_10 : decode b_M_readRow 10 = .ok (.iconst 0, 1) := by decide +kernel
theorem d_M_readRow_11 : decode b_M_readRow 11 = .ok (.iastore, 1) := by decide +kernel
theorem d_M_readRow_12 : decode b_M_readRow 12 = .ok (.iconst 1, 1) := by decide +kernel
theorem d_M_readRow_13 : decode b_M_readRow 13 = .ok (.istore_n 1, 1) := by decide +kernel
theorem d_M_readRow_14 : decode b_M_readRow 14 = .ok (.iconst 0, 1) := by decide +kernel
theorem d_M_readRow_15 : decode b_M_readRow 15 = .ok (.istore_n 2, 1) := by decide +kernel
theorem d_M_readRow_16 : decode b_M_readRow 16 = .ok (.iload_n 2, 1) := by decide +kernel
theorem d_M_readRow_17 : decode b_M_readRow 17 = .ok (.aload_n 0, 1) := by decide +kernel
theorem d_M_readRow_18 : decode b_M_readRow 18 = .ok (.getfield 96, 3) := by decide +kernel
theorem d_M_readRow_21 : decode b_M_readRow 21 = .ok (.if_icmp .ge 94, 3) := by decide +kernel
theorem d_M_readRow_24 : decode b_M_readRow 24 = .ok (.aload_n 0, 1) := by decide +kernel
theorem d_M_readRow_25 : decode b_M_readRow 25 = .ok (.getfield 28, 3) := by decide +kernel
theorem d_M_readRow_28 : decode b_M_readRow 28 = .ok (.iload_n 2, 1) := by decide +kernel
theorem d_M_readRow_29 : decode b_M_readRow 29 = .ok (.iaload, 1) := by decide +kernel
theorem d_M_readRow_30 : decode b_M_readRow 30 = .ok (.ifCond .lt 41, 3) := by decide +kernel
theorem d_M_readRow_33 : decode b_M_readRow 33 = .ok (.aload_n 0, 1) := by decide +kernel
theorem d_M_readRow_34 : decode b_M_readRow 34 = .ok (.getfield 34, 3) := by decide +kernel
theorem d_M_readRow_37 : decode b_M_readRow 37 = .ok (.aload_n 0, 1) := by decide +kernel
theorem d_M_readRow_38 : decode b_M_readRow 38 = .ok (.getfield 99, 3) := by decide +kernel
theorem d_M_readRow_41 : decode b_M_readRow 41 = .ok (.aload_n 0, 1) := by decide +kernel
theorem d_M_readRow_42 : decode b_M_readRow 42 = .ok (.getfield 28, 3) := by decide +kernel
theorem d_M_readRow_45 : decode b_M_readRow 45 = .ok (.iload_n 2, 1) := by decide +kernel
theorem d_M_readRow_46 : decode b_M_readRow 46 = .ok (.iaload, 1) := by decide +kernel
theorem d_M_readRow_47 : decode b_M_readRow 47 = .ok (.iastore, 1) := by decide +kernel
theorem d_M_readRow_48 : decode b_M_readRow 48 = .ok (.aload_n 0, 1) := by decide +kernel
theorem d_M_readRow_49 : decode b_M_readRow 49 = .ok (.dup, 1) := by decide +kernel
theorem d_M_readRow_50 : decode b_M_readRow 50 = .ok (.getfield 99, 3) := by decide +kernel
theorem d_M_readRow_53 : decode b_M_readRow 53 = .ok (.iconst 1, 1) := by decide +kernel
theorem d_M_readRow_54 : decode b_M_readRow 54 = .ok (.iadd, 1) := by decide +kernel
theorem d_M_readRow_55 : decode b_M_readRow 55 = .ok (.putfield 99, 3) := by decide +kernel
theorem d_M_readRow_58 : decode b_M_readRow 58 = .ok (.aload_n 0, 1) := by decide +kernel
theorem d_M_readRow_59 : decode b_M_readRow 59 = .ok (.getfield 37, 3) := by decide +kernel
theorem d_M_readRow_62 : decode b_M_readRow 62 = .ok (.aload_n 0, 1) := by decide +kernel
theorem d_M_readRow_63 : decode b_M_readRow 63 = .ok (.getfield 99, 3) := by decide +kernel
theorem d_M_readRow_66 : decode b_M_readRow 66 = .ok (.iconst 0, 1) := by decide +kernel
theorem d_M_readRow_67 : decode b_M_readRow 67 = .ok (.iastore, 1) := by decide +kernel
theorem d_M_readRow_68 : decode b_M_readRow 68 = .ok (.goto 41, 3) := by decide +kernel
theorem d_M_readRow_71 : decode b_M_readRow 71 = .ok (.iload_n 1, 1) := by decide +kernel
theorem d_M_readRow_72 : decode b_M_readRow 72 = .ok (.ifCond .eq 19, 3) := by decide +kernel
theorem d_M_readRow_75 : decode b_M_readRow 75 = .ok (.aload_n 0, 1) := by decide +kernel
theorem d_M_readRow_76 : decode b_M_readRow 76 = .ok (.getfield 37, 3) := by decide +kernel
theorem d_M_readRow_79 : decode b_M_readRow 79 = .ok (.aload_n 0, 1) := by decide +kernel
theorem d_M_readRow_80 : decode b_M_readRow 80 = .ok (.getfield 99, 3) := by decide +kernel
theorem d_M_readRow_83 : decode b_M_readRow 83 = .ok (.iaload, 1) := by decide +kernel
theorem d_M_readRow_84 : decode b_M_readRow 84 = .ok (.ifCond .ne 7, 3) := by decide +kernel
theorem d_M_readRow_87 : decode b_M_readRow 87 = .ok (.iconst 1, 1) := by decide +kernel
theorem d_M_readRow_88 : decode b_M_readRow 88 = .ok (.goto 4, 3) := by decide +kernel
theorem d_M_readRow_91 : decode b_M_readRow 91 = .ok (.iconst 0, 1) := by decide +kernel
theorem d_M_readRow_92 : decode b_M_readRow 92 = .ok (.istore_n 1, 1) := by decide +kernel
theorem d_M_readRow_93 : decode b_M_readRow 93 = .ok (.aload_n 0, 1) := by decide +kernel
theorem d_M_readRow_94 : decode b_M_readRow 94 = .ok (.getfield 37, 3) := by decide +kernel
theorem d_M_readRow_97 : decode b_M_readRow 97 = .ok (.aload_n 0, 1) := by decide +kernel
theorem d_M_readRow_98 : decode b_M_readRow 98 = .ok (.getfield 99, 3) := by decide +kernel
theorem d_M_readRow_101 : decode b_M_readRow 101 = .ok (.aload_n 0, 1) := by decide +kernel
theorem d_M_readRow_102 : decode b_M_readRow 102 = .ok (.getfield 28, 3) := by decide +kernel
theorem d_M_readRow_105 : decode b_M_readRow 105 = .ok (.iload_n 2, 1) := by decide +kernel
theorem d_M_readRow_106 : decode b_M_readRow 106 = .ok (.iaload, 1) := by decide +kernel
theorem d_M_readRow_107 : decode b_M_readRow 107 = .ok (.ineg, 1) := by decide +kernel
theorem d_M_readRow_108 : decode b_M_readRow 108 = .ok (.iastore, 1) := by decide +kernel
theorem d_M_readRow_109 : decode b_M_readRow 109 = .ok (.iinc 2 1, 3) := by decide +kernel
theorem d_M_readRow_112 : decode b_M_readRow 112 = .ok (.goto (-96), 3) := by decide +kernel
theorem d_M_readRow_115 : decode b_M_readRow 115 = .ok (.iload_n 1, 1) := by decide +kernel
theorem d_M_readRow_116 : decode b_M_readRow 116 = .ok (.ifCond .eq 14, 3) := by decide +kernel
theorem d_M_readRow_119 : decode b_M_readRow 119 = .ok (.aload_n 0, 1) := by decide +kernel
theorem d_M_readRow_120 : decode b_M_readRow 120 = .ok (.getfield 99, 3) := by decide +kernel
theorem d_M_readRow_123 : decode b_M_readRow 123 = .ok (.ifCond .le 7, 3) := by decide +kernel
theorem d_M_readRow_126 : decode b_M_readRow 126 = .ok (.iconst 1, 1) := by decide +kernel
theorem d_M_readRow_127 : decode b_M_readRow 127 = .ok (.goto 4, 3) := by decide +kernel
theorem d_M_readRow_130 : decode b_M_readRow 130 = .ok (.iconst 0, 1) := by decide +kernel
theorem d_M_readRow_131 : decode b_M_readRow 131 = .ok (.ireturn, 1) := by decide +kernel
def lay_M_readRow (pc : Nat) : List Nat := if pc = 0 then [0] else if pc = 16 then [0, 1, 2] else if pc = 91 then [0, 2] else if pc = 92 then [0, 2] else if pc = 109 then [0, 1, 2] else if pc = 130 then [] else []
noncomputable def sg_M_readRow_0 (v0 : Nat) (w : hy_W) : Option hy_N := (hy_pf w v0 6 11 (.int 0)).bind fun w1 => (hy_gr w1 v0 6 13).bind fun r2 => (hy_pa w1 0 r2 0 (.int 0)).bind fun w3 => some (.inl (16, [.ref v0, .int 1, .int 0], w3))
noncomputable def sg_M_readRow_16 (v0 : Nat) (v1 : Int32) (v2 : Int32) (w : hy_W) : Option hy_N := (hy_gi w v0 6 8).bind fun x1 => if x1 ≤ v2 then (if v1 = 0 then (some (.inl (130, [], w))) else ((hy_gi w v0 6 11).bind fun x4 => if x4 ≤ 0 then (some (.inl (130, [], w))) else (some (.inr (.inl (some (.int 1)), w))))) else ((hy_gr w v0 6 9).bind fun r6 => (hy_ai w r6 v2).bind fun x7 => if x7 < 0 then (if v1 = 0 then (some (.inl (91, [.ref v0, .int v2], w))) else ((hy_gr w v0 6 13).bind fun r10 => (hy_gi w v0 6 11).bind fun x11 => (hy_ai w r10 x11).bind fun x12 => if x12 = 0 then (some (.inl (92, [.ref v0, .int v2, .int 1], w))) else (some (.inl (91, [.ref v0, .int v2], w))))) else ((hy_gr w v0 6 12).bind fun r14 => (hy_gi w v0 6 11).bind fun x15 => (hy_gr w v0 6 9).bind fun r16 => (hy_ai w r16 v2).bind fun x17 => (hy_pa w 0 r14 x15 (.int x17)).bind fun w18 => (hy_gi w18 v0 6 11).bind fun x19 => (hy_pf w18 v0 6 11 (.int (x19 + 1))).bind fun w20 => (hy_gr w20 v0 6 13).bind fun r21 => (hy_gi w20 v0 6 11).bind fun x22 => (hy_pa w20 0 r21 x22 (.int 0)).bind fun w23 => some (.inl (109, [.ref v0, .int v1, .int v2], w23))))
noncomputable def sg_M_readRow_91 (v0 : Nat) (v2 : Int32) (w : hy_W) : Option hy_N := some (.inl (92, [.ref v0, .int v2, .int 0], w))
noncomputable def sg_M_readRow_92 (v0 : Nat) (v2 : Int32) (s0 : Int32) (w : hy_W) : Option hy_N := (hy_gr w v0 6 13).bind fun r1 => (hy_gi w v0 6 11).bind fun x2 => (hy_gr w v0 6 9).bind fun r3 => (hy_ai w r3 v2).bind fun x4 => (hy_pa w 0 r1 x2 (.int (-x4))).bind fun w5 => some (.inl (109, [.ref v0, .int s0, .int v2], w5))
noncomputable def sg_M_readRow_109 (v0 : Nat) (v1 : Int32) (v2 : Int32) (w : hy_W) : Option hy_N := some (.inl (16, [.ref v0, .int v1, .int (v2 + 1)], w))
noncomputable def sg_M_readRow_130  (w : hy_W) : Option hy_N := some (.inr (.inl (some (.int 0)), w))
noncomputable def nx_M_readRow (q : hy_P) : Option hy_N := match q with
  | (0, [.ref v0], w) => sg_M_readRow_0 v0 w
  | (16, [.ref v0, .int v1, .int v2], w) => sg_M_readRow_16 v0 v1 v2 w
  | (91, [.ref v0, .int v2], w) => sg_M_readRow_91 v0 v2 w
  | (92, [.ref v0, .int v2, .int s0], w) => sg_M_readRow_92 v0 v2 s0 w
  | (109, [.ref v0, .int v1, .int v2], w) => sg_M_readRow_109 v0 v1 v2 w
  | (130, [], w) => sg_M_readRow_130  w
  | _ => none
noncomputable def f_M_readRow (av : List Value) (w : hy_W) : Option hy_O := hy_fx nx_M_readRow (0, av, w)
set_option maxHeartbeats 4000000 in
set_option maxRecDepth 100000 in
theorem sk_M_readRow_0 {p : Program} {l : Launch} {e : Env} {s : State} {m : MethodId} {args : Array Value} {below : List Frame} {meth : Method} {c : Code} {G : hy_G} {A : Nat → Prop} {ad0 : Nat → Nat} {w0 : hy_W} {o : hy_O} (hl9 : l.flags = flags0) (hA : hy_A G ad0 w0 s.heap.size = A) (B : hy_B p l e (hy_rm 0 0 w0) s m args below meth c "HyphenPatternsModel" b_M_readRow 3 (some .boolean) [] G A) (v0 : Nat) (w : hy_W) (nx : hy_N) (h : sg_M_readRow_0 v0 w = some nx) (K : hy_Nx lay_M_readRow p l e (hy_rm 0 0 w0) s m args below meth c 3 G A ad0 w0.1.length (hy_Q below G ad0 w0 o args s) o nx) : hy_At lay_M_readRow p l e (hy_rm 0 0 w0) s m args below meth c 3 G A ad0 w0.1.length (hy_Q below G ad0 w0 o args s) (0, [.ref v0], w) := by
  intro ad H locs cells slots ls S hok hl
  have hx := B.1
  have hb := B.2.1
  dsimp only at S hok
  have hl : lv_has ls 3 [(0, .ref (ad v0))] := hl
  show W p l e (hy_rm 0 0 w0) s m args below meth c H locs cells slots (hy_Q below G ad0 w0 o args s) (F0 m 0 ls [])
  have hv_v0 : v0 < w.1.length := hok (.ref v0) (List.mem_of_getElem? (i := 0) rfl) v0 rfl
  obtain ⟨a_v0, ha_v0⟩ : ∃ a, ad v0 = a := ⟨_, rfl⟩
  rw [ha_v0] at hl
  unfold sg_M_readRow_0 at h
  refine lv_aload_n hx hb d_M_readRow_0 rfl (lv_at hl 0 rfl) ?_
  refine lv_iconst (v := 0) hx hb d_M_readRow_1 (by decide) ?_
  obtain ⟨w1, hw1, h⟩ := hy_bd h
  refine hy_put B S ha_v0 rfl hy_cvi hw1 rfl (Nat.le_of_ble_eq_true rfl) i_6 t_6 t_6_ok n_6 (j := 11) tw_661 (fun _ h => h) rfl rfl rfl d_M_readRow_2 (fun H locs S hl_w1 => ?_)
  refine lv_aload_n hx hb d_M_readRow_5 rfl (lv_at hl 0 rfl) ?_
  obtain ⟨r2, hr2, h⟩ := hy_bd h
  refine hy_getr B S ha_v0 hr2 rfl (Nat.le_of_ble_eq_true rfl) i_6 (j := 13) tw_663 (fun _ h => h) d_M_readRow_6 (fun a_r2 ha_r2 hv_r2 => ?_)
  refine lv_iconst (v := 0) hx hb d_M_readRow_9 (by decide) ?_
  refine lv_iconst (v := 0) hx hb d_M_readRow_10 (by decide) ?_
  obtain ⟨w3, hw3, h⟩ := hy_bd h
  refine hy_iast B S ha_r2 hw3 d_M_readRow_11 (fun H locs S hl_w3 => ?_)
  refine lv_iconst (v := 1) hx hb d_M_readRow_12 (by decide) ?_
  refine lv_istore_n (lv' := [(1, .int 1), (0, .ref a_v0)]) hx hb d_M_readRow_13 rfl hl (Nat.le_of_ble_eq_true rfl) rfl (fun ls hl => ?_)
  refine lv_iconst (v := 0) hx hb d_M_readRow_14 (by decide) ?_
  refine lv_istore_n (lv' := [(2, .int 0), (1, .int 1), (0, .ref a_v0)]) hx hb d_M_readRow_15 rfl hl (Nat.le_of_ble_eq_true rfl) rfl (fun ls hl => ?_)
  cases h
  exact hy_jump K S (hy_okr (by omega) (hy_oki (hy_oki hy_ok0))) (lv_sub hl [2, 1, 0] rfl) (by subst ha_v0; rfl) (by subst ha_v0; rfl)
set_option maxHeartbeats 4000000 in
set_option maxRecDepth 100000 in
theorem sk_M_readRow_16 {p : Program} {l : Launch} {e : Env} {s : State} {m : MethodId} {args : Array Value} {below : List Frame} {meth : Method} {c : Code} {G : hy_G} {A : Nat → Prop} {ad0 : Nat → Nat} {w0 : hy_W} {o : hy_O} (hl9 : l.flags = flags0) (hA : hy_A G ad0 w0 s.heap.size = A) (B : hy_B p l e (hy_rm 0 0 w0) s m args below meth c "HyphenPatternsModel" b_M_readRow 3 (some .boolean) [] G A) (v0 : Nat) (v1 : Int32) (v2 : Int32) (w : hy_W) (nx : hy_N) (h : sg_M_readRow_16 v0 v1 v2 w = some nx) (K : hy_Nx lay_M_readRow p l e (hy_rm 0 0 w0) s m args below meth c 3 G A ad0 w0.1.length (hy_Q below G ad0 w0 o args s) o nx) : hy_At lay_M_readRow p l e (hy_rm 0 0 w0) s m args below meth c 3 G A ad0 w0.1.length (hy_Q below G ad0 w0 o args s) (16, [.ref v0, .int v1, .int v2], w) := by
  intro ad H locs cells slots ls S hok hl
  have hx := B.1
  have hb := B.2.1
  dsimp only at S hok
  have hl : lv_has ls 3 [(0, .ref (ad v0)), (1, .int v1), (2, .int v2)] := hl
  show W p l e (hy_rm 0 0 w0) s m args below meth c H locs cells slots (hy_Q below G ad0 w0 o args s) (F0 m 16 ls [])
  have hv_v0 : v0 < w.1.length := hok (.ref v0) (List.mem_of_getElem? (i := 0) rfl) v0 rfl
  obtain ⟨a_v0, ha_v0⟩ : ∃ a, ad v0 = a := ⟨_, rfl⟩
  rw [ha_v0] at hl
  unfold sg_M_readRow_16 at h
  refine lv_iload_n hx hb d_M_readRow_16 rfl (lv_at hl 2 rfl) ?_
  refine lv_aload_n hx hb d_M_readRow_17 rfl (lv_at hl 0 rfl) ?_
  obtain ⟨x1, hx1, h⟩ := hy_bd h
  refine hy_geti B S ha_v0 hx1 rfl (Nat.le_of_ble_eq_true rfl) i_6 (j := 8) tw_658 (fun _ h => h) d_M_readRow_18 ?_
  refine lv_icmp_ge (tgt := 115) hx hb d_M_readRow_21 (by decide) (fun c2 => ?_) (fun c2 => ?_)
  · rw [if_pos c2] at h
    refine lv_iload_n hx hb d_M_readRow_115 rfl (lv_at hl 1 rfl) ?_
    refine lv_if_eq (tgt := 130) hx hb d_M_readRow_116 (by decide) (fun c3 => ?_) (fun c3 => ?_)
    · rw [if_pos c3] at h
      cases h
      exact hy_jump K S hy_ok0 (lv_sub hl [] rfl) (by rfl) (by rfl)
    · rw [if_neg c3] at h
      refine lv_aload_n hx hb d_M_readRow_119 rfl (lv_at hl 0 rfl) ?_
      obtain ⟨x4, hx4, h⟩ := hy_bd h
      refine hy_geti B S ha_v0 hx4 rfl (Nat.le_of_ble_eq_true rfl) i_6 (j := 11) tw_661 (fun _ h => h) d_M_readRow_120 ?_
      refine lv_if_le (tgt := 130) hx hb d_M_readRow_123 (by decide) (fun c5 => ?_) (fun c5 => ?_)
      · rw [if_pos c5] at h
        cases h
        exact hy_jump K S hy_ok0 (lv_sub hl [] rfl) (by rfl) (by rfl)
      · rw [if_neg c5] at h
        refine lv_iconst (v := 1) hx hb d_M_readRow_126 (by decide) ?_
        refine lv_goto (tgt := 131) hx hb d_M_readRow_127 (by decide) ?_
        cases h
        cases K
        exact hy_zret hA B S (by decide) d_M_readRow_131
  · rw [if_neg c2] at h
    refine lv_aload_n hx hb d_M_readRow_24 rfl (lv_at hl 0 rfl) ?_
    obtain ⟨r6, hr6, h⟩ := hy_bd h
    refine hy_getr B S ha_v0 hr6 rfl (Nat.le_of_ble_eq_true rfl) i_6 (j := 9) tw_659 (fun _ h => h) d_M_readRow_25 (fun a_r6 ha_r6 hv_r6 => ?_)
    refine lv_iload_n hx hb d_M_readRow_28 rfl (lv_at hl 2 rfl) ?_
    obtain ⟨x7, hx7, h⟩ := hy_bd h
    refine hy_iald B S ha_r6 hx7 d_M_readRow_29 ?_
    refine lv_if_lt (tgt := 71) hx hb d_M_readRow_30 (by decide) (fun c8 => ?_) (fun c8 => ?_)
    · rw [if_pos c8] at h
      refine lv_iload_n hx hb d_M_readRow_71 rfl (lv_at hl 1 rfl) ?_
      refine lv_if_eq (tgt := 91) hx hb d_M_readRow_72 (by decide) (fun c9 => ?_) (fun c9 => ?_)
      · rw [if_pos c9] at h
        cases h
        exact hy_jump K S (hy_okr (by omega) (hy_oki hy_ok0)) (lv_sub hl [0, 2] rfl) (by subst ha_v0; rfl) (by subst ha_v0; rfl)
      · rw [if_neg c9] at h
        refine lv_aload_n hx hb d_M_readRow_75 rfl (lv_at hl 0 rfl) ?_
        obtain ⟨r10, hr10, h⟩ := hy_bd h
        refine hy_getr B S ha_v0 hr10 rfl (Nat.le_of_ble_eq_true rfl) i_6 (j := 13) tw_663 (fun _ h => h) d_M_readRow_76 (fun a_r10 ha_r10 hv_r10 => ?_)
        refine lv_aload_n hx hb d_M_readRow_79 rfl (lv_at hl 0 rfl) ?_
        obtain ⟨x11, hx11, h⟩ := hy_bd h
        refine hy_geti B S ha_v0 hx11 rfl (Nat.le_of_ble_eq_true rfl) i_6 (j := 11) tw_661 (fun _ h => h) d_M_readRow_80 ?_
        obtain ⟨x12, hx12, h⟩ := hy_bd h
        refine hy_iald B S ha_r10 hx12 d_M_readRow_83 ?_
        refine lv_if_ne (tgt := 91) hx hb d_M_readRow_84 (by decide) (fun c13 => ?_) (fun c13 => ?_)
        · rw [if_neg c13] at h
          cases h
          exact hy_jump K S (hy_okr (by omega) (hy_oki hy_ok0)) (lv_sub hl [0, 2] rfl) (by subst ha_v0; rfl) (by subst ha_v0; rfl)
        · rw [if_pos c13] at h
          refine lv_iconst (v := 1) hx hb d_M_readRow_87 (by decide) ?_
          refine lv_goto (tgt := 92) hx hb d_M_readRow_88 (by decide) ?_
          cases h
          exact hy_jump K S (hy_okr (by omega) (hy_oki (hy_oki hy_ok0))) (lv_sub hl [0, 2] rfl) (by subst ha_v0; rfl) (by subst ha_v0; rfl)
    · rw [if_neg c8] at h
      refine lv_aload_n hx hb d_M_readRow_33 rfl (lv_at hl 0 rfl) ?_
      obtain ⟨r14, hr14, h⟩ := hy_bd h
      refine hy_getr B S ha_v0 hr14 rfl (Nat.le_of_ble_eq_true rfl) i_6 (j := 12) tw_662 (fun _ h => h) d_M_readRow_34 (fun a_r14 ha_r14 hv_r14 => ?_)
      refine lv_aload_n hx hb d_M_readRow_37 rfl (lv_at hl 0 rfl) ?_
      obtain ⟨x15, hx15, h⟩ := hy_bd h
      refine hy_geti B S ha_v0 hx15 rfl (Nat.le_of_ble_eq_true rfl) i_6 (j := 11) tw_661 (fun _ h => h) d_M_readRow_38 ?_
      refine lv_aload_n hx hb d_M_readRow_41 rfl (lv_at hl 0 rfl) ?_
      obtain ⟨r16, hr16, h⟩ := hy_bd h
      refine hy_getr B S ha_v0 hr16 rfl (Nat.le_of_ble_eq_true rfl) i_6 (j := 9) tw_659 (fun _ h => h) d_M_readRow_42 (fun a_r16 ha_r16 hv_r16 => ?_)
      refine lv_iload_n hx hb d_M_readRow_45 rfl (lv_at hl 2 rfl) ?_
      obtain ⟨x17, hx17, h⟩ := hy_bd h
      refine hy_iald B S ha_r16 hx17 d_M_readRow_46 ?_
      obtain ⟨w18, hw18, h⟩ := hy_bd h
      refine hy_iast B S ha_r14 hw18 d_M_readRow_47 (fun H locs S hl_w18 => ?_)
      refine lv_aload_n hx hb d_M_readRow_48 rfl (lv_at hl 0 rfl) ?_
      refine lv_dup hx hb d_M_readRow_49 rfl ?_
      obtain ⟨x19, hx19, h⟩ := hy_bd h
      refine hy_geti B S ha_v0 hx19 rfl (Nat.le_of_ble_eq_true rfl) i_6 (j := 11) tw_661 (fun _ h => h) d_M_readRow_50 ?_
      refine lv_iconst (v := 1) hx hb d_M_readRow_53 (by decide) ?_
      refine lv_iadd hx hb d_M_readRow_54 ?_
      obtain ⟨w20, hw20, h⟩ := hy_bd h
      refine hy_put B S ha_v0 rfl hy_cvi hw20 rfl (Nat.le_of_ble_eq_true rfl) i_6 t_6 t_6_ok n_6 (j := 11) tw_661 (fun _ h => h) rfl rfl rfl d_M_readRow_55 (fun H locs S hl_w20 => ?_)
      refine lv_aload_n hx hb d_M_readRow_58 rfl (lv_at hl 0 rfl) ?_
      obtain ⟨r21, hr21, h⟩ := hy_bd h
      refine hy_getr B S ha_v0 hr21 rfl (Nat.le_of_ble_eq_true rfl) i_6 (j := 13) tw_663 (fun _ h => h) d_M_readRow_59 (fun a_r21 ha_r21 hv_r21 => ?_)
      refine lv_aload_n hx hb d_M_readRow_62 rfl (lv_at hl 0 rfl) ?_
      obtain ⟨x22, hx22, h⟩ := hy_bd h
      refine hy_geti B S ha_v0 hx22 rfl (Nat.le_of_ble_eq_true rfl) i_6 (j := 11) tw_661 (fun _ h => h) d_M_readRow_63 ?_
      refine lv_iconst (v := 0) hx hb d_M_readRow_66 (by decide) ?_
      obtain ⟨w23, hw23, h⟩ := hy_bd h
      refine hy_iast B S ha_r21 hw23 d_M_readRow_67 (fun H locs S hl_w23 => ?_)
      refine lv_goto (tgt := 109) hx hb d_M_readRow_68 (by decide) ?_
      cases h
      exact hy_jump K S (hy_okr (by omega) (hy_oki (hy_oki hy_ok0))) (lv_sub hl [0, 1, 2] rfl) (by subst ha_v0; rfl) (by subst ha_v0; rfl)
set_option maxHeartbeats 4000000 in
set_option maxRecDepth 100000 in
theorem sk_M_readRow_91 {p : Program} {l : Launch} {e : Env} {s : State} {m : MethodId} {args : Array Value} {below : List Frame} {meth : Method} {c : Code} {G : hy_G} {A : Nat → Prop} {ad0 : Nat → Nat} {w0 : hy_W} {o : hy_O} (hl9 : l.flags = flags0) (hA : hy_A G ad0 w0 s.heap.size = A) (B : hy_B p l e (hy_rm 0 0 w0) s m args below meth c "HyphenPatternsModel" b_M_readRow 3 (some .boolean) [] G A) (v0 : Nat) (v2 : Int32) (w : hy_W) (nx : hy_N) (h : sg_M_readRow_91 v0 v2 w = some nx) (K : hy_Nx lay_M_readRow p l e (hy_rm 0 0 w0) s m args below meth c 3 G A ad0 w0.1.length (hy_Q below G ad0 w0 o args s) o nx) : hy_At lay_M_readRow p l e (hy_rm 0 0 w0) s m args below meth c 3 G A ad0 w0.1.length (hy_Q below G ad0 w0 o args s) (91, [.ref v0, .int v2], w) := by
  intro ad H locs cells slots ls S hok hl
  have hx := B.1
  have hb := B.2.1
  dsimp only at S hok
  have hl : lv_has ls 3 [(0, .ref (ad v0)), (2, .int v2)] := hl
  show W p l e (hy_rm 0 0 w0) s m args below meth c H locs cells slots (hy_Q below G ad0 w0 o args s) (F0 m 91 ls [])
  have hv_v0 : v0 < w.1.length := hok (.ref v0) (List.mem_of_getElem? (i := 0) rfl) v0 rfl
  obtain ⟨a_v0, ha_v0⟩ : ∃ a, ad v0 = a := ⟨_, rfl⟩
  rw [ha_v0] at hl
  unfold sg_M_readRow_91 at h
  refine lv_iconst (v := 0) hx hb d_M_readRow_91 (by decide) ?_
  cases h
  exact hy_jump K S (hy_okr (by omega) (hy_oki (hy_oki hy_ok0))) (lv_sub hl [0, 1] rfl) (by subst ha_v0; rfl) (by subst ha_v0; rfl)
set_option maxHeartbeats 4000000 in
set_option maxRecDepth 100000 in
theorem sk_M_readRow_92 {p : Program} {l : Launch} {e : Env} {s : State} {m : MethodId} {args : Array Value} {below : List Frame} {meth : Method} {c : Code} {G : hy_G} {A : Nat → Prop} {ad0 : Nat → Nat} {w0 : hy_W} {o : hy_O} (hl9 : l.flags = flags0) (hA : hy_A G ad0 w0 s.heap.size = A) (B : hy_B p l e (hy_rm 0 0 w0) s m args below meth c "HyphenPatternsModel" b_M_readRow 3 (some .boolean) [] G A) (v0 : Nat) (v2 : Int32) (s0 : Int32) (w : hy_W) (nx : hy_N) (h : sg_M_readRow_92 v0 v2 s0 w = some nx) (K : hy_Nx lay_M_readRow p l e (hy_rm 0 0 w0) s m args below meth c 3 G A ad0 w0.1.length (hy_Q below G ad0 w0 o args s) o nx) : hy_At lay_M_readRow p l e (hy_rm 0 0 w0) s m args below meth c 3 G A ad0 w0.1.length (hy_Q below G ad0 w0 o args s) (92, [.ref v0, .int v2, .int s0], w) := by
  intro ad H locs cells slots ls S hok hl
  have hx := B.1
  have hb := B.2.1
  dsimp only at S hok
  have hl : lv_has ls 3 [(0, .ref (ad v0)), (2, .int v2)] := hl
  show W p l e (hy_rm 0 0 w0) s m args below meth c H locs cells slots (hy_Q below G ad0 w0 o args s) (F0 m 92 ls [.int s0])
  have hv_v0 : v0 < w.1.length := hok (.ref v0) (List.mem_of_getElem? (i := 0) rfl) v0 rfl
  obtain ⟨a_v0, ha_v0⟩ : ∃ a, ad v0 = a := ⟨_, rfl⟩
  rw [ha_v0] at hl
  unfold sg_M_readRow_92 at h
  refine lv_istore_n (lv' := [(1, .int s0), (0, .ref a_v0), (2, .int v2)]) hx hb d_M_readRow_92 rfl hl (Nat.le_of_ble_eq_true rfl) rfl (fun ls hl => ?_)
  refine lv_aload_n hx hb d_M_readRow_93 rfl (lv_at hl 1 rfl) ?_
  obtain ⟨r1, hr1, h⟩ := hy_bd h
  refine hy_getr B S ha_v0 hr1 rfl (Nat.le_of_ble_eq_true rfl) i_6 (j := 13) tw_663 (fun _ h => h) d_M_readRow_94 (fun a_r1 ha_r1 hv_r1 => ?_)
  refine lv_aload_n hx hb d_M_readRow_97 rfl (lv_at hl 1 rfl) ?_
  obtain ⟨x2, hx2, h⟩ := hy_bd h
  refine hy_geti B S ha_v0 hx2 rfl (Nat.le_of_ble_eq_true rfl) i_6 (j := 11) tw_661 (fun _ h => h) d_M_readRow_98 ?_
  refine lv_aload_n hx hb d_M_readRow_101 rfl (lv_at hl 1 rfl) ?_
  obtain ⟨r3, hr3, h⟩ := hy_bd h
  refine hy_getr B S ha_v0 hr3 rfl (Nat.le_of_ble_eq_true rfl) i_6 (j := 9) tw_659 (fun _ h => h) d_M_readRow_102 (fun a_r3 ha_r3 hv_r3 => ?_)
  refine lv_iload_n hx hb d_M_readRow_105 rfl (lv_at hl 2 rfl) ?_
  obtain ⟨x4, hx4, h⟩ := hy_bd h
  refine hy_iald B S ha_r3 hx4 d_M_readRow_106 ?_
  refine lv_ineg hx hb d_M_readRow_107 ?_
  obtain ⟨w5, hw5, h⟩ := hy_bd h
  refine hy_iast B S ha_r1 hw5 d_M_readRow_108 (fun H locs S hl_w5 => ?_)
  cases h
  exact hy_jump K S (hy_okr (by omega) (hy_oki (hy_oki hy_ok0))) (lv_sub hl [1, 0, 2] rfl) (by subst ha_v0; rfl) (by subst ha_v0; rfl)
set_option maxHeartbeats 4000000 in
set_option maxRecDepth 100000 in
theorem sk_M_readRow_109 {p : Program} {l : Launch} {e : Env} {s : State} {m : MethodId} {args : Array Value} {below : List Frame} {meth : Method} {c : Code} {G : hy_G} {A : Nat → Prop} {ad0 : Nat → Nat} {w0 : hy_W} {o : hy_O} (hl9 : l.flags = flags0) (hA : hy_A G ad0 w0 s.heap.size = A) (B : hy_B p l e (hy_rm 0 0 w0) s m args below meth c "HyphenPatternsModel" b_M_readRow 3 (some .boolean) [] G A) (v0 : Nat) (v1 : Int32) (v2 : Int32) (w : hy_W) (nx : hy_N) (h : sg_M_readRow_109 v0 v1 v2 w = some nx) (K : hy_Nx lay_M_readRow p l e (hy_rm 0 0 w0) s m args below meth c 3 G A ad0 w0.1.length (hy_Q below G ad0 w0 o args s) o nx) : hy_At lay_M_readRow p l e (hy_rm 0 0 w0) s m args below meth c 3 G A ad0 w0.1.length (hy_Q below G ad0 w0 o args s) (109, [.ref v0, .int v1, .int v2], w) := by
  intro ad H locs cells slots ls S hok hl
  have hx := B.1
  have hb := B.2.1
  dsimp only at S hok
  have hl : lv_has ls 3 [(0, .ref (ad v0)), (1, .int v1), (2, .int v2)] := hl
  show W p l e (hy_rm 0 0 w0) s m args below meth c H locs cells slots (hy_Q below G ad0 w0 o args s) (F0 m 109 ls [])
  have hv_v0 : v0 < w.1.length := hok (.ref v0) (List.mem_of_getElem? (i := 0) rfl) v0 rfl
  obtain ⟨a_v0, ha_v0⟩ : ∃ a, ad v0 = a := ⟨_, rfl⟩
  rw [ha_v0] at hl
  unfold sg_M_readRow_109 at h
  refine lv_iinc (v := (v2 + 1)) (lv' := [(2, .int (v2 + 1)), (0, .ref a_v0), (1, .int v1)]) hx hb d_M_readRow_109 hl (k := 2) rfl rfl (Nat.le_of_ble_eq_true rfl) rfl (fun ls hl => ?_)
  refine lv_goto (tgt := 16) hx hb d_M_readRow_112 (by decide) ?_
  cases h
  exact hy_jump K S (hy_okr (by omega) (hy_oki (hy_oki hy_ok0))) (lv_sub hl [1, 2, 0] rfl) (by subst ha_v0; rfl) (by subst ha_v0; rfl)
set_option maxHeartbeats 4000000 in
set_option maxRecDepth 100000 in
theorem sk_M_readRow_130 {p : Program} {l : Launch} {e : Env} {s : State} {m : MethodId} {args : Array Value} {below : List Frame} {meth : Method} {c : Code} {G : hy_G} {A : Nat → Prop} {ad0 : Nat → Nat} {w0 : hy_W} {o : hy_O} (hl9 : l.flags = flags0) (hA : hy_A G ad0 w0 s.heap.size = A) (B : hy_B p l e (hy_rm 0 0 w0) s m args below meth c "HyphenPatternsModel" b_M_readRow 3 (some .boolean) [] G A)  (w : hy_W) (nx : hy_N) (h : sg_M_readRow_130  w = some nx) (K : hy_Nx lay_M_readRow p l e (hy_rm 0 0 w0) s m args below meth c 3 G A ad0 w0.1.length (hy_Q below G ad0 w0 o args s) o nx) : hy_At lay_M_readRow p l e (hy_rm 0 0 w0) s m args below meth c 3 G A ad0 w0.1.length (hy_Q below G ad0 w0 o args s) (130, [], w) := by
  intro ad H locs cells slots ls S hok hl
  have hx := B.1
  have hb := B.2.1
  dsimp only at S hok
  have hl : lv_has ls 3 [] := hl
  show W p l e (hy_rm 0 0 w0) s m args below meth c H locs cells slots (hy_Q below G ad0 w0 o args s) (F0 m 130 ls [])
  unfold sg_M_readRow_130 at h
  refine lv_iconst (v := 0) hx hb d_M_readRow_130 (by decide) ?_
  cases h
  cases K
  exact hy_zret hA B S (by decide) d_M_readRow_131
theorem nk_M_readRow {p : Program} {l : Launch} {e : Env} {s : State} {m : MethodId} {args : Array Value} {below : List Frame} {meth : Method} {c : Code} {G : hy_G} {A : Nat → Prop} {ad0 : Nat → Nat} {w0 : hy_W} {o : hy_O} (hl9 : l.flags = flags0) (hA : hy_A G ad0 w0 s.heap.size = A) (B : hy_B p l e (hy_rm 0 0 w0) s m args below meth c "HyphenPatternsModel" b_M_readRow 3 (some .boolean) [] G A) (q : hy_P) (nx : hy_N) (hq : nx_M_readRow q = some nx) (K : hy_Nx lay_M_readRow p l e (hy_rm 0 0 w0) s m args below meth c 3 G A ad0 w0.1.length (hy_Q below G ad0 w0 o args s) o nx) : hy_At lay_M_readRow p l e (hy_rm 0 0 w0) s m args below meth c 3 G A ad0 w0.1.length (hy_Q below G ad0 w0 o args s) q := by
  unfold nx_M_readRow at hq
  split at hq
  · exact sk_M_readRow_0 hl9 hA B _ _ nx hq K
  · exact sk_M_readRow_16 hl9 hA B _ _ _ _ nx hq K
  · exact sk_M_readRow_91 hl9 hA B _ _ _ nx hq K
  · exact sk_M_readRow_92 hl9 hA B _ _ _ _ nx hq K
  · exact sk_M_readRow_109 hl9 hA B _ _ _ _ nx hq K
  · exact sk_M_readRow_130 hl9 hA B _ nx hq K
  · cases hq
theorem c_M_readRow {l : Launch} (hl9 : l.flags = flags0) (G : hy_G) (ad : Nat → Nat) {v0 : Nat} {w : hy_W} {o : hy_O} (h : f_M_readRow [.ref v0] w = some o) : hy_M l y_M_readRow (Cond.code y_M_readRow b_M_readRow 3 (some .boolean) :: hy_T) 0 0 G ad [.ref v0] w o := by
  obtain ⟨n, hn⟩ := hy_fx_iff.mp h
  refine hy_ofW hl9 (by decide +kernel) (Nat.le_of_ble_eq_true rfl) (fun p e s m args below meth c A hA hi B S hok ls hl => ?_)
  exact hy_loop (nk_M_readRow hl9 hA B) n _ hn ad s.heap [] 0 0 ls S hok hl
