/-! BODIES (printed by our translator): M_rowsOf, M_count -/
theorem d_M_rowsOf_0 : decode b_M_rowsOf 0 = .ok (.iconst 0, 1) := by decide +kernel
theorem d_M_rowsOf_1 : decode b_M_rowsOf 1 = .ok (.istore_n 2, 1) := by decide +kernel
theorem d_M_rowsOf_2 : decode b_M_rowsOf 2 = .ok (.iconst 0, 1) := by decide +kernel
theorem d_M_rowsOf_3 : decode b_M_rowsOf 3 = .ok (.istore_n 3, 1) := by decide +kernel
theorem d_M_rowsOf_4 : decode b_M_rowsOf 4 = .ok (.iload_n 3, 1) := by decide +kernel
theorem d_M_rowsOf_5 : decode b_M_rowsOf 5 = .ok (.iload_n 1, 1) := by decide +kernel
theorem d_M_rowsOf_6 : decode b_M_rowsOf 6 = .ok (.ifCond .eq 10, 3) := by decide +kernel
theorem d_M_rowsOf_9 : decode b_M_rowsOf 9 = .ok (.aload_n 0, 1) := by decide +kernel
theorem d_M_rowsOf_10 : decode b_M_rowsOf 10 = .ok (.getfield 106, 3) := by decide +kernel
theorem d_M_rowsOf_13 : decode b_M_rowsOf 13 = .ok (.goto 7, 3) := by decide +kernel
theorem d_M_rowsOf_16 : decode b_M_rowsOf 16 = .ok (.aload_n 0, 1) := by decide +kernel
theorem d_M_rowsOf_17 : decode b_M_rowsOf 17 = .ok (.getfield 115, 3) := by decide +kernel
theorem d_M_rowsOf_20 : decode b_M_rowsOf 20 = .ok (.if_icmp .ge 43, 3) := by decide +kernel
theorem d_M_rowsOf_23 : decode b_M_rowsOf 23 = .ok (.iload_n 1, 1) := by decide +kernel
theorem d_M_rowsOf_24 : decode b_M_rowsOf 24 = .ok (.ifCond .eq 12, 3) := by decide +kernel
theorem d_M_rowsOf_27 : decode b_M_rowsOf 27 = .ok (.aload_n 0, 1) := by decide +kernel
theorem d_M_rowsOf_28 : decode b_M_rowsOf 28 = .ok (.getfield 40, 3) := by decide +kernel
theorem d_M_rowsOf_31 : decode b_M_rowsOf 31 = .ok (.iload_n 3, 1) := by decide +kernel
theorem d_M_rowsOf_32 : decode b_M_rowsOf 32 = .ok (.iaload, 1) := by decide +kernel
theorem d_M_rowsOf_33 : decode b_M_rowsOf 33 = .ok (.goto 9, 3) := by decide +kernel
theorem d_M_rowsOf_36 : decode b_M_rowsOf 36 = .ok (.aload_n 0, 1) := by decide +kernel
theorem d_M_rowsOf_37 : decode b_M_rowsOf 37 = .ok (.getfield 52, 3) := by decide +kernel
theorem d_M_rowsOf_40 : decode b_M_rowsOf 40 = .ok (.iload_n 3, 1) := by decide +kernel
theorem d_M_rowsOf_41 : decode b_M_rowsOf 41 = .ok (.iaload, 1) := by decide +kernel
theorem d_M_rowsOf_42 : decode b_M_rowsOf 42 = .ok (.aload_n 0, 1) := by decide +kernel
theorem d_M_rowsOf_43 : decode b_M_rowsOf 43 = .ok (.getfield 76, 3) := by decide +kernel
theorem d_M_rowsOf_46 : decode b_M_rowsOf 46 = .ok (.if_icmp .ne 9, 3) := by decide +kernel
theorem d_M_rowsOf_49 : decode b_M_rowsOf 49 = .ok (.iload_n 2, 1) := by decide +kernel
theorem d_M_rowsOf_50 : decode b_M_rowsOf 50 = .ok (.iconst 1, 1) := by decide +kernel
theorem d_M_rowsOf_51 : decode b_M_rowsOf 51 = .ok (.iadd, 1) := by decide +kernel
theorem d_M_rowsOf_52 : decode b_M_rowsOf 52 = .ok (.goto 4, 3) := by decide +kernel
theorem d_M_rowsOf_55 : decode b_M_rowsOf 55 = .ok (.iload_n 2, 1) := by decide +kernel
theorem d_M_rowsOf_56 : decode b_M_rowsOf 56 = .ok (.istore_n 2, 1) := by decide +kernel
theorem d_M_rowsOf_57 : decode b_M_rowsOf 57 = .ok (.iinc 3 1, 3) := by decide +kernel
theorem d_M_rowsOf_60 : decode b_M_rowsOf 60 = .ok (.goto (-56), 3) := by decide +kernel
theorem d_M_rowsOf_63 : decode b_M_rowsOf 63 = .ok (.iload_n 2, 1) := by decide +kernel
theorem d_M_rowsOf_64 : decode b_M_rowsOf 64 = .ok (.ireturn, 1) := by decide +kernel
def lay_M_rowsOf (pc : Nat) : List Nat := if pc = 0 then [0, 1] else if pc = 4 then [0, 1, 2, 3] else if pc = 20 then [0, 1, 2, 3] else if pc = 42 then [0, 1, 2, 3] else if pc = 56 then [0, 1, 3] else []
noncomputable def sg_M_rowsOf_0 (v0 : Nat) (v1 : Int32) (w : hy_W) : Option hy_N := some (.inl (4, [.ref v0, .int v1, .int 0, .int 0], w))
noncomputable def sg_M_rowsOf_4 (v0 : Nat) (v1 : Int32) (v2 : Int32) (v3 : Int32) (w : hy_W) : Option hy_N := if v1 = 0 then ((hy_gi w v0 6 19).bind fun x2 => some (.inl (20, [.ref v0, .int v1, .int v2, .int v3, .int x2, .int v3], w))) else ((hy_gi w v0 6 14).bind fun x3 => some (.inl (20, [.ref v0, .int v1, .int v2, .int v3, .int x3, .int v3], w)))
noncomputable def sg_M_rowsOf_20 (v0 : Nat) (v1 : Int32) (v2 : Int32) (v3 : Int32) (s0 : Int32) (s1 : Int32) (w : hy_W) : Option hy_N := if s0 ≤ s1 then (some (.inr (.inl (some (.int v2)), w))) else (if v1 = 0 then ((hy_gr w v0 6 20).bind fun r3 => (hy_ai w r3 v3).bind fun x4 => some (.inl (42, [.ref v0, .int v1, .int v2, .int v3, .int x4], w))) else ((hy_gr w v0 6 15).bind fun r5 => (hy_ai w r5 v3).bind fun x6 => some (.inl (42, [.ref v0, .int v1, .int v2, .int v3, .int x6], w))))
noncomputable def sg_M_rowsOf_42 (v0 : Nat) (v1 : Int32) (v2 : Int32) (v3 : Int32) (s0 : Int32) (w : hy_W) : Option hy_N := (hy_gi w v0 6 1).bind fun x1 => if s0 = x1 then (some (.inl (56, [.ref v0, .int v1, .int v3, .int (v2 + 1)], w))) else (some (.inl (56, [.ref v0, .int v1, .int v3, .int v2], w)))
noncomputable def sg_M_rowsOf_56 (v0 : Nat) (v1 : Int32) (v3 : Int32) (s0 : Int32) (w : hy_W) : Option hy_N := some (.inl (4, [.ref v0, .int v1, .int s0, .int (v3 + 1)], w))
noncomputable def nx_M_rowsOf (q : hy_P) : Option hy_N := match q with
  | (0, [.ref v0, .int v1], w) => sg_M_rowsOf_0 v0 v1 w
  | (4, [.ref v0, .int v1, .int v2, .int v3], w) => sg_M_rowsOf_4 v0 v1 v2 v3 w
  | (20, [.ref v0, .int v1, .int v2, .int v3, .int s0, .int s1], w) => sg_M_rowsOf_20 v0 v1 v2 v3 s0 s1 w
  | (42, [.ref v0, .int v1, .int v2, .int v3, .int s0], w) => sg_M_rowsOf_42 v0 v1 v2 v3 s0 w
  | (56, [.ref v0, .int v1, .int v3, .int s0], w) => sg_M_rowsOf_56 v0 v1 v3 s0 w
  | _ => none
noncomputable def f_M_rowsOf (av : List Value) (w : hy_W) : Option hy_O := hy_fx nx_M_rowsOf (0, av, w)
set_option maxHeartbeats 4000000 in
set_option maxRecDepth 100000 in
theorem sk_M_rowsOf_0 {p : Program} {l : Launch} {e : Env} {s : State} {m : MethodId} {args : Array Value} {below : List Frame} {meth : Method} {c : Code} {G : hy_G} {A : Nat → Prop} {ad0 : Nat → Nat} {w0 : hy_W} {o : hy_O} (hl9 : l.flags = flags0) (hA : hy_A G ad0 w0 s.heap.size = A) (B : hy_B p l e (hy_rm 0 0 w0) s m args below meth c "HyphenPatternsModel" b_M_rowsOf 4 (some .int) [] G A) (v0 : Nat) (v1 : Int32) (w : hy_W) (nx : hy_N) (h : sg_M_rowsOf_0 v0 v1 w = some nx) (K : hy_Nx lay_M_rowsOf p l e (hy_rm 0 0 w0) s m args below meth c 4 G A ad0 w0.1.length (hy_Q below G ad0 w0 o args s) o nx) : hy_At lay_M_rowsOf p l e (hy_rm 0 0 w0) s m args below meth c 4 G A ad0 w0.1.length (hy_Q below G ad0 w0 o args s) (0, [.ref v0, .int v1], w) := by
  intro ad H locs cells slots ls S hok hl
  have hx := B.1
  have hb := B.2.1
  dsimp only at S hok
  have hl : lv_has ls 4 [(0, .ref (ad v0)), (1, .int v1)] := hl
  show W p l e (hy_rm 0 0 w0) s m args below meth c H locs cells slots (hy_Q below G ad0 w0 o args s) (F0 m 0 ls [])
  have hv_v0 : v0 < w.1.length := hok (.ref v0) (List.mem_of_getElem? (i := 0) rfl) v0 rfl
  obtain ⟨a_v0, ha_v0⟩ : ∃ a, ad v0 = a := ⟨_, rfl⟩
  rw [ha_v0] at hl
  unfold sg_M_rowsOf_0 at h
  refine lv_iconst (v := 0) hx hb d_M_rowsOf_0 (by decide) ?_
  refine lv_istore_n (lv' := [(2, .int 0), (0, .ref a_v0), (1, .int v1)]) hx hb d_M_rowsOf_1 rfl hl (Nat.le_of_ble_eq_true rfl) rfl (fun ls hl => ?_)
  refine lv_iconst (v := 0) hx hb d_M_rowsOf_2 (by decide) ?_
  refine lv_istore_n (lv' := [(3, .int 0), (2, .int 0), (0, .ref a_v0), (1, .int v1)]) hx hb d_M_rowsOf_3 rfl hl (Nat.le_of_ble_eq_true rfl) rfl (fun ls hl => ?_)
  cases h
  exact hy_jump K S (hy_okr (by omega) (hy_oki (hy_oki (hy_oki hy_ok0)))) (lv_sub hl [2, 3, 1, 0] rfl) (by subst ha_v0; rfl) (by subst ha_v0; rfl)
set_option maxHeartbeats 4000000 in
set_option maxRecDepth 100000 in
theorem sk_M_rowsOf_4 {p : Program} {l : Launch} {e : Env} {s : State} {m : MethodId} {args : Array Value} {below : List Frame} {meth : Method} {c : Code} {G : hy_G} {A : Nat → Prop} {ad0 : Nat → Nat} {w0 : hy_W} {o : hy_O} (hl9 : l.flags = flags0) (hA : hy_A G ad0 w0 s.heap.size = A) (B : hy_B p l e (hy_rm 0 0 w0) s m args below meth c "HyphenPatternsModel" b_M_rowsOf 4 (some .int) [] G A) (v0 : Nat) (v1 : Int32) (v2 : Int32) (v3 : Int32) (w : hy_W) (nx : hy_N) (h : sg_M_rowsOf_4 v0 v1 v2 v3 w = some nx) (K : hy_Nx lay_M_rowsOf p l e (hy_rm 0 0 w0) s m args below meth c 4 G A ad0 w0.1.length (hy_Q below G ad0 w0 o args s) o nx) : hy_At lay_M_rowsOf p l e (hy_rm 0 0 w0) s m args below meth c 4 G A ad0 w0.1.length (hy_Q below G ad0 w0 o args s) (4, [.ref v0, .int v1, .int v2, .int v3], w) := by
  intro ad H locs cells slots ls S hok hl
  have hx := B.1
  have hb := B.2.1
  dsimp only at S hok
  have hl : lv_has ls 4 [(0, .ref (ad v0)), (1, .int v1), (2, .int v2), (3, .int v3)] := hl
  show W p l e (hy_rm 0 0 w0) s m args below meth c H locs cells slots (hy_Q below G ad0 w0 o args s) (F0 m 4 ls [])
  have hv_v0 : v0 < w.1.length := hok (.ref v0) (List.mem_of_getElem? (i := 0) rfl) v0 rfl
  obtain ⟨a_v0, ha_v0⟩ : ∃ a, ad v0 = a := ⟨_, rfl⟩
  rw [ha_v0] at hl
  unfold sg_M_rowsOf_4 at h
  refine lv_iload_n hx hb d_M_rowsOf_4 rfl (lv_at hl 3 rfl) ?_
  refine lv_iload_n hx hb d_M_rowsOf_5 rfl (lv_at hl 1 rfl) ?_
  refine lv_if_eq (tgt := 16) hx hb d_M_rowsOf_6 (by decide) (fun c1 => ?_) (fun c1 => ?_)
  · rw [if_pos c1] at h
    refine lv_aload_n hx hb d_M_rowsOf_16 rfl (lv_at hl 0 rfl) ?_
    obtain ⟨x2, hx2, h⟩ := hy_bd h
    refine hy_geti B S ha_v0 hx2 rfl (Nat.le_of_ble_eq_true rfl) i_6 (j := 19) tw_669 (fun _ h => h) d_M_rowsOf_17 ?_
    cases h
    exact hy_jump K S (hy_okr (by omega) (hy_oki (hy_oki (hy_oki (hy_oki (hy_oki hy_ok0)))))) (lv_sub hl [0, 1, 2, 3] rfl) (by subst ha_v0; rfl) (by subst ha_v0; rfl)
  · rw [if_neg c1] at h
    refine lv_aload_n hx hb d_M_rowsOf_9 rfl (lv_at hl 0 rfl) ?_
    obtain ⟨x3, hx3, h⟩ := hy_bd h
    refine hy_geti B S ha_v0 hx3 rfl (Nat.le_of_ble_eq_true rfl) i_6 (j := 14) tw_664 (fun _ h => h) d_M_rowsOf_10 ?_
    refine lv_goto (tgt := 20) hx hb d_M_rowsOf_13 (by decide) ?_
    cases h
    exact hy_jump K S (hy_okr (by omega) (hy_oki (hy_oki (hy_oki (hy_oki (hy_oki hy_ok0)))))) (lv_sub hl [0, 1, 2, 3] rfl) (by subst ha_v0; rfl) (by subst ha_v0; rfl)
set_option maxHeartbeats 4000000 in
set_option maxRecDepth 100000 in
theorem sk_M_rowsOf_20 {p : Program} {l : Launch} {e : Env} {s : State} {m : MethodId} {args : Array Value} {below : List Frame} {meth : Method} {c : Code} {G : hy_G} {A : Nat → Prop} {ad0 : Nat → Nat} {w0 : hy_W} {o : hy_O} (hl9 : l.flags = flags0) (hA : hy_A G ad0 w0 s.heap.size = A) (B : hy_B p l e (hy_rm 0 0 w0) s m args below meth c "HyphenPatternsModel" b_M_rowsOf 4 (some .int) [] G A) (v0 : Nat) (v1 : Int32) (v2 : Int32) (v3 : Int32) (s0 : Int32) (s1 : Int32) (w : hy_W) (nx : hy_N) (h : sg_M_rowsOf_20 v0 v1 v2 v3 s0 s1 w = some nx) (K : hy_Nx lay_M_rowsOf p l e (hy_rm 0 0 w0) s m args below meth c 4 G A ad0 w0.1.length (hy_Q below G ad0 w0 o args s) o nx) : hy_At lay_M_rowsOf p l e (hy_rm 0 0 w0) s m args below meth c 4 G A ad0 w0.1.length (hy_Q below G ad0 w0 o args s) (20, [.ref v0, .int v1, .int v2, .int v3, .int s0, .int s1], w) := by
  intro ad H locs cells slots ls S hok hl
  have hx := B.1
  have hb := B.2.1
  dsimp only at S hok
  have hl : lv_has ls 4 [(0, .ref (ad v0)), (1, .int v1), (2, .int v2), (3, .int v3)] := hl
  show W p l e (hy_rm 0 0 w0) s m args below meth c H locs cells slots (hy_Q below G ad0 w0 o args s) (F0 m 20 ls [.int s0, .int s1])
  have hv_v0 : v0 < w.1.length := hok (.ref v0) (List.mem_of_getElem? (i := 0) rfl) v0 rfl
  obtain ⟨a_v0, ha_v0⟩ : ∃ a, ad v0 = a := ⟨_, rfl⟩
  rw [ha_v0] at hl
  unfold sg_M_rowsOf_20 at h
  refine lv_icmp_ge (tgt := 63) hx hb d_M_rowsOf_20 (by decide) (fun c1 => ?_) (fun c1 => ?_)
  · rw [if_pos c1] at h
    refine lv_iload_n hx hb d_M_rowsOf_63 rfl (lv_at hl 2 rfl) ?_
    cases h
    cases K
    exact hy_iret hA B S d_M_rowsOf_64
  · rw [if_neg c1] at h
    refine lv_iload_n hx hb d_M_rowsOf_23 rfl (lv_at hl 1 rfl) ?_
    refine lv_if_eq (tgt := 36) hx hb d_M_rowsOf_24 (by decide) (fun c2 => ?_) (fun c2 => ?_)
    · rw [if_pos c2] at h
      refine lv_aload_n hx hb d_M_rowsOf_36 rfl (lv_at hl 0 rfl) ?_
      obtain ⟨r3, hr3, h⟩ := hy_bd h
      refine hy_getr B S ha_v0 hr3 rfl (Nat.le_of_ble_eq_true rfl) i_6 (j := 20) tw_670 (fun _ h => h) d_M_rowsOf_37 (fun a_r3 ha_r3 hv_r3 => ?_)
      refine lv_iload_n hx hb d_M_rowsOf_40 rfl (lv_at hl 3 rfl) ?_
      obtain ⟨x4, hx4, h⟩ := hy_bd h
      refine hy_iald B S ha_r3 hx4 d_M_rowsOf_41 ?_
      cases h
      exact hy_jump K S (hy_okr (by omega) (hy_oki (hy_oki (hy_oki (hy_oki hy_ok0))))) (lv_sub hl [0, 1, 2, 3] rfl) (by subst ha_v0; rfl) (by subst ha_v0; rfl)
    · rw [if_neg c2] at h
      refine lv_aload_n hx hb d_M_rowsOf_27 rfl (lv_at hl 0 rfl) ?_
      obtain ⟨r5, hr5, h⟩ := hy_bd h
      refine hy_getr B S ha_v0 hr5 rfl (Nat.le_of_ble_eq_true rfl) i_6 (j := 15) tw_665 (fun _ h => h) d_M_rowsOf_28 (fun a_r5 ha_r5 hv_r5 => ?_)
      refine lv_iload_n hx hb d_M_rowsOf_31 rfl (lv_at hl 3 rfl) ?_
      obtain ⟨x6, hx6, h⟩ := hy_bd h
      refine hy_iald B S ha_r5 hx6 d_M_rowsOf_32 ?_
      refine lv_goto (tgt := 42) hx hb d_M_rowsOf_33 (by decide) ?_
      cases h
      exact hy_jump K S (hy_okr (by omega) (hy_oki (hy_oki (hy_oki (hy_oki hy_ok0))))) (lv_sub hl [0, 1, 2, 3] rfl) (by subst ha_v0; rfl) (by subst ha_v0; rfl)
set_option maxHeartbeats 4000000 in
set_option maxRecDepth 100000 in
theorem sk_M_rowsOf_42 {p : Program} {l : Launch} {e : Env} {s : State} {m : MethodId} {args : Array Value} {below : List Frame} {meth : Method} {c : Code} {G : hy_G} {A : Nat → Prop} {ad0 : Nat → Nat} {w0 : hy_W} {o : hy_O} (hl9 : l.flags = flags0) (hA : hy_A G ad0 w0 s.heap.size = A) (B : hy_B p l e (hy_rm 0 0 w0) s m args below meth c "HyphenPatternsModel" b_M_rowsOf 4 (some .int) [] G A) (v0 : Nat) (v1 : Int32) (v2 : Int32) (v3 : Int32) (s0 : Int32) (w : hy_W) (nx : hy_N) (h : sg_M_rowsOf_42 v0 v1 v2 v3 s0 w = some nx) (K : hy_Nx lay_M_rowsOf p l e (hy_rm 0 0 w0) s m args below meth c 4 G A ad0 w0.1.length (hy_Q below G ad0 w0 o args s) o nx) : hy_At lay_M_rowsOf p l e (hy_rm 0 0 w0) s m args below meth c 4 G A ad0 w0.1.length (hy_Q below G ad0 w0 o args s) (42, [.ref v0, .int v1, .int v2, .int v3, .int s0], w) := by
  intro ad H locs cells slots ls S hok hl
  have hx := B.1
  have hb := B.2.1
  dsimp only at S hok
  have hl : lv_has ls 4 [(0, .ref (ad v0)), (1, .int v1), (2, .int v2), (3, .int v3)] := hl
  show W p l e (hy_rm 0 0 w0) s m args below meth c H locs cells slots (hy_Q below G ad0 w0 o args s) (F0 m 42 ls [.int s0])
  have hv_v0 : v0 < w.1.length := hok (.ref v0) (List.mem_of_getElem? (i := 0) rfl) v0 rfl
  obtain ⟨a_v0, ha_v0⟩ : ∃ a, ad v0 = a := ⟨_, rfl⟩
  rw [ha_v0] at hl
  unfold sg_M_rowsOf_42 at h
  refine lv_aload_n hx hb d_M_rowsOf_42 rfl (lv_at hl 0 rfl) ?_
  obtain ⟨x1, hx1, h⟩ := hy_bd h
  refine hy_geti B S ha_v0 hx1 rfl (Nat.le_of_ble_eq_true rfl) i_6 (j := 1) tw_651 (fun _ h => h) d_M_rowsOf_43 ?_
  refine lv_icmp_ne (tgt := 55) hx hb d_M_rowsOf_46 (by decide) (fun c2 => ?_) (fun c2 => ?_)
  · rw [if_neg c2] at h
    refine lv_iload_n hx hb d_M_rowsOf_55 rfl (lv_at hl 2 rfl) ?_
    cases h
    exact hy_jump K S (hy_okr (by omega) (hy_oki (hy_oki (hy_oki hy_ok0)))) (lv_sub hl [0, 1, 3] rfl) (by subst ha_v0; rfl) (by subst ha_v0; rfl)
  · rw [if_pos c2] at h
    refine lv_iload_n hx hb d_M_rowsOf_49 rfl (lv_at hl 2 rfl) ?_
    refine lv_iconst (v := 1) hx hb d_M_rowsOf_50 (by decide) ?_
    refine lv_iadd hx hb d_M_rowsOf_51 ?_
    refine lv_goto (tgt := 56) hx hb d_M_rowsOf_52 (by decide) ?_
    cases h
    exact hy_jump K S (hy_okr (by omega) (hy_oki (hy_oki (hy_oki hy_ok0)))) (lv_sub hl [0, 1, 3] rfl) (by subst ha_v0; rfl) (by subst ha_v0; rfl)
set_option maxHeartbeats 4000000 in
set_option maxRecDepth 100000 in
theorem sk_M_rowsOf_56 {p : Program} {l : Launch} {e : Env} {s : State} {m : MethodId} {args : Array Value} {below : List Frame} {meth : Method} {c : Code} {G : hy_G} {A : Nat → Prop} {ad0 : Nat → Nat} {w0 : hy_W} {o : hy_O} (hl9 : l.flags = flags0) (hA : hy_A G ad0 w0 s.heap.size = A) (B : hy_B p l e (hy_rm 0 0 w0) s m args below meth c "HyphenPatternsModel" b_M_rowsOf 4 (some .int) [] G A) (v0 : Nat) (v1 : Int32) (v3 : Int32) (s0 : Int32) (w : hy_W) (nx : hy_N) (h : sg_M_rowsOf_56 v0 v1 v3 s0 w = some nx) (K : hy_Nx lay_M_rowsOf p l e (hy_rm 0 0 w0) s m args below meth c 4 G A ad0 w0.1.length (hy_Q below G ad0 w0 o args s) o nx) : hy_At lay_M_rowsOf p l e (hy_rm 0 0 w0) s m args below meth c 4 G A ad0 w0.1.length (hy_Q below G ad0 w0 o args s) (56, [.ref v0, .int v1, .int v3, .int s0], w) := by
  intro ad H locs cells slots ls S hok hl
  have hx := B.1
  have hb := B.2.1
  dsimp only at S hok
  have hl : lv_has ls 4 [(0, .ref (ad v0)), (1, .int v1), (3, .int v3)] := hl
  show W p l e (hy_rm 0 0 w0) s m args below meth c H locs cells slots (hy_Q below G ad0 w0 o args s) (F0 m 56 ls [.int s0])
  have hv_v0 : v0 < w.1.length := hok (.ref v0) (List.mem_of_getElem? (i := 0) rfl) v0 rfl
  obtain ⟨a_v0, ha_v0⟩ : ∃ a, ad v0 = a := ⟨_, rfl⟩
  rw [ha_v0] at hl
  unfold sg_M_rowsOf_56 at h
  refine lv_istore_n (lv' := [(2, .int s0), (0, .ref a_v0), (1, .int v1), (3, .int v3)]) hx hb d_M_rowsOf_56 rfl hl (Nat.le_of_ble_eq_true rfl) rfl (fun ls hl => ?_)
  refine lv_iinc (v := (v3 + 1)) (lv' := [(3, .int (v3 + 1)), (2, .int s0), (0, .ref a_v0), (1, .int v1)]) hx hb d_M_rowsOf_57 hl (k := 3) rfl rfl (Nat.le_of_ble_eq_true rfl) rfl (fun ls hl => ?_)
  refine lv_goto (tgt := 4) hx hb d_M_rowsOf_60 (by decide) ?_
  cases h
  exact hy_jump K S (hy_okr (by omega) (hy_oki (hy_oki (hy_oki hy_ok0)))) (lv_sub hl [2, 3, 1, 0] rfl) (by subst ha_v0; rfl) (by subst ha_v0; rfl)
theorem nk_M_rowsOf {p : Program} {l : Launch} {e : Env} {s : State} {m : MethodId} {args : Array Value} {below : List Frame} {meth : Method} {c : Code} {G : hy_G} {A : Nat → Prop} {ad0 : Nat → Nat} {w0 : hy_W} {o : hy_O} (hl9 : l.flags = flags0) (hA : hy_A G ad0 w0 s.heap.size = A) (B : hy_B p l e (hy_rm 0 0 w0) s m args below meth c "HyphenPatternsModel" b_M_rowsOf 4 (some .int) [] G A) (q : hy_P) (nx : hy_N) (hq : nx_M_rowsOf q = some nx) (K : hy_Nx lay_M_rowsOf p l e (hy_rm 0 0 w0) s m args below meth c 4 G A ad0 w0.1.length (hy_Q below G ad0 w0 o args s) o nx) : hy_At lay_M_rowsOf p l e (hy_rm 0 0 w0) s m args below meth c 4 G A ad0 w0.1.length (hy_Q below G ad0 w0 o args s) q := by
  unfold nx_M_rowsOf at hq
  split at hq
  · exact sk_M_rowsOf_0 hl9 hA B _ _ _ nx hq K
  · exact sk_M_rowsOf_4 hl9 hA B _ _ _ _ _ nx hq K
  · exact sk_M_rowsOf_20 hl9 hA B _ _ _ _ _ _ _ nx hq K
  · exact sk_M_rowsOf_42 hl9 hA B _ _ _ _ _ _ nx hq K
  · exact sk_M_rowsOf_56 hl9 hA B _ _ _ _ _ nx hq K
  · cases hq
theorem c_M_rowsOf {l : Launch} (hl9 : l.flags = flags0) (G : hy_G) (ad : Nat → Nat) {v0 : Nat} {v1 : Int32} {w : hy_W} {o : hy_O} (h : f_M_rowsOf [.ref v0, .int v1] w = some o) : hy_M l y_M_rowsOf (Cond.code y_M_rowsOf b_M_rowsOf 4 (some .int) :: hy_T) 0 0 G ad [.ref v0, .int v1] w o := by
  obtain ⟨n, hn⟩ := hy_fx_iff.mp h
  refine hy_ofW hl9 (by decide +kernel) (Nat.le_of_ble_eq_true rfl) (fun p e s m args below meth c A hA hi B S hok ls hl => ?_)
  exact hy_loop (nk_M_rowsOf hl9 hA B) n _ hn ad s.heap [] 0 0 ls S hok hl
theorem d_M_count_0 : decode b_M_count 0 = .ok (.aload_n 0, 1) := by decide +kernel
theorem d_M_count_1 : decode b_M_count 1 = .ok (.iconst 0, 1) := by decide +kernel
theorem d_M_count_2 : decode b_M_count 2 = .ok (.putfield 67, 3) := by decide +kernel
theorem d_M_count_5 : decode b_M_count 5 = .ok (.iload_n 1, 1) := by decide +kernel
theorem d_M_count_6 : decode b_M_count 6 = .ok (.tableswitch 61 0 4 #[34, 39, 44, 49, 55], 34) := by decide +kernel
theorem d_M_count_40 : decode b_M_count 40 = .ok (.aload_n 0, 1) := by decide +kernel
theorem d_M_count_41 : decode b_M_count 41 = .ok (.invokevirtual 177, 3) := by decide +kernel
theorem d_M_count_44 : decode b_M_count 44 = .ok (.ireturn, 1) := by decide +kernel
theorem d_M_count_45 : decode b_M_count 45 = .ok (.aload_n 0, 1) := by decide +kernel
theorem d_M_count_46 : decode b_M_count 46 = .ok (.invokevirtual 180, 3) := by decide +kernel
theorem d_M_count_49 : decode b_M_count 49 = .ok (.ireturn, 1) := by decide +kernel
theorem d_M_count_50 : decode b_M_count 50 = .ok (.aload_n 0, 1) := by decide +kernel
theorem d_M_count_51 : decode b_M_count 51 = .ok (.invokevirtual 183, 3) := by decide +kernel
theorem d_M_count_54 : decode b_M_count 54 = .ok (.ireturn, 1) := by decide +kernel
theorem d_M_count_55 : decode b_M_count 55 = .ok (.aload_n 0, 1) := by decide +kernel
theorem d_M_count_56 : decode b_M_count 56 = .ok (.iconst 1, 1) := by decide +kernel
theorem d_M_count_57 : decode b_M_count 57 = .ok (.invokevirtual 186, 3) := by decide +kernel
theorem d_M_count_60 : decode b_M_count 60 = .ok (.ireturn, 1) := by decide +kernel
theorem d_M_count_61 : decode b_M_count 61 = .ok (.aload_n 0, 1) := by decide +kernel
theorem d_M_count_62 : decode b_M_count 62 = .ok (.iconst 0, 1) := by decide +kernel
theorem d_M_count_63 : decode b_M_count 63 = .ok (.invokevirtual 186, 3) := by decide +kernel
theorem d_M_count_66 : decode b_M_count 66 = .ok (.ireturn, 1) := by decide +kernel
theorem d_M_count_67 : decode b_M_count 67 = .ok (.iconst (-1), 1) := by decide +kernel
theorem d_M_count_68 : decode b_M_count 68 = .ok (.ireturn, 1) := by decide +kernel
def lay_M_count (pc : Nat) : List Nat := if pc = 0 then [0, 1] else []
noncomputable def sg_M_count_0 (v0 : Nat) (v1 : Int32) (w : hy_W) : Option hy_N := (hy_pf w v0 6 0 (.int 0)).bind fun w1 => if v1 = (0 : Int32) then (if hy_ob w1 v0 6 = true then hy_bi (f_M_words [.ref v0] w1) fun x4 w2 => some (.inr (.inl (some (.int x4)), w2)) else none) else (if v1 = (1 : Int32) then (if hy_ob w1 v0 6 = true then hy_bi (f_M_brokenPlaces [.ref v0] w1) fun x8 w6 => some (.inr (.inl (some (.int x8)), w6)) else none) else (if v1 = (2 : Int32) then (if hy_ob w1 v0 6 = true then hy_bi (f_M_times [.ref v0] w1) fun x12 w10 => some (.inr (.inl (some (.int x12)), w10)) else none) else (if v1 = (3 : Int32) then (if hy_ob w1 v0 6 = true then hy_bi (f_M_rowsOf [.ref v0, .int 1] w1) fun x16 w14 => some (.inr (.inl (some (.int x16)), w14)) else none) else (if v1 = (4 : Int32) then (if hy_ob w1 v0 6 = true then hy_bi (f_M_rowsOf [.ref v0, .int 0] w1) fun x20 w18 => some (.inr (.inl (some (.int x20)), w18)) else none) else (some (.inr (.inl (some (.int (-1))), w1)))))))
noncomputable def nx_M_count (q : hy_P) : Option hy_N := match q with
  | (0, [.ref v0, .int v1], w) => sg_M_count_0 v0 v1 w
  | _ => none
noncomputable def f_M_count (av : List Value) (w : hy_W) : Option hy_O := hy_fx nx_M_count (0, av, w)
set_option maxHeartbeats 4000000 in
set_option maxRecDepth 100000 in
theorem sk_M_count_0 {p : Program} {l : Launch} {e : Env} {s : State} {m : MethodId} {args : Array Value} {below : List Frame} {meth : Method} {c : Code} {G : hy_G} {A : Nat → Prop} {ad0 : Nat → Nat} {w0 : hy_W} {o : hy_O} (hl9 : l.flags = flags0) (hA : hy_A G ad0 w0 s.heap.size = A) (B : hy_B p l e (hy_rm 7 166 w0) s m args below meth c "HyphenPatternsModel" b_M_count 2 (some .int) [] G A) (v0 : Nat) (v1 : Int32) (w : hy_W) (nx : hy_N) (h : sg_M_count_0 v0 v1 w = some nx) (K : hy_Nx lay_M_count p l e (hy_rm 7 166 w0) s m args below meth c 2 G A ad0 w0.1.length (hy_Q below G ad0 w0 o args s) o nx) : hy_At lay_M_count p l e (hy_rm 7 166 w0) s m args below meth c 2 G A ad0 w0.1.length (hy_Q below G ad0 w0 o args s) (0, [.ref v0, .int v1], w) := by
  intro ad H locs cells slots ls S hok hl
  have hx := B.1
  have hb := B.2.1
  dsimp only at S hok
  have hl : lv_has ls 2 [(0, .ref (ad v0)), (1, .int v1)] := hl
  show W p l e (hy_rm 7 166 w0) s m args below meth c H locs cells slots (hy_Q below G ad0 w0 o args s) (F0 m 0 ls [])
  have hv_v0 : v0 < w.1.length := hok (.ref v0) (List.mem_of_getElem? (i := 0) rfl) v0 rfl
  obtain ⟨a_v0, ha_v0⟩ : ∃ a, ad v0 = a := ⟨_, rfl⟩
  rw [ha_v0] at hl
  unfold sg_M_count_0 at h
  refine lv_aload_n hx hb d_M_count_0 rfl (lv_at hl 0 rfl) ?_
  refine lv_iconst (v := 0) hx hb d_M_count_1 (by decide) ?_
  obtain ⟨w1, hw1, h⟩ := hy_bd h
  refine hy_put B S ha_v0 rfl hy_cvi hw1 rfl (Nat.le_of_ble_eq_true rfl) i_6 t_6 t_6_ok n_6 (j := 0) tw_650 (fun _ h => h) rfl rfl rfl d_M_count_2 (fun H locs S hl_w1 => ?_)
  refine lv_iload_n hx hb d_M_count_5 rfl (lv_at hl 1 rfl) ?_
  by_cases c22 : v1 = (0 : Int32)
  · rw [if_pos c22] at h
    rw [c22]
    refine lv_tableIn (off := 34) (tgt := 40) hx hb d_M_count_6 (by decide) (by decide) (by decide) (by decide) ?_
    refine lv_aload_n hx hb d_M_count_40 rfl (lv_at hl 0 rfl) ?_
    obtain ⟨ob5, h⟩ := hy_if h
    obtain ⟨fs_ob5, hf_ob5, hg_ob5⟩ := hy_ob_spec ob5
    obtain ⟨x4, w2, hq_w2, h⟩ := hy_bi_spec h
    refine hy_calli (hy_runV (rest := []) (As := []) (r := v0) (b := a_v0) B S rfl ha_v0 (by rfl) (c_M_words hl9 G ad hq_w2) (hy_okr (by omega) hy_ok0) tw_889 tw_9 tw_886 tw_888 sl_M_words (by decide) rfl (Nat.le_of_ble_eq_true rfl) (Nat.le_of_ble_eq_true rfl) hf_ob5 hg_ob5 rfl hl.1 (Nat.le_of_ble_eq_true rfl) d_M_count_41) (fun ad3 H locs cells slots hag hl_w2 S => ?_)
    have ha_v0 : ad3 v0 = a_v0 := (hag v0 (by omega)).trans ha_v0
    cases h
    cases K
    exact hy_iret hA B S d_M_count_44
  rw [if_neg c22] at h
  by_cases c23 : v1 = (1 : Int32)
  · rw [if_pos c23] at h
    rw [c23]
    refine lv_tableIn (off := 39) (tgt := 45) hx hb d_M_count_6 (by decide) (by decide) (by decide) (by decide) ?_
    refine lv_aload_n hx hb d_M_count_45 rfl (lv_at hl 0 rfl) ?_
    obtain ⟨ob9, h⟩ := hy_if h
    obtain ⟨fs_ob9, hf_ob9, hg_ob9⟩ := hy_ob_spec ob9
    obtain ⟨x8, w6, hq_w6, h⟩ := hy_bi_spec h
    refine hy_calli (hy_runV (rest := []) (As := []) (r := v0) (b := a_v0) B S rfl ha_v0 (by rfl) (c_M_brokenPlaces hl9 G ad hq_w6) (hy_okr (by omega) hy_ok0) tw_893 tw_9 tw_890 tw_892 sl_M_brokenPlaces (by decide) rfl (Nat.le_of_ble_eq_true rfl) (Nat.le_of_ble_eq_true rfl) hf_ob9 hg_ob9 rfl hl.1 (Nat.le_of_ble_eq_true rfl) d_M_count_46) (fun ad7 H locs cells slots hag hl_w6 S => ?_)
    have ha_v0 : ad7 v0 = a_v0 := (hag v0 (by omega)).trans ha_v0
    cases h
    cases K
    exact hy_iret hA B S d_M_count_49
  rw [if_neg c23] at h
  by_cases c24 : v1 = (2 : Int32)
  · rw [if_pos c24] at h
    rw [c24]
    refine lv_tableIn (off := 44) (tgt := 50) hx hb d_M_count_6 (by decide) (by decide) (by decide) (by decide) ?_
    refine lv_aload_n hx hb d_M_count_50 rfl (lv_at hl 0 rfl) ?_
    obtain ⟨ob13, h⟩ := hy_if h
    obtain ⟨fs_ob13, hf_ob13, hg_ob13⟩ := hy_ob_spec ob13
    obtain ⟨x12, w10, hq_w10, h⟩ := hy_bi_spec h
    refine hy_calli (hy_runV (rest := []) (As := []) (r := v0) (b := a_v0) B S rfl ha_v0 (by rfl) (c_M_times hl9 G ad hq_w10) (hy_okr (by omega) hy_ok0) tw_897 tw_9 tw_894 tw_896 sl_M_times (by decide) rfl (Nat.le_of_ble_eq_true rfl) (Nat.le_of_ble_eq_true rfl) hf_ob13 hg_ob13 rfl hl.1 (Nat.le_of_ble_eq_true rfl) d_M_count_51) (fun ad11 H locs cells slots hag hl_w10 S => ?_)
    have ha_v0 : ad11 v0 = a_v0 := (hag v0 (by omega)).trans ha_v0
    cases h
    cases K
    exact hy_iret hA B S d_M_count_54
  rw [if_neg c24] at h
  by_cases c25 : v1 = (3 : Int32)
  · rw [if_pos c25] at h
    rw [c25]
    refine lv_tableIn (off := 49) (tgt := 55) hx hb d_M_count_6 (by decide) (by decide) (by decide) (by decide) ?_
    refine lv_aload_n hx hb d_M_count_55 rfl (lv_at hl 0 rfl) ?_
    refine lv_iconst (v := 1) hx hb d_M_count_56 (by decide) ?_
    obtain ⟨ob17, h⟩ := hy_if h
    obtain ⟨fs_ob17, hf_ob17, hg_ob17⟩ := hy_ob_spec ob17
    obtain ⟨x16, w14, hq_w14, h⟩ := hy_bi_spec h
    refine hy_calli (hy_runV (rest := []) (As := [.int 1]) (r := v0) (b := a_v0) B S rfl ha_v0 (by rfl) (c_M_rowsOf hl9 G ad hq_w14) (hy_okr (by omega) (hy_oki hy_ok0)) tw_905 tw_9 tw_902 tw_904 sl_M_rowsOf (by decide) rfl (Nat.le_of_ble_eq_true rfl) (Nat.le_of_ble_eq_true rfl) hf_ob17 hg_ob17 rfl hl.1 (Nat.le_of_ble_eq_true rfl) d_M_count_57) (fun ad15 H locs cells slots hag hl_w14 S => ?_)
    have ha_v0 : ad15 v0 = a_v0 := (hag v0 (by omega)).trans ha_v0
    cases h
    cases K
    exact hy_iret hA B S d_M_count_60
  rw [if_neg c25] at h
  by_cases c26 : v1 = (4 : Int32)
  · rw [if_pos c26] at h
    rw [c26]
    refine lv_tableIn (off := 55) (tgt := 61) hx hb d_M_count_6 (by decide) (by decide) (by decide) (by decide) ?_
    refine lv_aload_n hx hb d_M_count_61 rfl (lv_at hl 0 rfl) ?_
    refine lv_iconst (v := 0) hx hb d_M_count_62 (by decide) ?_
    obtain ⟨ob21, h⟩ := hy_if h
    obtain ⟨fs_ob21, hf_ob21, hg_ob21⟩ := hy_ob_spec ob21
    obtain ⟨x20, w18, hq_w18, h⟩ := hy_bi_spec h
    refine hy_calli (hy_runV (rest := []) (As := [.int 0]) (r := v0) (b := a_v0) B S rfl ha_v0 (by rfl) (c_M_rowsOf hl9 G ad hq_w18) (hy_okr (by omega) (hy_oki hy_ok0)) tw_905 tw_9 tw_902 tw_904 sl_M_rowsOf (by decide) rfl (Nat.le_of_ble_eq_true rfl) (Nat.le_of_ble_eq_true rfl) hf_ob21 hg_ob21 rfl hl.1 (Nat.le_of_ble_eq_true rfl) d_M_count_63) (fun ad19 H locs cells slots hag hl_w18 S => ?_)
    have ha_v0 : ad19 v0 = a_v0 := (hag v0 (by omega)).trans ha_v0
    cases h
    cases K
    exact hy_iret hA B S d_M_count_66
  rw [if_neg c26] at h
  refine lv_tableOut (tgt := 67) hx hb d_M_count_6 (hy_sw5 c22 c23 c24 c25 c26) (by decide) ?_
  refine lv_iconst (v := (-1)) hx hb d_M_count_67 (by decide) ?_
  cases h
  cases K
  exact hy_iret hA B S d_M_count_68
theorem nk_M_count {p : Program} {l : Launch} {e : Env} {s : State} {m : MethodId} {args : Array Value} {below : List Frame} {meth : Method} {c : Code} {G : hy_G} {A : Nat → Prop} {ad0 : Nat → Nat} {w0 : hy_W} {o : hy_O} (hl9 : l.flags = flags0) (hA : hy_A G ad0 w0 s.heap.size = A) (B : hy_B p l e (hy_rm 7 166 w0) s m args below meth c "HyphenPatternsModel" b_M_count 2 (some .int) [] G A) (q : hy_P) (nx : hy_N) (hq : nx_M_count q = some nx) (K : hy_Nx lay_M_count p l e (hy_rm 7 166 w0) s m args below meth c 2 G A ad0 w0.1.length (hy_Q below G ad0 w0 o args s) o nx) : hy_At lay_M_count p l e (hy_rm 7 166 w0) s m args below meth c 2 G A ad0 w0.1.length (hy_Q below G ad0 w0 o args s) q := by
  unfold nx_M_count at hq
  split at hq
  · exact sk_M_count_0 hl9 hA B _ _ _ nx hq K
  · cases hq
theorem c_M_count {l : Launch} (hl9 : l.flags = flags0) (G : hy_G) (ad : Nat → Nat) {v0 : Nat} {v1 : Int32} {w : hy_W} {o : hy_O} (h : f_M_count [.ref v0, .int v1] w = some o) : hy_M l y_M_count (Cond.code y_M_count b_M_count 2 (some .int) :: hy_T) 7 166 G ad [.ref v0, .int v1] w o := by
  obtain ⟨n, hn⟩ := hy_fx_iff.mp h
  refine hy_ofW hl9 (by decide +kernel) (Nat.le_of_ble_eq_true rfl) (fun p e s m args below meth c A hA hi B S hok ls hl => ?_)
  exact hy_loop (nk_M_count hl9 hA B) n _ hn ad s.heap [] 0 0 ls S hok hl
