/-! BODIES (printed by our translator): M_moveException, M_forget, M_add, M_clear, M_isPlace, M_letterOf, M_isLetter, M_isWithin -/
theorem d_M_moveException_0 : decode b_M_moveException 0 = .ok (.aload_n 0, 1) := by decide +kernel
theorem d_M_moveException_1 : decode b_M_moveException 1 = .ok (.getfield 52, 3) := by decide +kernel
theorem d_M_moveException_4 : decode b_M_moveException 4 = .ok (.iload_n 2, 1) := by decide +kernel
theorem d_M_moveException_5 : decode b_M_moveException 5 = .ok (.aload_n 0, 1) := by decide +kernel
theorem d_M_moveException_6 : decode b_M_moveException 6 = .ok (.getfield 52, 3) := by decide +kernel
theorem d_M_moveException_9 : decode b_M_moveException 9 = .ok (.iload_n 1, 1) := by decide +kernel
theorem d_M_moveException_10 : decode b_M_moveException 10 = .ok (.iaload, 1) := by decide +kernel
theorem d_M_moveException_11 : decode b_M_moveException 11 = .ok (.iastore, 1) := by decide +kernel
theorem d_M_moveException_12 : decode b_M_moveException 12 = .ok (.aload_n 0, 1) := by decide +kernel
theorem d_M_moveException_13 : decode b_M_moveException 13 = .ok (.getfield 55, 3) := by decide +kernel
theorem d_M_moveException_16 : decode b_M_moveException 16 = .ok (.iload_n 2, 1) := by decide +kernel
theorem d_M_moveException_17 : decode b_M_moveException 17 = .ok (.aload_n 0, 1) := by decide +kernel
theorem d_M_moveException_18 : decode b_M_moveException 18 = .ok (.getfield 55, 3) := by decide +kernel
theorem d_M_moveException_21 : decode b_M_moveException 21 = .ok (.iload_n 1, 1) := by decide +kernel
theorem d_M_moveException_22 : decode b_M_moveException 22 = .ok (.iaload, 1) := by decide +kernel
theorem d_M_moveException_23 : decode b_M_moveException 23 = .ok (.iastore, 1) := by decide +kernel
theorem d_M_moveException_24 : decode b_M_moveException 24 = .ok (.iconst 0, 1) := by decide +kernel
theorem d_M_moveException_25 : decode b_M_moveException 25 = .ok (.istore_n 3, 1) := by decide +kernel
theorem d_M_moveException_26 : decode b_M_moveException 26 = .ok (.iload_n 3, 1) := by decide +kernel
theorem d_M_moveException_27 : decode b_M_moveException 27 = .ok (.bipush 40, 2) := by decide +kernel
theorem d_M_moveException_29 : decode b_M_moveException 29 = .ok (.if_icmp .ge 31, 3) := by decide +kernel
theorem d_M_moveException_32 : decode b_M_moveException 32 = .ok (.aload_n 0, 1) := by decide +kernel
theorem d_M_moveException_33 : decode b_M_moveException 33 = .ok (.getfield 58, 3) := by decide +kernel
theorem d_M_moveException_36 : decode b_M_moveException 36 = .ok (.bipush 40, 2) := by decide +kernel
theorem d_M_moveException_38 : decode b_M_moveException 38 = .ok (.iload_n 2, 1) := by decide +kernel
theorem d_M_moveException_39 : decode b_M_moveException 39 = .ok (.imul, 1) := by decide +kernel
theorem d_M_moveException_40 : decode b_M_moveException 40 = .ok (.iload_n 3, 1) := by decide +kernel
theorem d_M_moveException_41 : decode b_M_moveException 41 = .ok (.iadd, 1) := by decide +kernel
theorem d_M_moveException_42 : decode b_M_moveException 42 = .ok (.aload_n 0, 1) := by decide +kernel
theorem d_M_moveException_43 : decode b_M_moveException 43 = .ok (.getfield 58, 3) := by decide +kernel
theorem d_M_moveException_46 : decode b_M_moveException 46 = .ok (.bipush 40, 2) := by decide +kernel
theorem d_M_moveException_48 : decode b_M_moveException 48 = .ok (.iload_n 1, 1) := by decide +kernel
theorem d_M_moveException_49 : decode b_M_moveException 49 = .ok (.imul, 1) := by decide +kernel
theorem d_M_moveException_50 : decode b_M_moveException 50 = .ok (.iload_n 3, 1) := by decide +kernel
theorem d_M_moveException_51 : decode b_M_moveException 51 = .ok (.iadd, 1) := by decide +kernel
theorem d_M_moveException_52 : decode b_M_moveException 52 = .ok (.iaload, 1) := by decide +kernel
theorem d_M_moveException_53 : decode b_M_moveException 53 = .ok (.iastore, 1) := by decide +kernel
theorem d_M_moveException_54 : decode b_M_moveException 54 = .ok (.iinc 3 1, 3) := by decide +kernel
theorem d_M_moveException_57 : decode b_M_moveException 57 = .ok (.goto (-31), 3) := by decide +kernel
theorem d_M_moveException_60 : decode b_M_moveException 60 = .ok (.iconst 0, 1) := by decide +kernel
theorem d_M_moveException_61 : decode b_M_moveException 61 = .ok (.istore_n 3, 1) := by decide +kernel
theorem d_M_moveException_62 : decode b_M_moveException 62 = .ok (.iload_n 3, 1) := by decide +kernel
theorem d_M_moveException_63 : decode b_M_moveException 63 = .ok (.bipush 41, 2) := by decide +kernel
theorem d_M_moveException_65 : decode b_M_moveException 65 = .ok (.if_icmp .ge 31, 3) := by decide +kernel
theorem d_M_moveException_68 : decode b_M_moveException 68 = .ok (.aload_n 0, 1) := by decide +kernel
theorem d_M_moveException_69 : decode b_M_moveException 69 = .ok (.getfield 61, 3) := by decide +kernel
theorem d_M_moveException_72 : decode b_M_moveException 72 = .ok (.bipush 41, 2) := by decide +kernel
theorem d_M_moveException_74 : decode b_M_moveException 74 = .ok (.iload_n 2, 1) := by decide +kernel
theorem d_M_moveException_75 : decode b_M_moveException 75 = .ok (.imul, 1) := by decide +kernel
theorem d_M_moveException_76 : decode b_M_moveException 76 = .ok (.iload_n 3, 1) := by decide +kernel
theorem d_M_moveException_77 : decode b_M_moveException 77 = .ok (.iadd, 1) := by decide +kernel
theorem d_M_moveException_78 : decode b_M_moveException 78 = .ok (.aload_n 0, 1) := by decide +kernel
theorem d_M_moveException_79 : decode b_M_moveException 79 = .ok (.getfield 61, 3) := by decide +kernel
theorem d_M_moveException_82 : decode b_M_moveException 82 = .ok (.bipush 41, 2) := by decide +kernel
theorem d_M_moveException_84 : decode b_M_moveException 84 = .ok (.iload_n 1, 1) := by decide +kernel
theorem d_M_moveException_85 : decode b_M_moveException 85 = .ok (.imul, 1) := by decide +kernel
theorem d_M_moveException_86 : decode b_M_moveException 86 = .ok (.iload_n 3, 1) := by decide +kernel
theorem d_M_moveException_87 : decode b_M_moveException 87 = .ok (.iadd, 1) := by decide +kernel
theorem d_M_moveException_88 : decode b_M_moveException 88 = .ok (.iaload, 1) := by decide +kernel
theorem d_M_moveException_89 : decode b_M_moveException 89 = .ok (.iastore, 1) := by decide +kernel
theorem d_M_moveException_90 : decode b_M_moveException 90 = .ok (.iinc 3 1, 3) := by decide +kernel
theorem d_M_moveException_93 : decode b_M_moveException 93 = .ok (.goto (-31), 3) := by decide +kernel
theorem d_M_moveException_96 : decode b_M_moveException 96 = .ok (.return_, 1) := by decide +kernel
def lay_M_moveException (pc : Nat) : List Nat := if pc = 0 then [0, 1, 2] else if pc = 26 then [0, 1, 2, 3] else if pc = 62 then [0, 1, 2, 3] else []
noncomputable def sg_M_moveException_0 (v0 : Nat) (v1 : Int32) (v2 : Int32) (w : hy_W) : Option hy_N := (hy_gr w v0 6 20).bind fun r1 => (hy_gr w v0 6 20).bind fun r2 => (hy_ai w r2 v1).bind fun x3 => (hy_pa w 0 r1 v2 (.int x3)).bind fun w4 => (hy_gr w4 v0 6 21).bind fun r5 => (hy_gr w4 v0 6 21).bind fun r6 => (hy_ai w4 r6 v1).bind fun x7 => (hy_pa w4 0 r5 v2 (.int x7)).bind fun w8 => some (.inl (26, [.ref v0, .int v1, .int v2, .int 0], w8))
noncomputable def sg_M_moveException_26 (v0 : Nat) (v1 : Int32) (v2 : Int32) (v3 : Int32) (w : hy_W) : Option hy_N := if (40 : Int32) ≤ v3 then (some (.inl (62, [.ref v0, .int v1, .int v2, .int 0], w))) else ((hy_gr w v0 6 22).bind fun r2 => (hy_gr w v0 6 22).bind fun r3 => (hy_ai w r3 ((40 * v1) + v3)).bind fun x4 => (hy_pa w 0 r2 ((40 * v2) + v3) (.int x4)).bind fun w5 => some (.inl (26, [.ref v0, .int v1, .int v2, .int (v3 + 1)], w5)))
noncomputable def sg_M_moveException_62 (v0 : Nat) (v1 : Int32) (v2 : Int32) (v3 : Int32) (w : hy_W) : Option hy_N := if (41 : Int32) ≤ v3 then (some (.inr (.inl none, w))) else ((hy_gr w v0 6 23).bind fun r2 => (hy_gr w v0 6 23).bind fun r3 => (hy_ai w r3 ((41 * v1) + v3)).bind fun x4 => (hy_pa w 0 r2 ((41 * v2) + v3) (.int x4)).bind fun w5 => some (.inl (62, [.ref v0, .int v1, .int v2, .int (v3 + 1)], w5)))
noncomputable def nx_M_moveException (q : hy_P) : Option hy_N := match q with
  | (0, [.ref v0, .int v1, .int v2], w) => sg_M_moveException_0 v0 v1 v2 w
  | (26, [.ref v0, .int v1, .int v2, .int v3], w) => sg_M_moveException_26 v0 v1 v2 v3 w
  | (62, [.ref v0, .int v1, .int v2, .int v3], w) => sg_M_moveException_62 v0 v1 v2 v3 w
  | _ => none
noncomputable def f_M_moveException (av : List Value) (w : hy_W) : Option hy_O := hy_fx nx_M_moveException (0, av, w)
set_option maxHeartbeats 4000000 in
set_option maxRecDepth 100000 in
theorem sk_M_moveException_0 {p : Program} {l : Launch} {e : Env} {s : State} {m : MethodId} {args : Array Value} {below : List Frame} {meth : Method} {c : Code} {G : hy_G} {A : Nat → Prop} {ad0 : Nat → Nat} {w0 : hy_W} {o : hy_O} (hl9 : l.flags = flags0) (hA : hy_A G ad0 w0 s.heap.size = A) (B : hy_B p l e (hy_rm 0 0 w0) s m args below meth c "HyphenPatternsModel" b_M_moveException 4 none [] G A) (v0 : Nat) (v1 : Int32) (v2 : Int32) (w : hy_W) (nx : hy_N) (h : sg_M_moveException_0 v0 v1 v2 w = some nx) (K : hy_Nx lay_M_moveException p l e (hy_rm 0 0 w0) s m args below meth c 4 G A ad0 w0.1.length (hy_Q below G ad0 w0 o args s) o nx) : hy_At lay_M_moveException p l e (hy_rm 0 0 w0) s m args below meth c 4 G A ad0 w0.1.length (hy_Q below G ad0 w0 o args s) (0, [.ref v0, .int v1, .int v2], w) := by
  intro ad H locs cells slots ls S hok hl
  have hx := B.1
  have hb := B.2.1
  dsimp only at S hok
  have hl : lv_has ls 4 [(0, .ref (ad v0)), (1, .int v1), (2, .int v2)] := hl
  show W p l e (hy_rm 0 0 w0) s m args below meth c H locs cells slots (hy_Q below G ad0 w0 o args s) (F0 m 0 ls [])
  have hv_v0 : v0 < w.1.length := hok (.ref v0) (List.mem_of_getElem? (i := 0) rfl) v0 rfl
  obtain ⟨a_v0, ha_v0⟩ : ∃ a, ad v0 = a := ⟨_, rfl⟩
  rw [ha_v0] at hl
  unfold sg_M_moveException_0 at h
  refine lv_aload_n hx hb d_M_moveException_0 rfl (lv_at hl 0 rfl) ?_
  obtain ⟨r1, hr1, h⟩ := hy_bd h
  refine hy_getr B S ha_v0 hr1 rfl (Nat.le_of_ble_eq_true rfl) i_6 (j := 20) tw_670 (fun _ h => h) d_M_moveException_1 (fun a_r1 ha_r1 hv_r1 => ?_)
  refine lv_iload_n hx hb d_M_moveException_4 rfl (lv_at hl 2 rfl) ?_
  refine lv_aload_n hx hb d_M_moveException_5 rfl (lv_at hl 0 rfl) ?_
  obtain ⟨r2, hr2, h⟩ := hy_bd h
  refine hy_getr B S ha_v0 hr2 rfl (Nat.le_of_ble_eq_true rfl) i_6 (j := 20) tw_670 (fun _ h => h) d_M_moveException_6 (fun a_r2 ha_r2 hv_r2 => ?_)
  refine lv_iload_n hx hb d_M_moveException_9 rfl (lv_at hl 1 rfl) ?_
  obtain ⟨x3, hx3, h⟩ := hy_bd h
  refine hy_iald B S ha_r2 hx3 d_M_moveException_10 ?_
  obtain ⟨w4, hw4, h⟩ := hy_bd h
  refine hy_iast B S ha_r1 hw4 d_M_moveException_11 (fun H locs S hl_w4 => ?_)
  refine lv_aload_n hx hb d_M_moveException_12 rfl (lv_at hl 0 rfl) ?_
  obtain ⟨r5, hr5, h⟩ := hy_bd h
  refine hy_getr B S ha_v0 hr5 rfl (Nat.le_of_ble_eq_true rfl) i_6 (j := 21) tw_671 (fun _ h => h) d_M_moveException_13 (fun a_r5 ha_r5 hv_r5 => ?_)
  refine lv_iload_n hx hb d_M_moveException_16 rfl (lv_at hl 2 rfl) ?_
  refine lv_aload_n hx hb d_M_moveException_17 rfl (lv_at hl 0 rfl) ?_
  obtain ⟨r6, hr6, h⟩ := hy_bd h
  refine hy_getr B S ha_v0 hr6 rfl (Nat.le_of_ble_eq_true rfl) i_6 (j := 21) tw_671 (fun _ h => h) d_M_moveException_18 (fun a_r6 ha_r6 hv_r6 => ?_)
  refine lv_iload_n hx hb d_M_moveException_21 rfl (lv_at hl 1 rfl) ?_
  obtain ⟨x7, hx7, h⟩ := hy_bd h
  refine hy_iald B S ha_r6 hx7 d_M_moveException_22 ?_
  obtain ⟨w8, hw8, h⟩ := hy_bd h
  refine hy_iast B S ha_r5 hw8 d_M_moveException_23 (fun H locs S hl_w8 => ?_)
  refine lv_iconst (v := 0) hx hb d_M_moveException_24 (by decide) ?_
  refine lv_istore_n (lv' := [(3, .int 0), (0, .ref a_v0), (1, .int v1), (2, .int v2)]) hx hb d_M_moveException_25 rfl hl (Nat.le_of_ble_eq_true rfl) rfl (fun ls hl => ?_)
  cases h
  exact hy_jump K S (hy_okr (by omega) (hy_oki (hy_oki (hy_oki hy_ok0)))) (lv_sub hl [1, 2, 3, 0] rfl) (by subst ha_v0; rfl) (by subst ha_v0; rfl)
set_option maxHeartbeats 4000000 in
set_option maxRecDepth 100000 in
theorem sk_M_moveException_26 {p : Program} {l : Launch} {e : Env} {s : State} {m : MethodId} {args : Array Value} {below : List Frame} {meth : Method} {c : Code} {G : hy_G} {A : Nat → Prop} {ad0 : Nat → Nat} {w0 : hy_W} {o : hy_O} (hl9 : l.flags = flags0) (hA : hy_A G ad0 w0 s.heap.size = A) (B : hy_B p l e (hy_rm 0 0 w0) s m args below meth c "HyphenPatternsModel" b_M_moveException 4 none [] G A) (v0 : Nat) (v1 : Int32) (v2 : Int32) (v3 : Int32) (w : hy_W) (nx : hy_N) (h : sg_M_moveException_26 v0 v1 v2 v3 w = some nx) (K : hy_Nx lay_M_moveException p l e (hy_rm 0 0 w0) s m args below meth c 4 G A ad0 w0.1.length (hy_Q below G ad0 w0 o args s) o nx) : hy_At lay_M_moveException p l e (hy_rm 0 0 w0) s m args below meth c 4 G A ad0 w0.1.length (hy_Q below G ad0 w0 o args s) (26, [.ref v0, .int v1, .int v2, .int v3], w) := by
  intro ad H locs cells slots ls S hok hl
  have hx := B.1
  have hb := B.2.1
  dsimp only at S hok
  have hl : lv_has ls 4 [(0, .ref (ad v0)), (1, .int v1), (2, .int v2), (3, .int v3)] := hl
  show W p l e (hy_rm 0 0 w0) s m args below meth c H locs cells slots (hy_Q below G ad0 w0 o args s) (F0 m 26 ls [])
  have hv_v0 : v0 < w.1.length := hok (.ref v0) (List.mem_of_getElem? (i := 0) rfl) v0 rfl
  obtain ⟨a_v0, ha_v0⟩ : ∃ a, ad v0 = a := ⟨_, rfl⟩
  rw [ha_v0] at hl
  unfold sg_M_moveException_26 at h
  refine lv_iload_n hx hb d_M_moveException_26 rfl (lv_at hl 3 rfl) ?_
  refine lv_bipush (v := 40) hx hb d_M_moveException_27 (by decide) ?_
  refine lv_icmp_ge (tgt := 60) hx hb d_M_moveException_29 (by decide) (fun c1 => ?_) (fun c1 => ?_)
  · rw [if_pos c1] at h
    refine lv_iconst (v := 0) hx hb d_M_moveException_60 (by decide) ?_
    refine lv_istore_n (lv' := [(3, .int 0), (0, .ref a_v0), (1, .int v1), (2, .int v2)]) hx hb d_M_moveException_61 rfl hl (Nat.le_of_ble_eq_true rfl) rfl (fun ls hl => ?_)
    cases h
    exact hy_jump K S (hy_okr (by omega) (hy_oki (hy_oki (hy_oki hy_ok0)))) (lv_sub hl [1, 2, 3, 0] rfl) (by subst ha_v0; rfl) (by subst ha_v0; rfl)
  · rw [if_neg c1] at h
    refine lv_aload_n hx hb d_M_moveException_32 rfl (lv_at hl 0 rfl) ?_
    obtain ⟨r2, hr2, h⟩ := hy_bd h
    refine hy_getr B S ha_v0 hr2 rfl (Nat.le_of_ble_eq_true rfl) i_6 (j := 22) tw_672 (fun _ h => h) d_M_moveException_33 (fun a_r2 ha_r2 hv_r2 => ?_)
    refine lv_bipush (v := 40) hx hb d_M_moveException_36 (by decide) ?_
    refine lv_iload_n hx hb d_M_moveException_38 rfl (lv_at hl 2 rfl) ?_
    refine lv_imul hx hb d_M_moveException_39 ?_
    refine lv_iload_n hx hb d_M_moveException_40 rfl (lv_at hl 3 rfl) ?_
    refine lv_iadd hx hb d_M_moveException_41 ?_
    refine lv_aload_n hx hb d_M_moveException_42 rfl (lv_at hl 0 rfl) ?_
    obtain ⟨r3, hr3, h⟩ := hy_bd h
    refine hy_getr B S ha_v0 hr3 rfl (Nat.le_of_ble_eq_true rfl) i_6 (j := 22) tw_672 (fun _ h => h) d_M_moveException_43 (fun a_r3 ha_r3 hv_r3 => ?_)
    refine lv_bipush (v := 40) hx hb d_M_moveException_46 (by decide) ?_
    refine lv_iload_n hx hb d_M_moveException_48 rfl (lv_at hl 1 rfl) ?_
    refine lv_imul hx hb d_M_moveException_49 ?_
    refine lv_iload_n hx hb d_M_moveException_50 rfl (lv_at hl 3 rfl) ?_
    refine lv_iadd hx hb d_M_moveException_51 ?_
    obtain ⟨x4, hx4, h⟩ := hy_bd h
    refine hy_iald B S ha_r3 hx4 d_M_moveException_52 ?_
    obtain ⟨w5, hw5, h⟩ := hy_bd h
    refine hy_iast B S ha_r2 hw5 d_M_moveException_53 (fun H locs S hl_w5 => ?_)
    refine lv_iinc (v := (v3 + 1)) (lv' := [(3, .int (v3 + 1)), (0, .ref a_v0), (1, .int v1), (2, .int v2)]) hx hb d_M_moveException_54 hl (k := 3) rfl rfl (Nat.le_of_ble_eq_true rfl) rfl (fun ls hl => ?_)
    refine lv_goto (tgt := 26) hx hb d_M_moveException_57 (by decide) ?_
    cases h
    exact hy_jump K S (hy_okr (by omega) (hy_oki (hy_oki (hy_oki hy_ok0)))) (lv_sub hl [1, 2, 3, 0] rfl) (by subst ha_v0; rfl) (by subst ha_v0; rfl)
set_option maxHeartbeats 4000000 in
set_option maxRecDepth 100000 in
theorem sk_M_moveException_62 {p : Program} {l : Launch} {e : Env} {s : State} {m : MethodId} {args : Array Value} {below : List Frame} {meth : Method} {c : Code} {G : hy_G} {A : Nat → Prop} {ad0 : Nat → Nat} {w0 : hy_W} {o : hy_O} (hl9 : l.flags = flags0) (hA : hy_A G ad0 w0 s.heap.size = A) (B : hy_B p l e (hy_rm 0 0 w0) s m args below meth c "HyphenPatternsModel" b_M_moveException 4 none [] G A) (v0 : Nat) (v1 : Int32) (v2 : Int32) (v3 : Int32) (w : hy_W) (nx : hy_N) (h : sg_M_moveException_62 v0 v1 v2 v3 w = some nx) (K : hy_Nx lay_M_moveException p l e (hy_rm 0 0 w0) s m args below meth c 4 G A ad0 w0.1.length (hy_Q below G ad0 w0 o args s) o nx) : hy_At lay_M_moveException p l e (hy_rm 0 0 w0) s m args below meth c 4 G A ad0 w0.1.length (hy_Q below G ad0 w0 o args s) (62, [.ref v0, .int v1, .int v2, .int v3], w) := by
  intro ad H locs cells slots ls S hok hl
  have hx := B.1
  have hb := B.2.1
  dsimp only at S hok
  have hl : lv_has ls 4 [(0, .ref (ad v0)), (1, .int v1), (2, .int v2), (3, .int v3)] := hl
  show W p l e (hy_rm 0 0 w0) s m args below meth c H locs cells slots (hy_Q below G ad0 w0 o args s) (F0 m 62 ls [])
  have hv_v0 : v0 < w.1.length := hok (.ref v0) (List.mem_of_getElem? (i := 0) rfl) v0 rfl
  obtain ⟨a_v0, ha_v0⟩ : ∃ a, ad v0 = a := ⟨_, rfl⟩
  rw [ha_v0] at hl
  unfold sg_M_moveException_62 at h
  refine lv_iload_n hx hb d_M_moveException_62 rfl (lv_at hl 3 rfl) ?_
  refine lv_bipush (v := 41) hx hb d_M_moveException_63 (by decide) ?_
  refine lv_icmp_ge (tgt := 96) hx hb d_M_moveException_65 (by decide) (fun c1 => ?_) (fun c1 => ?_)
  · rw [if_pos c1] at h
    cases h
    cases K
    exact hy_vret hA B S d_M_moveException_96
  · rw [if_neg c1] at h
    refine lv_aload_n hx hb d_M_moveException_68 rfl (lv_at hl 0 rfl) ?_
    obtain ⟨r2, hr2, h⟩ := hy_bd h
    refine hy_getr B S ha_v0 hr2 rfl (Nat.le_of_ble_eq_true rfl) i_6 (j := 23) tw_673 (fun _ h => h) d_M_moveException_69 (fun a_r2 ha_r2 hv_r2 => ?_)
    refine lv_bipush (v := 41) hx hb d_M_moveException_72 (by decide) ?_
    refine lv_iload_n hx hb d_M_moveException_74 rfl (lv_at hl 2 rfl) ?_
    refine lv_imul hx hb d_M_moveException_75 ?_
    refine lv_iload_n hx hb d_M_moveException_76 rfl (lv_at hl 3 rfl) ?_
    refine lv_iadd hx hb d_M_moveException_77 ?_
    refine lv_aload_n hx hb d_M_moveException_78 rfl (lv_at hl 0 rfl) ?_
    obtain ⟨r3, hr3, h⟩ := hy_bd h
    refine hy_getr B S ha_v0 hr3 rfl (Nat.le_of_ble_eq_true rfl) i_6 (j := 23) tw_673 (fun _ h => h) d_M_moveException_79 (fun a_r3 ha_r3 hv_r3 => ?_)
    refine lv_bipush (v := 41) hx hb d_M_moveException_82 (by decide) ?_
    refine lv_iload_n hx hb d_M_moveException_84 rfl (lv_at hl 1 rfl) ?_
    refine lv_imul hx hb d_M_moveException_85 ?_
    refine lv_iload_n hx hb d_M_moveException_86 rfl (lv_at hl 3 rfl) ?_
    refine lv_iadd hx hb d_M_moveException_87 ?_
    obtain ⟨x4, hx4, h⟩ := hy_bd h
    refine hy_iald B S ha_r3 hx4 d_M_moveException_88 ?_
    obtain ⟨w5, hw5, h⟩ := hy_bd h
    refine hy_iast B S ha_r2 hw5 d_M_moveException_89 (fun H locs S hl_w5 => ?_)
    refine lv_iinc (v := (v3 + 1)) (lv' := [(3, .int (v3 + 1)), (0, .ref a_v0), (1, .int v1), (2, .int v2)]) hx hb d_M_moveException_90 hl (k := 3) rfl rfl (Nat.le_of_ble_eq_true rfl) rfl (fun ls hl => ?_)
    refine lv_goto (tgt := 62) hx hb d_M_moveException_93 (by decide) ?_
    cases h
    exact hy_jump K S (hy_okr (by omega) (hy_oki (hy_oki (hy_oki hy_ok0)))) (lv_sub hl [1, 2, 3, 0] rfl) (by subst ha_v0; rfl) (by subst ha_v0; rfl)
theorem nk_M_moveException {p : Program} {l : Launch} {e : Env} {s : State} {m : MethodId} {args : Array Value} {below : List Frame} {meth : Method} {c : Code} {G : hy_G} {A : Nat → Prop} {ad0 : Nat → Nat} {w0 : hy_W} {o : hy_O} (hl9 : l.flags = flags0) (hA : hy_A G ad0 w0 s.heap.size = A) (B : hy_B p l e (hy_rm 0 0 w0) s m args below meth c "HyphenPatternsModel" b_M_moveException 4 none [] G A) (q : hy_P) (nx : hy_N) (hq : nx_M_moveException q = some nx) (K : hy_Nx lay_M_moveException p l e (hy_rm 0 0 w0) s m args below meth c 4 G A ad0 w0.1.length (hy_Q below G ad0 w0 o args s) o nx) : hy_At lay_M_moveException p l e (hy_rm 0 0 w0) s m args below meth c 4 G A ad0 w0.1.length (hy_Q below G ad0 w0 o args s) q := by
  unfold nx_M_moveException at hq
  split at hq
  · exact sk_M_moveException_0 hl9 hA B _ _ _ _ nx hq K
  · exact sk_M_moveException_26 hl9 hA B _ _ _ _ _ nx hq K
  · exact sk_M_moveException_62 hl9 hA B _ _ _ _ _ nx hq K
  · cases hq
theorem c_M_moveException {l : Launch} (hl9 : l.flags = flags0) (G : hy_G) (ad : Nat → Nat) {v0 : Nat} {v1 : Int32} {v2 : Int32} {w : hy_W} {o : hy_O} (h : f_M_moveException [.ref v0, .int v1, .int v2] w = some o) : hy_M l y_M_moveException (Cond.code y_M_moveException b_M_moveException 4 none :: hy_T) 0 0 G ad [.ref v0, .int v1, .int v2] w o := by
  obtain ⟨n, hn⟩ := hy_fx_iff.mp h
  refine hy_ofW hl9 (by decide +kernel) (Nat.le_of_ble_eq_true rfl) (fun p e s m args below meth c A hA hi B S hok ls hl => ?_)
  exact hy_loop (nk_M_moveException hl9 hA B) n _ hn ad s.heap [] 0 0 ls S hok hl
theorem d_M_forget_0 : decode b_M_forget 0 = .ok (.aload_n 0, 1) := by decide +kernel
theorem d_M_forget_1 : decode b_M_forget 1 = .ok (.iconst 0, 1) := by decide +kernel
theorem d_M_forget_2 : decode b_M_forget 2 = .ok (.putfield 67, 3) := by decide +kernel
theorem d_M_forget_5 : decode b_M_forget 5 = .ok (.iconst 0, 1) := by decide +kernel
theorem d_M_forget_6 : decode b_M_forget 6 = .ok (.istore_n 1, 1) := by decide +kernel
theorem d_M_forget_7 : decode b_M_forget 7 = .ok (.iconst 0, 1) := by decide +kernel
theorem d_M_forget_8 : decode b_M_forget 8 = .ok (.istore_n 2, 1) := by decide +kernel
theorem d_M_forget_9 : decode b_M_forget 9 = .ok (.iload_n 2, 1) := by decide +kernel
theorem d_M_forget_10 : decode b_M_forget 10 = .ok (.aload_n 0, 1) := by decide +kernel
theorem d_M_forget_11 : decode b_M_forget 11 = .ok (.getfield 106, 3) := by decide +kernel
theorem d_M_forget_14 : decode b_M_forget 14 = .ok (.if_icmp .ge 31, 3) := by decide +kernel
theorem d_M_forget_17 : decode b_M_forget 17 = .ok (.aload_n 0, 1) := by decide +kernel
theorem d_M_forget_18 : decode b_M_forget 18 = .ok (.getfield 40, 3) := by decide +kernel
theorem d_M_forget_21 : decode b_M_forget 21 = .ok (.iload_n 2, 1) := by decide +kernel
theorem d_M_forget_22 : decode b_M_forget 22 = .ok (.iaload, 1) := by decide +kernel
theorem d_M_forget_23 : decode b_M_forget 23 = .ok (.aload_n 0, 1) := by decide +kernel
theorem d_M_forget_24 : decode b_M_forget 24 = .ok (.getfield 76, 3) := by decide +kernel
theorem d_M_forget_27 : decode b_M_forget 27 = .ok (.if_icmp .eq 12, 3) := by decide +kernel
theorem d_M_forget_30 : decode b_M_forget 30 = .ok (.aload_n 0, 1) := by decide +kernel
theorem d_M_forget_31 : decode b_M_forget 31 = .ok (.iload_n 2, 1) := by decide +kernel
theorem d_M_forget_32 : decode b_M_forget 32 = .ok (.iload_n 1, 1) := by decide +kernel
theorem d_M_forget_33 : decode b_M_forget 33 = .ok (.invokevirtual 124, 3) := by decide +kernel
theorem d_M_forget_36 : decode b_M_forget 36 = .ok (.iinc 1 1, 3) := by decide +kernel
theorem d_M_forget_39 : decode b_M_forget 39 = .ok (.iinc 2 1, 3) := by decide +kernel
theorem d_M_forget_42 : decode b_M_forget 42 = .ok (.goto (-33), 3) := by decide +kernel
theorem d_M_forget_45 : decode b_M_forget 45 = .ok (.aload_n 0, 1) := by decide +kernel
theorem d_M_forget_46 : decode b_M_forget 46 = .ok (.getfield 106, 3) := by decide +kernel
theorem d_M_forget_49 : decode b_M_forget 49 = .ok (.iload_n 1, 1) := by decide +kernel
theorem d_M_forget_50 : decode b_M_forget 50 = .ok (.isub, 1) := by decide +kernel
theorem d_M_forget_51 : decode b_M_forget 51 = .ok (.istore_n 2, 1) := by decide +kernel
theorem d_M_forget_52 : decode b_M_forget 52 = .ok (.aload_n 0, 1) := by decide +kernel
theorem d_M_forget_53 : decode b_M_forget 53 = .ok (.iload_n 1, 1) := by decide +kernel
theorem d_M_forget_54 : decode b_M_forget 54 = .ok (.putfield 106, 3) := by decide +kernel
theorem d_M_forget_57 : decode b_M_forget 57 = .ok (.iconst 0, 1) := by decide +kernel
theorem d_M_forget_58 : decode b_M_forget 58 = .ok (.istore_n 1, 1) := by decide +kernel
theorem d_M_forget_59 : decode b_M_forget 59 = .ok (.iconst 0, 1) := by decide +kernel
theorem d_M_forget_60 : decode b_M_forget 60 = .ok (.istore_n 3, 1) := by decide +kernel
theorem d_M_forget_61 : decode b_M_forget 61 = .ok (.iload_n 3, 1) := by decide +kernel
theorem d_M_forget_62 : decode b_M_forget 62 = .ok (.aload_n 0, 1) := by decide +kernel
theorem d_M_forget_63 : decode b_M_forget 63 = .ok (.getfield 115, 3) := by decide +kernel
theorem d_M_forget_66 : decode b_M_forget 66 = .ok (.if_icmp .ge 31, 3) := by decide +kernel
theorem d_M_forget_69 : decode b_M_forget 69 = .ok (.aload_n 0, 1) := by decide +kernel
theorem d_M_forget_70 : decode b_M_forget 70 = .ok (.getfield 52, 3) := by decide +kernel
theorem d_M_forget_73 : decode b_M_forget 73 = .ok (.iload_n 3, 1) := by decide +kernel
theorem d_M_forget_74 : decode b_M_forget 74 = .ok (.iaload, 1) := by decide +kernel
theorem d_M_forget_75 : decode b_M_forget 75 = .ok (.aload_n 0, 1) := by decide +kernel
theorem d_M_forget_76 : decode b_M_forget 76 = .ok (.getfield 76, 3) := by decide +kernel
theorem d_M_forget_79 : decode b_M_forget 79 = .ok (.if_icmp .eq 12, 3) := by decide +kernel
theorem d_M_forget_82 : decode b_M_forget 82 = .ok (.aload_n 0, 1) := by decide +kernel
theorem d_M_forget_83 : decode b_M_forget 83 = .ok (.iload_n 3, 1) := by decide +kernel
theorem d_M_forget_84 : decode b_M_forget 84 = .ok (.iload_n 1, 1) := by decide +kernel
theorem d_M_forget_85 : decode b_M_forget 85 = .ok (.invokevirtual 128, 3) := by decide +kernel
theorem d_M_forget_88 : decode b_M_forget 88 = .ok (.iinc 1 1, 3) := by decide +kernel
theorem d_M_forget_91 : decode b_M_forget 91 = .ok (.iinc 3 1, 3) := by decide +kernel
theorem d_M_forget_94 : decode b_M_forget 94 = .ok (.goto (-33), 3) := by decide +kernel
theorem d_M_forget_97 : decode b_M_forget 97 = .ok (.iload_n 2, 1) := by decide +kernel
theorem d_M_forget_98 : decode b_M_forget 98 = .ok (.aload_n 0, 1) := by decide +kernel
theorem d_M_forget_99 : decode b_M_forget 99 = .ok (.getfield 115, 3) := by decide +kernel
theorem d_M_forget_102 : decode b_M_forget 102 = .ok (.iadd, 1) := by decide +kernel
theorem d_M_forget_103 : decode b_M_forget 103 = .ok (.iload_n 1, 1) := by decide +kernel
theorem d_M_forget_104 : decode b_M_forget 104 = .ok (.isub, 1) := by decide +kernel
theorem d_M_forget_105 : decode b_M_forget 105 = .ok (.istore_n 2, 1) := by decide +kernel
theorem d_M_forget_106 : decode b_M_forget 106 = .ok (.aload_n 0, 1) := by decide +kernel
theorem d_M_forget_107 : decode b_M_forget 107 = .ok (.iload_n 1, 1) := by decide +kernel
theorem d_M_forget_108 : decode b_M_forget 108 = .ok (.putfield 115, 3) := by decide +kernel
theorem d_M_forget_111 : decode b_M_forget 111 = .ok (.iload_n 2, 1) := by decide +kernel
theorem d_M_forget_112 : decode b_M_forget 112 = .ok (.ireturn, 1) := by decide +kernel
def lay_M_forget (pc : Nat) : List Nat := if pc = 0 then [0] else if pc = 9 then [0, 1, 2] else if pc = 39 then [0, 1, 2] else if pc = 61 then [0, 1, 2, 3] else if pc = 91 then [0, 1, 2, 3] else []
noncomputable def sg_M_forget_0 (v0 : Nat) (w : hy_W) : Option hy_N := (hy_pf w v0 6 0 (.int 0)).bind fun w1 => some (.inl (9, [.ref v0, .int 0, .int 0], w1))
noncomputable def sg_M_forget_9 (v0 : Nat) (v1 : Int32) (v2 : Int32) (w : hy_W) : Option hy_N := (hy_gi w v0 6 14).bind fun x1 => if x1 ≤ v2 then ((hy_gi w v0 6 14).bind fun x3 => (hy_pf w v0 6 14 (.int v1)).bind fun w4 => some (.inl (61, [.ref v0, .int 0, .int (x3 - v1), .int 0], w4))) else ((hy_gr w v0 6 15).bind fun r5 => (hy_ai w r5 v2).bind fun x6 => (hy_gi w v0 6 1).bind fun x7 => if x6 = x7 then (some (.inl (39, [.ref v0, .int v1, .int v2], w))) else (if hy_ob w v0 6 = true then hy_bv (f_M_movePattern [.ref v0, .int v2, .int v1] w) fun w9 => some (.inl (39, [.ref v0, .int (v1 + 1), .int v2], w9)) else none))
noncomputable def sg_M_forget_39 (v0 : Nat) (v1 : Int32) (v2 : Int32) (w : hy_W) : Option hy_N := some (.inl (9, [.ref v0, .int v1, .int (v2 + 1)], w))
noncomputable def sg_M_forget_61 (v0 : Nat) (v1 : Int32) (v2 : Int32) (v3 : Int32) (w : hy_W) : Option hy_N := (hy_gi w v0 6 19).bind fun x1 => if x1 ≤ v3 then ((hy_gi w v0 6 19).bind fun x3 => (hy_pf w v0 6 19 (.int v1)).bind fun w4 => some (.inr (.inl (some (.int ((v2 + x3) - v1))), w4))) else ((hy_gr w v0 6 20).bind fun r5 => (hy_ai w r5 v3).bind fun x6 => (hy_gi w v0 6 1).bind fun x7 => if x6 = x7 then (some (.inl (91, [.ref v0, .int v1, .int v2, .int v3], w))) else (if hy_ob w v0 6 = true then hy_bv (f_M_moveException [.ref v0, .int v3, .int v1] w) fun w9 => some (.inl (91, [.ref v0, .int (v1 + 1), .int v2, .int v3], w9)) else none))
noncomputable def sg_M_forget_91 (v0 : Nat) (v1 : Int32) (v2 : Int32) (v3 : Int32) (w : hy_W) : Option hy_N := some (.inl (61, [.ref v0, .int v1, .int v2, .int (v3 + 1)], w))
noncomputable def nx_M_forget (q : hy_P) : Option hy_N := match q with
  | (0, [.ref v0], w) => sg_M_forget_0 v0 w
  | (9, [.ref v0, .int v1, .int v2], w) => sg_M_forget_9 v0 v1 v2 w
  | (39, [.ref v0, .int v1, .int v2], w) => sg_M_forget_39 v0 v1 v2 w
  | (61, [.ref v0, .int v1, .int v2, .int v3], w) => sg_M_forget_61 v0 v1 v2 v3 w
  | (91, [.ref v0, .int v1, .int v2, .int v3], w) => sg_M_forget_91 v0 v1 v2 v3 w
  | _ => none
noncomputable def f_M_forget (av : List Value) (w : hy_W) : Option hy_O := hy_fx nx_M_forget (0, av, w)
set_option maxHeartbeats 4000000 in
set_option maxRecDepth 100000 in
theorem sk_M_forget_0 {p : Program} {l : Launch} {e : Env} {s : State} {m : MethodId} {args : Array Value} {below : List Frame} {meth : Method} {c : Code} {G : hy_G} {A : Nat → Prop} {ad0 : Nat → Nat} {w0 : hy_W} {o : hy_O} (hl9 : l.flags = flags0) (hA : hy_A G ad0 w0 s.heap.size = A) (B : hy_B p l e (hy_rm 1 23 w0) s m args below meth c "HyphenPatternsModel" b_M_forget 4 (some .int) [] G A) (v0 : Nat) (w : hy_W) (nx : hy_N) (h : sg_M_forget_0 v0 w = some nx) (K : hy_Nx lay_M_forget p l e (hy_rm 1 23 w0) s m args below meth c 4 G A ad0 w0.1.length (hy_Q below G ad0 w0 o args s) o nx) : hy_At lay_M_forget p l e (hy_rm 1 23 w0) s m args below meth c 4 G A ad0 w0.1.length (hy_Q below G ad0 w0 o args s) (0, [.ref v0], w) := by
  intro ad H locs cells slots ls S hok hl
  have hx := B.1
  have hb := B.2.1
  dsimp only at S hok
  have hl : lv_has ls 4 [(0, .ref (ad v0))] := hl
  show W p l e (hy_rm 1 23 w0) s m args below meth c H locs cells slots (hy_Q below G ad0 w0 o args s) (F0 m 0 ls [])
  have hv_v0 : v0 < w.1.length := hok (.ref v0) (List.mem_of_getElem? (i := 0) rfl) v0 rfl
  obtain ⟨a_v0, ha_v0⟩ : ∃ a, ad v0 = a := ⟨_, rfl⟩
  rw [ha_v0] at hl
  unfold sg_M_forget_0 at h
  refine lv_aload_n hx hb d_M_forget_0 rfl (lv_at hl 0 rfl) ?_
  refine lv_iconst (v := 0) hx hb d_M_forget_1 (by decide) ?_
  obtain ⟨w1, hw1, h⟩ := hy_bd h
  refine hy_put B S ha_v0 rfl hy_cvi hw1 rfl (Nat.le_of_ble_eq_true rfl) i_6 t_6 t_6_ok n_6 (j := 0) tw_650 (fun _ h => h) rfl rfl rfl d_M_forget_2 (fun H locs S hl_w1 => ?_)
  refine lv_iconst (v := 0) hx hb d_M_forget_5 (by decide) ?_
  refine lv_istore_n (lv' := [(1, .int 0), (0, .ref a_v0)]) hx hb d_M_forget_6 rfl hl (Nat.le_of_ble_eq_true rfl) rfl (fun ls hl => ?_)
  refine lv_iconst (v := 0) hx hb d_M_forget_7 (by decide) ?_
  refine lv_istore_n (lv' := [(2, .int 0), (1, .int 0), (0, .ref a_v0)]) hx hb d_M_forget_8 rfl hl (Nat.le_of_ble_eq_true rfl) rfl (fun ls hl => ?_)
  cases h
  exact hy_jump K S (hy_okr (by omega) (hy_oki (hy_oki hy_ok0))) (lv_sub hl [2, 1, 0] rfl) (by subst ha_v0; rfl) (by subst ha_v0; rfl)
set_option maxHeartbeats 4000000 in
set_option maxRecDepth 100000 in
theorem sk_M_forget_9 {p : Program} {l : Launch} {e : Env} {s : State} {m : MethodId} {args : Array Value} {below : List Frame} {meth : Method} {c : Code} {G : hy_G} {A : Nat → Prop} {ad0 : Nat → Nat} {w0 : hy_W} {o : hy_O} (hl9 : l.flags = flags0) (hA : hy_A G ad0 w0 s.heap.size = A) (B : hy_B p l e (hy_rm 1 23 w0) s m args below meth c "HyphenPatternsModel" b_M_forget 4 (some .int) [] G A) (v0 : Nat) (v1 : Int32) (v2 : Int32) (w : hy_W) (nx : hy_N) (h : sg_M_forget_9 v0 v1 v2 w = some nx) (K : hy_Nx lay_M_forget p l e (hy_rm 1 23 w0) s m args below meth c 4 G A ad0 w0.1.length (hy_Q below G ad0 w0 o args s) o nx) : hy_At lay_M_forget p l e (hy_rm 1 23 w0) s m args below meth c 4 G A ad0 w0.1.length (hy_Q below G ad0 w0 o args s) (9, [.ref v0, .int v1, .int v2], w) := by
  intro ad H locs cells slots ls S hok hl
  have hx := B.1
  have hb := B.2.1
  dsimp only at S hok
  have hl : lv_has ls 4 [(0, .ref (ad v0)), (1, .int v1), (2, .int v2)] := hl
  show W p l e (hy_rm 1 23 w0) s m args below meth c H locs cells slots (hy_Q below G ad0 w0 o args s) (F0 m 9 ls [])
  have hv_v0 : v0 < w.1.length := hok (.ref v0) (List.mem_of_getElem? (i := 0) rfl) v0 rfl
  obtain ⟨a_v0, ha_v0⟩ : ∃ a, ad v0 = a := ⟨_, rfl⟩
  rw [ha_v0] at hl
  unfold sg_M_forget_9 at h
  refine lv_iload_n hx hb d_M_forget_9 rfl (lv_at hl 2 rfl) ?_
  refine lv_aload_n hx hb d_M_forget_10 rfl (lv_at hl 0 rfl) ?_
  obtain ⟨x1, hx1, h⟩ := hy_bd h
  refine hy_geti B S ha_v0 hx1 rfl (Nat.le_of_ble_eq_true rfl) i_6 (j := 14) tw_664 (fun _ h => h) d_M_forget_11 ?_
  refine lv_icmp_ge (tgt := 45) hx hb d_M_forget_14 (by decide) (fun c2 => ?_) (fun c2 => ?_)
  · rw [if_pos c2] at h
    refine lv_aload_n hx hb d_M_forget_45 rfl (lv_at hl 0 rfl) ?_
    obtain ⟨x3, hx3, h⟩ := hy_bd h
    refine hy_geti B S ha_v0 hx3 rfl (Nat.le_of_ble_eq_true rfl) i_6 (j := 14) tw_664 (fun _ h => h) d_M_forget_46 ?_
    refine lv_iload_n hx hb d_M_forget_49 rfl (lv_at hl 1 rfl) ?_
    refine lv_isub hx hb d_M_forget_50 ?_
    refine lv_istore_n (lv' := [(2, .int (x3 - v1)), (0, .ref a_v0), (1, .int v1)]) hx hb d_M_forget_51 rfl hl (Nat.le_of_ble_eq_true rfl) rfl (fun ls hl => ?_)
    refine lv_aload_n hx hb d_M_forget_52 rfl (lv_at hl 1 rfl) ?_
    refine lv_iload_n hx hb d_M_forget_53 rfl (lv_at hl 2 rfl) ?_
    obtain ⟨w4, hw4, h⟩ := hy_bd h
    refine hy_put B S ha_v0 rfl hy_cvi hw4 rfl (Nat.le_of_ble_eq_true rfl) i_6 t_6 t_6_ok n_6 (j := 14) tw_664 (fun _ h => h) rfl rfl rfl d_M_forget_54 (fun H locs S hl_w4 => ?_)
    refine lv_iconst (v := 0) hx hb d_M_forget_57 (by decide) ?_
    refine lv_istore_n (lv' := [(1, .int 0), (2, .int (x3 - v1)), (0, .ref a_v0)]) hx hb d_M_forget_58 rfl hl (Nat.le_of_ble_eq_true rfl) rfl (fun ls hl => ?_)
    refine lv_iconst (v := 0) hx hb d_M_forget_59 (by decide) ?_
    refine lv_istore_n (lv' := [(3, .int 0), (1, .int 0), (2, .int (x3 - v1)), (0, .ref a_v0)]) hx hb d_M_forget_60 rfl hl (Nat.le_of_ble_eq_true rfl) rfl (fun ls hl => ?_)
    cases h
    exact hy_jump K S (hy_okr (by omega) (hy_oki (hy_oki (hy_oki hy_ok0)))) (lv_sub hl [3, 1, 2, 0] rfl) (by subst ha_v0; rfl) (by subst ha_v0; rfl)
  · rw [if_neg c2] at h
    refine lv_aload_n hx hb d_M_forget_17 rfl (lv_at hl 0 rfl) ?_
    obtain ⟨r5, hr5, h⟩ := hy_bd h
    refine hy_getr B S ha_v0 hr5 rfl (Nat.le_of_ble_eq_true rfl) i_6 (j := 15) tw_665 (fun _ h => h) d_M_forget_18 (fun a_r5 ha_r5 hv_r5 => ?_)
    refine lv_iload_n hx hb d_M_forget_21 rfl (lv_at hl 2 rfl) ?_
    obtain ⟨x6, hx6, h⟩ := hy_bd h
    refine hy_iald B S ha_r5 hx6 d_M_forget_22 ?_
    refine lv_aload_n hx hb d_M_forget_23 rfl (lv_at hl 0 rfl) ?_
    obtain ⟨x7, hx7, h⟩ := hy_bd h
    refine hy_geti B S ha_v0 hx7 rfl (Nat.le_of_ble_eq_true rfl) i_6 (j := 1) tw_651 (fun _ h => h) d_M_forget_24 ?_
    refine lv_icmp_eq (tgt := 39) hx hb d_M_forget_27 (by decide) (fun c8 => ?_) (fun c8 => ?_)
    · rw [if_pos c8] at h
      cases h
      exact hy_jump K S (hy_okr (by omega) (hy_oki (hy_oki hy_ok0))) (lv_sub hl [0, 1, 2] rfl) (by subst ha_v0; rfl) (by subst ha_v0; rfl)
    · rw [if_neg c8] at h
      refine lv_aload_n hx hb d_M_forget_30 rfl (lv_at hl 0 rfl) ?_
      refine lv_iload_n hx hb d_M_forget_31 rfl (lv_at hl 2 rfl) ?_
      refine lv_iload_n hx hb d_M_forget_32 rfl (lv_at hl 1 rfl) ?_
      obtain ⟨ob12, h⟩ := hy_if h
      obtain ⟨fs_ob12, hf_ob12, hg_ob12⟩ := hy_ob_spec ob12
      obtain ⟨w9, hq_w9, h⟩ := hy_bv_spec h
      refine hy_callv (hy_runV (rest := []) (As := [.int v2, .int v1]) (r := v0) (b := a_v0) B S rfl ha_v0 (by rfl) (c_M_movePattern hl9 G ad hq_w9) (hy_okr (by omega) (hy_oki (hy_oki hy_ok0))) tw_809 tw_9 tw_806 tw_808 sl_M_movePattern (by decide) rfl (Nat.le_of_ble_eq_true rfl) (Nat.le_of_ble_eq_true rfl) hf_ob12 hg_ob12 rfl hl.1 (Nat.le_of_ble_eq_true rfl) d_M_forget_33) (fun ad10 H locs cells slots hag hl_w9 S => ?_)
      have ha_v0 : ad10 v0 = a_v0 := (hag v0 (by omega)).trans ha_v0
      refine lv_iinc (v := (v1 + 1)) (lv' := [(1, .int (v1 + 1)), (0, .ref a_v0), (2, .int v2)]) hx hb d_M_forget_36 hl (k := 1) rfl rfl (Nat.le_of_ble_eq_true rfl) rfl (fun ls hl => ?_)
      cases h
      exact hy_jump K S (hy_okr (by omega) (hy_oki (hy_oki hy_ok0))) (lv_sub hl [1, 0, 2] rfl) (by subst ha_v0; rfl) (by subst ha_v0; rfl)
set_option maxHeartbeats 4000000 in
set_option maxRecDepth 100000 in
theorem sk_M_forget_39 {p : Program} {l : Launch} {e : Env} {s : State} {m : MethodId} {args : Array Value} {below : List Frame} {meth : Method} {c : Code} {G : hy_G} {A : Nat → Prop} {ad0 : Nat → Nat} {w0 : hy_W} {o : hy_O} (hl9 : l.flags = flags0) (hA : hy_A G ad0 w0 s.heap.size = A) (B : hy_B p l e (hy_rm 1 23 w0) s m args below meth c "HyphenPatternsModel" b_M_forget 4 (some .int) [] G A) (v0 : Nat) (v1 : Int32) (v2 : Int32) (w : hy_W) (nx : hy_N) (h : sg_M_forget_39 v0 v1 v2 w = some nx) (K : hy_Nx lay_M_forget p l e (hy_rm 1 23 w0) s m args below meth c 4 G A ad0 w0.1.length (hy_Q below G ad0 w0 o args s) o nx) : hy_At lay_M_forget p l e (hy_rm 1 23 w0) s m args below meth c 4 G A ad0 w0.1.length (hy_Q below G ad0 w0 o args s) (39, [.ref v0, .int v1, .int v2], w) := by
  intro ad H locs cells slots ls S hok hl
  have hx := B.1
  have hb := B.2.1
  dsimp only at S hok
  have hl : lv_has ls 4 [(0, .ref (ad v0)), (1, .int v1), (2, .int v2)] := hl
  show W p l e (hy_rm 1 23 w0) s m args below meth c H locs cells slots (hy_Q below G ad0 w0 o args s) (F0 m 39 ls [])
  have hv_v0 : v0 < w.1.length := hok (.ref v0) (List.mem_of_getElem? (i := 0) rfl) v0 rfl
  obtain ⟨a_v0, ha_v0⟩ : ∃ a, ad v0 = a := ⟨_, rfl⟩
  rw [ha_v0] at hl
  unfold sg_M_forget_39 at h
  refine lv_iinc (v := (v2 + 1)) (lv' := [(2, .int (v2 + 1)), (0, .ref a_v0), (1, .int v1)]) hx hb d_M_forget_39 hl (k := 2) rfl rfl (Nat.le_of_ble_eq_true rfl) rfl (fun ls hl => ?_)
  refine lv_goto (tgt := 9) hx hb d_M_forget_42 (by decide) ?_
  cases h
  exact hy_jump K S (hy_okr (by omega) (hy_oki (hy_oki hy_ok0))) (lv_sub hl [1, 2, 0] rfl) (by subst ha_v0; rfl) (by subst ha_v0; rfl)
set_option maxHeartbeats 4000000 in
set_option maxRecDepth 100000 in
theorem sk_M_forget_61 {p : Program} {l : Launch} {e : Env} {s : State} {m : MethodId} {args : Array Value} {below : List Frame} {meth : Method} {c : Code} {G : hy_G} {A : Nat → Prop} {ad0 : Nat → Nat} {w0 : hy_W} {o : hy_O} (hl9 : l.flags = flags0) (hA : hy_A G ad0 w0 s.heap.size = A) (B : hy_B p l e (hy_rm 1 23 w0) s m args below meth c "HyphenPatternsModel" b_M_forget 4 (some .int) [] G A) (v0 : Nat) (v1 : Int32) (v2 : Int32) (v3 : Int32) (w : hy_W) (nx : hy_N) (h : sg_M_forget_61 v0 v1 v2 v3 w = some nx) (K : hy_Nx lay_M_forget p l e (hy_rm 1 23 w0) s m args below meth c 4 G A ad0 w0.1.length (hy_Q below G ad0 w0 o args s) o nx) : hy_At lay_M_forget p l e (hy_rm 1 23 w0) s m args below meth c 4 G A ad0 w0.1.length (hy_Q below G ad0 w0 o args s) (61, [.ref v0, .int v1, .int v2, .int v3], w) := by
  intro ad H locs cells slots ls S hok hl
  have hx := B.1
  have hb := B.2.1
  dsimp only at S hok
  have hl : lv_has ls 4 [(0, .ref (ad v0)), (1, .int v1), (2, .int v2), (3, .int v3)] := hl
  show W p l e (hy_rm 1 23 w0) s m args below meth c H locs cells slots (hy_Q below G ad0 w0 o args s) (F0 m 61 ls [])
  have hv_v0 : v0 < w.1.length := hok (.ref v0) (List.mem_of_getElem? (i := 0) rfl) v0 rfl
  obtain ⟨a_v0, ha_v0⟩ : ∃ a, ad v0 = a := ⟨_, rfl⟩
  rw [ha_v0] at hl
  unfold sg_M_forget_61 at h
  refine lv_iload_n hx hb d_M_forget_61 rfl (lv_at hl 3 rfl) ?_
  refine lv_aload_n hx hb d_M_forget_62 rfl (lv_at hl 0 rfl) ?_
  obtain ⟨x1, hx1, h⟩ := hy_bd h
  refine hy_geti B S ha_v0 hx1 rfl (Nat.le_of_ble_eq_true rfl) i_6 (j := 19) tw_669 (fun _ h => h) d_M_forget_63 ?_
  refine lv_icmp_ge (tgt := 97) hx hb d_M_forget_66 (by decide) (fun c2 => ?_) (fun c2 => ?_)
  · rw [if_pos c2] at h
    refine lv_iload_n hx hb d_M_forget_97 rfl (lv_at hl 2 rfl) ?_
    refine lv_aload_n hx hb d_M_forget_98 rfl (lv_at hl 0 rfl) ?_
    obtain ⟨x3, hx3, h⟩ := hy_bd h
    refine hy_geti B S ha_v0 hx3 rfl (Nat.le_of_ble_eq_true rfl) i_6 (j := 19) tw_669 (fun _ h => h) d_M_forget_99 ?_
    refine lv_iadd hx hb d_M_forget_102 ?_
    refine lv_iload_n hx hb d_M_forget_103 rfl (lv_at hl 1 rfl) ?_
    refine lv_isub hx hb d_M_forget_104 ?_
    refine lv_istore_n (lv' := [(2, .int ((v2 + x3) - v1)), (0, .ref a_v0), (1, .int v1), (3, .int v3)]) hx hb d_M_forget_105 rfl hl (Nat.le_of_ble_eq_true rfl) rfl (fun ls hl => ?_)
    refine lv_aload_n hx hb d_M_forget_106 rfl (lv_at hl 1 rfl) ?_
    refine lv_iload_n hx hb d_M_forget_107 rfl (lv_at hl 2 rfl) ?_
    obtain ⟨w4, hw4, h⟩ := hy_bd h
    refine hy_put B S ha_v0 rfl hy_cvi hw4 rfl (Nat.le_of_ble_eq_true rfl) i_6 t_6 t_6_ok n_6 (j := 19) tw_669 (fun _ h => h) rfl rfl rfl d_M_forget_108 (fun H locs S hl_w4 => ?_)
    refine lv_iload_n hx hb d_M_forget_111 rfl (lv_at hl 0 rfl) ?_
    cases h
    cases K
    exact hy_iret hA B S d_M_forget_112
  · rw [if_neg c2] at h
    refine lv_aload_n hx hb d_M_forget_69 rfl (lv_at hl 0 rfl) ?_
    obtain ⟨r5, hr5, h⟩ := hy_bd h
    refine hy_getr B S ha_v0 hr5 rfl (Nat.le_of_ble_eq_true rfl) i_6 (j := 20) tw_670 (fun _ h => h) d_M_forget_70 (fun a_r5 ha_r5 hv_r5 => ?_)
    refine lv_iload_n hx hb d_M_forget_73 rfl (lv_at hl 3 rfl) ?_
    obtain ⟨x6, hx6, h⟩ := hy_bd h
    refine hy_iald B S ha_r5 hx6 d_M_forget_74 ?_
    refine lv_aload_n hx hb d_M_forget_75 rfl (lv_at hl 0 rfl) ?_
    obtain ⟨x7, hx7, h⟩ := hy_bd h
    refine hy_geti B S ha_v0 hx7 rfl (Nat.le_of_ble_eq_true rfl) i_6 (j := 1) tw_651 (fun _ h => h) d_M_forget_76 ?_
    refine lv_icmp_eq (tgt := 91) hx hb d_M_forget_79 (by decide) (fun c8 => ?_) (fun c8 => ?_)
    · rw [if_pos c8] at h
      cases h
      exact hy_jump K S (hy_okr (by omega) (hy_oki (hy_oki (hy_oki hy_ok0)))) (lv_sub hl [0, 1, 2, 3] rfl) (by subst ha_v0; rfl) (by subst ha_v0; rfl)
    · rw [if_neg c8] at h
      refine lv_aload_n hx hb d_M_forget_82 rfl (lv_at hl 0 rfl) ?_
      refine lv_iload_n hx hb d_M_forget_83 rfl (lv_at hl 3 rfl) ?_
      refine lv_iload_n hx hb d_M_forget_84 rfl (lv_at hl 1 rfl) ?_
      obtain ⟨ob12, h⟩ := hy_if h
      obtain ⟨fs_ob12, hf_ob12, hg_ob12⟩ := hy_ob_spec ob12
      obtain ⟨w9, hq_w9, h⟩ := hy_bv_spec h
      refine hy_callv (hy_runV (rest := []) (As := [.int v3, .int v1]) (r := v0) (b := a_v0) B S rfl ha_v0 (by rfl) (c_M_moveException hl9 G ad hq_w9) (hy_okr (by omega) (hy_oki (hy_oki hy_ok0))) tw_813 tw_9 tw_810 tw_812 sl_M_moveException (by decide) rfl (Nat.le_of_ble_eq_true rfl) (Nat.le_of_ble_eq_true rfl) hf_ob12 hg_ob12 rfl hl.1 (Nat.le_of_ble_eq_true rfl) d_M_forget_85) (fun ad10 H locs cells slots hag hl_w9 S => ?_)
      have ha_v0 : ad10 v0 = a_v0 := (hag v0 (by omega)).trans ha_v0
      refine lv_iinc (v := (v1 + 1)) (lv' := [(1, .int (v1 + 1)), (0, .ref a_v0), (2, .int v2), (3, .int v3)]) hx hb d_M_forget_88 hl (k := 1) rfl rfl (Nat.le_of_ble_eq_true rfl) rfl (fun ls hl => ?_)
      cases h
      exact hy_jump K S (hy_okr (by omega) (hy_oki (hy_oki (hy_oki hy_ok0)))) (lv_sub hl [1, 0, 2, 3] rfl) (by subst ha_v0; rfl) (by subst ha_v0; rfl)
set_option maxHeartbeats 4000000 in
set_option maxRecDepth 100000 in
theorem sk_M_forget_91 {p : Program} {l : Launch} {e : Env} {s : State} {m : MethodId} {args : Array Value} {below : List Frame} {meth : Method} {c : Code} {G : hy_G} {A : Nat → Prop} {ad0 : Nat → Nat} {w0 : hy_W} {o : hy_O} (hl9 : l.flags = flags0) (hA : hy_A G ad0 w0 s.heap.size = A) (B : hy_B p l e (hy_rm 1 23 w0) s m args below meth c "HyphenPatternsModel" b_M_forget 4 (some .int) [] G A) (v0 : Nat) (v1 : Int32) (v2 : Int32) (v3 : Int32) (w : hy_W) (nx : hy_N) (h : sg_M_forget_91 v0 v1 v2 v3 w = some nx) (K : hy_Nx lay_M_forget p l e (hy_rm 1 23 w0) s m args below meth c 4 G A ad0 w0.1.length (hy_Q below G ad0 w0 o args s) o nx) : hy_At lay_M_forget p l e (hy_rm 1 23 w0) s m args below meth c 4 G A ad0 w0.1.length (hy_Q below G ad0 w0 o args s) (91, [.ref v0, .int v1, .int v2, .int v3], w) := by
  intro ad H locs cells slots ls S hok hl
  have hx := B.1
  have hb := B.2.1
  dsimp only at S hok
  have hl : lv_has ls 4 [(0, .ref (ad v0)), (1, .int v1), (2, .int v2), (3, .int v3)] := hl
  show W p l e (hy_rm 1 23 w0) s m args below meth c H locs cells slots (hy_Q below G ad0 w0 o args s) (F0 m 91 ls [])
  have hv_v0 : v0 < w.1.length := hok (.ref v0) (List.mem_of_getElem? (i := 0) rfl) v0 rfl
  obtain ⟨a_v0, ha_v0⟩ : ∃ a, ad v0 = a := ⟨_, rfl⟩
  rw [ha_v0] at hl
  unfold sg_M_forget_91 at h
  refine lv_iinc (v := (v3 + 1)) (lv' := [(3, .int (v3 + 1)), (0, .ref a_v0), (1, .int v1), (2, .int v2)]) hx hb d_M_forget_91 hl (k := 3) rfl rfl (Nat.le_of_ble_eq_true rfl) rfl (fun ls hl => ?_)
  refine lv_goto (tgt := 61) hx hb d_M_forget_94 (by decide) ?_
  cases h
  exact hy_jump K S (hy_okr (by omega) (hy_oki (hy_oki (hy_oki hy_ok0)))) (lv_sub hl [1, 2, 3, 0] rfl) (by subst ha_v0; rfl) (by subst ha_v0; rfl)
theorem nk_M_forget {p : Program} {l : Launch} {e : Env} {s : State} {m : MethodId} {args : Array Value} {below : List Frame} {meth : Method} {c : Code} {G : hy_G} {A : Nat → Prop} {ad0 : Nat → Nat} {w0 : hy_W} {o : hy_O} (hl9 : l.flags = flags0) (hA : hy_A G ad0 w0 s.heap.size = A) (B : hy_B p l e (hy_rm 1 23 w0) s m args below meth c "HyphenPatternsModel" b_M_forget 4 (some .int) [] G A) (q : hy_P) (nx : hy_N) (hq : nx_M_forget q = some nx) (K : hy_Nx lay_M_forget p l e (hy_rm 1 23 w0) s m args below meth c 4 G A ad0 w0.1.length (hy_Q below G ad0 w0 o args s) o nx) : hy_At lay_M_forget p l e (hy_rm 1 23 w0) s m args below meth c 4 G A ad0 w0.1.length (hy_Q below G ad0 w0 o args s) q := by
  unfold nx_M_forget at hq
  split at hq
  · exact sk_M_forget_0 hl9 hA B _ _ nx hq K
  · exact sk_M_forget_9 hl9 hA B _ _ _ _ nx hq K
  · exact sk_M_forget_39 hl9 hA B _ _ _ _ nx hq K
  · exact sk_M_forget_61 hl9 hA B _ _ _ _ _ nx hq K
  · exact sk_M_forget_91 hl9 hA B _ _ _ _ _ nx hq K
  · cases hq
theorem c_M_forget {l : Launch} (hl9 : l.flags = flags0) (G : hy_G) (ad : Nat → Nat) {v0 : Nat} {w : hy_W} {o : hy_O} (h : f_M_forget [.ref v0] w = some o) : hy_M l y_M_forget (Cond.code y_M_forget b_M_forget 4 (some .int) :: hy_T) 1 23 G ad [.ref v0] w o := by
  obtain ⟨n, hn⟩ := hy_fx_iff.mp h
  refine hy_ofW hl9 (by decide +kernel) (Nat.le_of_ble_eq_true rfl) (fun p e s m args below meth c A hA hi B S hok ls hl => ?_)
  exact hy_loop (nk_M_forget hl9 hA B) n _ hn ad s.heap [] 0 0 ls S hok hl
theorem d_M_add_0 : decode b_M_add 0 = .ok (.aload_n 0, 1) := by decide +kernel
theorem d_M_add_1 : decode b_M_add 1 = .ok (.iload_n 1, 1) := by decide +kernel
theorem d_M_add_2 : decode b_M_add 2 = .ok (.iload_n 2, 1) := by decide +kernel
theorem d_M_add_3 : decode b_M_add 3 = .ok (.iload_n 3, 1) := by decide +kernel
theorem d_M_add_4 : decode b_M_add 4 = .ok (.iload 4, 2) := by decide +kernel
theorem d_M_add_6 : decode b_M_add 6 = .ok (.iload 5, 2) := by decide +kernel
theorem d_M_add_8 : decode b_M_add 8 = .ok (.invokevirtual 84, 3) := by decide +kernel
theorem d_M_add_11 : decode b_M_add 11 = .ok (.aload_n 0, 1) := by decide +kernel
theorem d_M_add_12 : decode b_M_add 12 = .ok (.invokevirtual 88, 3) := by decide +kernel
theorem d_M_add_15 : decode b_M_add 15 = .ok (.istore 6, 2) := by decide +kernel
theorem d_M_add_17 : decode b_M_add 17 = .ok (.aload_n 0, 1) := by decide +kernel
theorem d_M_add_18 : decode b_M_add 18 = .ok (.aload_n 0, 1) := by decide +kernel
theorem d_M_add_19 : decode b_M_add 19 = .ok (.iload 6, 2) := by decide +kernel
theorem d_M_add_21 : decode b_M_add 21 = .ok (.iconst 1, 1) := by decide +kernel
theorem d_M_add_22 : decode b_M_add 22 = .ok (.invokevirtual 92, 3) := by decide +kernel
theorem d_M_add_25 : decode b_M_add 25 = .ok (.ifCond .ne 7, 3) := by decide +kernel
theorem d_M_add_28 : decode b_M_add 28 = .ok (.iconst 1, 1) := by decide +kernel
theorem d_M_add_29 : decode b_M_add 29 = .ok (.goto 21, 3) := by decide +kernel
theorem d_M_add_32 : decode b_M_add 32 = .ok (.aload_n 0, 1) := by decide +kernel
theorem d_M_add_33 : decode b_M_add 33 = .ok (.getfield 131, 3) := by decide +kernel
theorem d_M_add_36 : decode b_M_add 36 = .ok (.iload 6, 2) := by decide +kernel
theorem d_M_add_38 : decode b_M_add 38 = .ok (.iadd, 1) := by decide +kernel
theorem d_M_add_39 : decode b_M_add 39 = .ok (.sipush 400, 3) := by decide +kernel
theorem d_M_add_42 : decode b_M_add 42 = .ok (.if_icmp .le 7, 3) := by decide +kernel
theorem d_M_add_45 : decode b_M_add 45 = .ok (.iconst 2, 1) := by decide +kernel
theorem d_M_add_46 : decode b_M_add 46 = .ok (.goto 4, 3) := by decide +kernel
theorem d_M_add_49 : decode b_M_add 49 = .ok (.iconst 0, 1) := by decide +kernel
theorem d_M_add_50 : decode b_M_add 50 = .ok (.invokevirtual 72, 3) := by decide +kernel
theorem d_M_add_53 : decode b_M_add 53 = .ok (.ifCond .eq 5, 3) := by decide +kernel
theorem d_M_add_56 : decode b_M_add 56 = .ok (.iconst 0, 1) := by decide +kernel
theorem d_M_add_57 : decode b_M_add 57 = .ok (.ireturn, 1) := by decide +kernel
theorem d_M_add_58 : decode b_M_add 58 = .ok (.iconst 0, 1) := by decide +kernel
theorem d_M_add_59 : decode b_M_add 59 = .ok (.istore 7, 2) := by decide +kernel
theorem d_M_add_61 : decode b_M_add 61 = .ok (.iload 7, 2) := by decide +kernel
theorem d_M_add_63 : decode b_M_add 63 = .ok (.iload 6, 2) := by decide +kernel
theorem d_M_add_65 : decode b_M_add 65 = .ok (.if_icmp .ge 35, 3) := by decide +kernel
theorem d_M_add_68 : decode b_M_add 68 = .ok (.aload_n 0, 1) := by decide +kernel
theorem d_M_add_69 : decode b_M_add 69 = .ok (.getfield 64, 3) := by decide +kernel
theorem d_M_add_72 : decode b_M_add 72 = .ok (.aload_n 0, 1) := by decide +kernel
theorem d_M_add_73 : decode b_M_add 73 = .ok (.getfield 131, 3) := by decide +kernel
theorem d_M_add_76 : decode b_M_add 76 = .ok (.aload_n 0, 1) := by decide +kernel
theorem d_M_add_77 : decode b_M_add 77 = .ok (.getfield 31, 3) := by decide +kernel
theorem d_M_add_80 : decode b_M_add 80 = .ok (.iload 7, 2) := by decide +kernel
theorem d_M_add_82 : decode b_M_add 82 = .ok (.iaload, 1) := by decide +kernel
theorem d_M_add_83 : decode b_M_add 83 = .ok (.iastore, 1) := by decide +kernel
theorem d_M_add_84 : decode b_M_add 84 = .ok (.aload_n 0, 1) := by decide +kernel
theorem d_M_add_85 : decode b_M_add 85 = .ok (.dup, 1) := by decide +kernel
theorem d_M_add_86 : decode b_M_add 86 = .ok (.getfield 131, 3) := by decide +kernel
theorem d_M_add_89 : decode b_M_add 89 = .ok (.iconst 1, 1) := by decide +kernel
theorem d_M_add_90 : decode b_M_add 90 = .ok (.iadd, 1) := by decide +kernel
theorem d_M_add_91 : decode b_M_add 91 = .ok (.putfield 131, 3) := by decide +kernel
theorem d_M_add_94 : decode b_M_add 94 = .ok (.iinc 7 1, 3) := by decide +kernel
theorem d_M_add_97 : decode b_M_add 97 = .ok (.goto (-36), 3) := by decide +kernel
theorem d_M_add_100 : decode b_M_add 100 = .ok (.aload_n 0, 1) := by decide +kernel
theorem d_M_add_101 : decode b_M_add 101 = .ok (.getfield 131, 3) := by decide +kernel
theorem d_M_add_104 : decode b_M_add 104 = .ok (.ireturn, 1) := by decide +kernel
def lay_M_add (pc : Nat) : List Nat := if pc = 0 then [0, 1, 2, 3, 4, 5] else if pc = 50 then [0, 6] else if pc = 61 then [0, 6, 7] else []
noncomputable def sg_M_add_0 (v0 : Nat) (v1 : Int32) (v2 : Int32) (v3 : Int32) (v4 : Int32) (v5 : Int32) (w : hy_W) : Option hy_N := if hy_ob w v0 6 = true then hy_bv (f_M_keep [.ref v0, .int v1, .int v2, .int v3, .int v4, .int v5] w) fun w1 => if hy_ob w1 v0 6 = true then hy_bi (f_M_given [.ref v0] w1) fun x7 w5 => if hy_ob w5 v0 6 = true then hy_bi (f_M_isSound [.ref v0, .int x7, .int 1] w5) fun x11 w9 => if x11 = 0 then (some (.inl (50, [.ref v0, .int x7, .int 1, .ref v0], w9))) else ((hy_gi w9 v0 6 24).bind fun x14 => if (x14 + x7) ≤ 400 then (some (.inl (50, [.ref v0, .int x7, .int 0, .ref v0], w9))) else (some (.inl (50, [.ref v0, .int x7, .int 2, .ref v0], w9)))) else none else none else none
noncomputable def sg_M_add_50 (v0 : Nat) (v6 : Int32) (s0 : Int32) (s1 : Nat) (w : hy_W) : Option hy_N := if hy_ob w s1 6 = true then hy_bi (f_M_refused [.ref s1, .int s0] w) fun x3 w1 => if x3 = 0 then (some (.inl (61, [.ref v0, .int v6, .int 0], w1))) else (some (.inr (.inl (some (.int 0)), w1))) else none
noncomputable def sg_M_add_61 (v0 : Nat) (v6 : Int32) (v7 : Int32) (w : hy_W) : Option hy_N := if v6 ≤ v7 then ((hy_gi w v0 6 24).bind fun x2 => some (.inr (.inl (some (.int x2)), w))) else ((hy_gr w v0 6 25).bind fun r3 => (hy_gi w v0 6 24).bind fun x4 => (hy_gr w v0 6 10).bind fun r5 => (hy_ai w r5 v7).bind fun x6 => (hy_pa w 0 r3 x4 (.int x6)).bind fun w7 => (hy_gi w7 v0 6 24).bind fun x8 => (hy_pf w7 v0 6 24 (.int (x8 + 1))).bind fun w9 => some (.inl (61, [.ref v0, .int v6, .int (v7 + 1)], w9)))
noncomputable def nx_M_add (q : hy_P) : Option hy_N := match q with
  | (0, [.ref v0, .int v1, .int v2, .int v3, .int v4, .int v5], w) => sg_M_add_0 v0 v1 v2 v3 v4 v5 w
  | (50, [.ref v0, .int v6, .int s0, .ref s1], w) => sg_M_add_50 v0 v6 s0 s1 w
  | (61, [.ref v0, .int v6, .int v7], w) => sg_M_add_61 v0 v6 v7 w
  | _ => none
noncomputable def f_M_add (av : List Value) (w : hy_W) : Option hy_O := hy_fx nx_M_add (0, av, w)
set_option maxHeartbeats 4000000 in
set_option maxRecDepth 100000 in
theorem sk_M_add_0 {p : Program} {l : Launch} {e : Env} {s : State} {m : MethodId} {args : Array Value} {below : List Frame} {meth : Method} {c : Code} {G : hy_G} {A : Nat → Prop} {ad0 : Nat → Nat} {w0 : hy_W} {o : hy_O} (hl9 : l.flags = flags0) (hA : hy_A G ad0 w0 s.heap.size = A) (B : hy_B p l e (hy_rm 1 25 w0) s m args below meth c "HyphenPatternsModel" b_M_add 8 (some .int) [] G A) (v0 : Nat) (v1 : Int32) (v2 : Int32) (v3 : Int32) (v4 : Int32) (v5 : Int32) (w : hy_W) (nx : hy_N) (h : sg_M_add_0 v0 v1 v2 v3 v4 v5 w = some nx) (K : hy_Nx lay_M_add p l e (hy_rm 1 25 w0) s m args below meth c 8 G A ad0 w0.1.length (hy_Q below G ad0 w0 o args s) o nx) : hy_At lay_M_add p l e (hy_rm 1 25 w0) s m args below meth c 8 G A ad0 w0.1.length (hy_Q below G ad0 w0 o args s) (0, [.ref v0, .int v1, .int v2, .int v3, .int v4, .int v5], w) := by
  intro ad H locs cells slots ls S hok hl
  have hx := B.1
  have hb := B.2.1
  dsimp only at S hok
  have hl : lv_has ls 8 [(0, .ref (ad v0)), (1, .int v1), (2, .int v2), (3, .int v3), (4, .int v4), (5, .int v5)] := hl
  show W p l e (hy_rm 1 25 w0) s m args below meth c H locs cells slots (hy_Q below G ad0 w0 o args s) (F0 m 0 ls [])
  have hv_v0 : v0 < w.1.length := hok (.ref v0) (List.mem_of_getElem? (i := 0) rfl) v0 rfl
  obtain ⟨a_v0, ha_v0⟩ : ∃ a, ad v0 = a := ⟨_, rfl⟩
  rw [ha_v0] at hl
  unfold sg_M_add_0 at h
  refine lv_aload_n hx hb d_M_add_0 rfl (lv_at hl 0 rfl) ?_
  refine lv_iload_n hx hb d_M_add_1 rfl (lv_at hl 1 rfl) ?_
  refine lv_iload_n hx hb d_M_add_2 rfl (lv_at hl 2 rfl) ?_
  refine lv_iload_n hx hb d_M_add_3 rfl (lv_at hl 3 rfl) ?_
  refine lv_iload hx hb d_M_add_4 (lv_at hl 4 rfl) ?_
  refine lv_iload hx hb d_M_add_6 (lv_at hl 5 rfl) ?_
  obtain ⟨ob4, h⟩ := hy_if h
  obtain ⟨fs_ob4, hf_ob4, hg_ob4⟩ := hy_ob_spec ob4
  obtain ⟨w1, hq_w1, h⟩ := hy_bv_spec h
  refine hy_callv (hy_runV (rest := []) (As := [.int v1, .int v2, .int v3, .int v4, .int v5]) (r := v0) (b := a_v0) B S rfl ha_v0 (by rfl) (c_M_keep hl9 G ad hq_w1) (hy_okr (by omega) (hy_oki (hy_oki (hy_oki (hy_oki (hy_oki hy_ok0)))))) tw_761 tw_9 tw_758 tw_760 sl_M_keep (by decide) rfl (Nat.le_of_ble_eq_true rfl) (Nat.le_of_ble_eq_true rfl) hf_ob4 hg_ob4 rfl hl.1 (Nat.le_of_ble_eq_true rfl) d_M_add_8) (fun ad2 H locs cells slots hag hl_w1 S => ?_)
  have ha_v0 : ad2 v0 = a_v0 := (hag v0 (by omega)).trans ha_v0
  refine lv_aload_n hx hb d_M_add_11 rfl (lv_at hl 0 rfl) ?_
  obtain ⟨ob8, h⟩ := hy_if h
  obtain ⟨fs_ob8, hf_ob8, hg_ob8⟩ := hy_ob_spec ob8
  obtain ⟨x7, w5, hq_w5, h⟩ := hy_bi_spec h
  refine hy_calli (hy_runV (rest := []) (As := []) (r := v0) (b := a_v0) B S rfl ha_v0 (by rfl) (c_M_given hl9 G ad2 hq_w5) (hy_okr (by omega) hy_ok0) tw_765 tw_9 tw_762 tw_764 sl_M_given (by decide) rfl (Nat.le_of_ble_eq_true rfl) (Nat.le_of_ble_eq_true rfl) hf_ob8 hg_ob8 rfl hl.1 (Nat.le_of_ble_eq_true rfl) d_M_add_12) (fun ad6 H locs cells slots hag hl_w5 S => ?_)
  have ha_v0 : ad6 v0 = a_v0 := (hag v0 (by omega)).trans ha_v0
  refine lv_istore (lv' := [(6, .int x7), (0, .ref a_v0), (1, .int v1), (2, .int v2), (3, .int v3), (4, .int v4), (5, .int v5)]) hx hb d_M_add_15 hl (Nat.le_of_ble_eq_true rfl) rfl (fun ls hl => ?_)
  refine lv_aload_n hx hb d_M_add_17 rfl (lv_at hl 1 rfl) ?_
  refine lv_aload_n hx hb d_M_add_18 rfl (lv_at hl 1 rfl) ?_
  refine lv_iload hx hb d_M_add_19 (lv_at hl 0 rfl) ?_
  refine lv_iconst (v := 1) hx hb d_M_add_21 (by decide) ?_
  obtain ⟨ob12, h⟩ := hy_if h
  obtain ⟨fs_ob12, hf_ob12, hg_ob12⟩ := hy_ob_spec ob12
  obtain ⟨x11, w9, hq_w9, h⟩ := hy_bi_spec h
  refine hy_calli (hy_runV (rest := [.ref a_v0]) (As := [.int x7, .int 1]) (r := v0) (b := a_v0) B S rfl ha_v0 (by rfl) (c_M_isSound hl9 G ad6 hq_w9) (hy_okr (by omega) (hy_oki (hy_oki hy_ok0))) tw_769 tw_9 tw_766 tw_768 sl_M_isSound (by decide) rfl (Nat.le_of_ble_eq_true rfl) (Nat.le_of_ble_eq_true rfl) hf_ob12 hg_ob12 rfl hl.1 (Nat.le_of_ble_eq_true rfl) d_M_add_22) (fun ad10 H locs cells slots hag hl_w9 S => ?_)
  have ha_v0 : ad10 v0 = a_v0 := (hag v0 (by omega)).trans ha_v0
  refine lv_if_ne (tgt := 32) hx hb d_M_add_25 (by decide) (fun c13 => ?_) (fun c13 => ?_)
  · rw [if_neg c13] at h
    refine lv_aload_n hx hb d_M_add_32 rfl (lv_at hl 1 rfl) ?_
    obtain ⟨x14, hx14, h⟩ := hy_bd h
    refine hy_geti B S ha_v0 hx14 rfl (Nat.le_of_ble_eq_true rfl) i_6 (j := 24) tw_674 (fun _ h => h) d_M_add_33 ?_
    refine lv_iload hx hb d_M_add_36 (lv_at hl 0 rfl) ?_
    refine lv_iadd hx hb d_M_add_38 ?_
    refine lv_sipush (v := 400) hx hb d_M_add_39 (by decide) ?_
    refine lv_icmp_le (tgt := 49) hx hb d_M_add_42 (by decide) (fun c15 => ?_) (fun c15 => ?_)
    · rw [if_pos c15] at h
      refine lv_iconst (v := 0) hx hb d_M_add_49 (by decide) ?_
      cases h
      exact hy_jump K S (hy_okr (by omega) (hy_oki (hy_oki (hy_okr (by omega) hy_ok0)))) (lv_sub hl [1, 0] rfl) (by subst ha_v0; rfl) (by subst ha_v0; rfl)
    · rw [if_neg c15] at h
      refine lv_iconst (v := 2) hx hb d_M_add_45 (by decide) ?_
      refine lv_goto (tgt := 50) hx hb d_M_add_46 (by decide) ?_
      cases h
      exact hy_jump K S (hy_okr (by omega) (hy_oki (hy_oki (hy_okr (by omega) hy_ok0)))) (lv_sub hl [1, 0] rfl) (by subst ha_v0; rfl) (by subst ha_v0; rfl)
  · rw [if_pos c13] at h
    refine lv_iconst (v := 1) hx hb d_M_add_28 (by decide) ?_
    refine lv_goto (tgt := 50) hx hb d_M_add_29 (by decide) ?_
    cases h
    exact hy_jump K S (hy_okr (by omega) (hy_oki (hy_oki (hy_okr (by omega) hy_ok0)))) (lv_sub hl [1, 0] rfl) (by subst ha_v0; rfl) (by subst ha_v0; rfl)
set_option maxHeartbeats 4000000 in
set_option maxRecDepth 100000 in
theorem sk_M_add_50 {p : Program} {l : Launch} {e : Env} {s : State} {m : MethodId} {args : Array Value} {below : List Frame} {meth : Method} {c : Code} {G : hy_G} {A : Nat → Prop} {ad0 : Nat → Nat} {w0 : hy_W} {o : hy_O} (hl9 : l.flags = flags0) (hA : hy_A G ad0 w0 s.heap.size = A) (B : hy_B p l e (hy_rm 1 25 w0) s m args below meth c "HyphenPatternsModel" b_M_add 8 (some .int) [] G A) (v0 : Nat) (v6 : Int32) (s0 : Int32) (s1 : Nat) (w : hy_W) (nx : hy_N) (h : sg_M_add_50 v0 v6 s0 s1 w = some nx) (K : hy_Nx lay_M_add p l e (hy_rm 1 25 w0) s m args below meth c 8 G A ad0 w0.1.length (hy_Q below G ad0 w0 o args s) o nx) : hy_At lay_M_add p l e (hy_rm 1 25 w0) s m args below meth c 8 G A ad0 w0.1.length (hy_Q below G ad0 w0 o args s) (50, [.ref v0, .int v6, .int s0, .ref s1], w) := by
  intro ad H locs cells slots ls S hok hl
  have hx := B.1
  have hb := B.2.1
  dsimp only at S hok
  have hl : lv_has ls 8 [(0, .ref (ad v0)), (6, .int v6)] := hl
  show W p l e (hy_rm 1 25 w0) s m args below meth c H locs cells slots (hy_Q below G ad0 w0 o args s) (F0 m 50 ls [.int s0, .ref (ad s1)])
  have hv_v0 : v0 < w.1.length := hok (.ref v0) (List.mem_of_getElem? (i := 0) rfl) v0 rfl
  obtain ⟨a_v0, ha_v0⟩ : ∃ a, ad v0 = a := ⟨_, rfl⟩
  rw [ha_v0] at hl
  have hv_s1 : s1 < w.1.length := hok (.ref s1) (List.mem_of_getElem? (i := 3) rfl) s1 rfl
  obtain ⟨a_s1, ha_s1⟩ : ∃ a, ad s1 = a := ⟨_, rfl⟩
  rw [ha_s1]
  unfold sg_M_add_50 at h
  obtain ⟨ob4, h⟩ := hy_if h
  obtain ⟨fs_ob4, hf_ob4, hg_ob4⟩ := hy_ob_spec ob4
  obtain ⟨x3, w1, hq_w1, h⟩ := hy_bi_spec h
  refine hy_calli (hy_runV (rest := []) (As := [.int s0]) (r := s1) (b := a_s1) B S rfl ha_s1 (by rfl) (c_M_refused hl9 G ad hq_w1) (hy_okr (by omega) (hy_oki hy_ok0)) tw_740 tw_9 tw_737 tw_739 sl_M_refused (by decide) rfl (Nat.le_of_ble_eq_true rfl) (Nat.le_of_ble_eq_true rfl) hf_ob4 hg_ob4 rfl hl.1 (Nat.le_of_ble_eq_true rfl) d_M_add_50) (fun ad2 H locs cells slots hag hl_w1 S => ?_)
  have ha_v0 : ad2 v0 = a_v0 := (hag v0 (by omega)).trans ha_v0
  refine lv_if_eq (tgt := 58) hx hb d_M_add_53 (by decide) (fun c5 => ?_) (fun c5 => ?_)
  · rw [if_pos c5] at h
    refine lv_iconst (v := 0) hx hb d_M_add_58 (by decide) ?_
    refine lv_istore (lv' := [(7, .int 0), (0, .ref a_v0), (6, .int v6)]) hx hb d_M_add_59 hl (Nat.le_of_ble_eq_true rfl) rfl (fun ls hl => ?_)
    cases h
    exact hy_jump K S (hy_okr (by omega) (hy_oki (hy_oki hy_ok0))) (lv_sub hl [1, 2, 0] rfl) (by subst ha_v0; rfl) (by subst ha_v0; rfl)
  · rw [if_neg c5] at h
    refine lv_iconst (v := 0) hx hb d_M_add_56 (by decide) ?_
    cases h
    cases K
    exact hy_iret hA B S d_M_add_57
set_option maxHeartbeats 4000000 in
set_option maxRecDepth 100000 in
theorem sk_M_add_61 {p : Program} {l : Launch} {e : Env} {s : State} {m : MethodId} {args : Array Value} {below : List Frame} {meth : Method} {c : Code} {G : hy_G} {A : Nat → Prop} {ad0 : Nat → Nat} {w0 : hy_W} {o : hy_O} (hl9 : l.flags = flags0) (hA : hy_A G ad0 w0 s.heap.size = A) (B : hy_B p l e (hy_rm 1 25 w0) s m args below meth c "HyphenPatternsModel" b_M_add 8 (some .int) [] G A) (v0 : Nat) (v6 : Int32) (v7 : Int32) (w : hy_W) (nx : hy_N) (h : sg_M_add_61 v0 v6 v7 w = some nx) (K : hy_Nx lay_M_add p l e (hy_rm 1 25 w0) s m args below meth c 8 G A ad0 w0.1.length (hy_Q below G ad0 w0 o args s) o nx) : hy_At lay_M_add p l e (hy_rm 1 25 w0) s m args below meth c 8 G A ad0 w0.1.length (hy_Q below G ad0 w0 o args s) (61, [.ref v0, .int v6, .int v7], w) := by
  intro ad H locs cells slots ls S hok hl
  have hx := B.1
  have hb := B.2.1
  dsimp only at S hok
  have hl : lv_has ls 8 [(0, .ref (ad v0)), (6, .int v6), (7, .int v7)] := hl
  show W p l e (hy_rm 1 25 w0) s m args below meth c H locs cells slots (hy_Q below G ad0 w0 o args s) (F0 m 61 ls [])
  have hv_v0 : v0 < w.1.length := hok (.ref v0) (List.mem_of_getElem? (i := 0) rfl) v0 rfl
  obtain ⟨a_v0, ha_v0⟩ : ∃ a, ad v0 = a := ⟨_, rfl⟩
  rw [ha_v0] at hl
  unfold sg_M_add_61 at h
  refine lv_iload hx hb d_M_add_61 (lv_at hl 2 rfl) ?_
  refine lv_iload hx hb d_M_add_63 (lv_at hl 1 rfl) ?_
  refine lv_icmp_ge (tgt := 100) hx hb d_M_add_65 (by decide) (fun c1 => ?_) (fun c1 => ?_)
  · rw [if_pos c1] at h
    refine lv_aload_n hx hb d_M_add_100 rfl (lv_at hl 0 rfl) ?_
    obtain ⟨x2, hx2, h⟩ := hy_bd h
    refine hy_geti B S ha_v0 hx2 rfl (Nat.le_of_ble_eq_true rfl) i_6 (j := 24) tw_674 (fun _ h => h) d_M_add_101 ?_
    cases h
    cases K
    exact hy_iret hA B S d_M_add_104
  · rw [if_neg c1] at h
    refine lv_aload_n hx hb d_M_add_68 rfl (lv_at hl 0 rfl) ?_
    obtain ⟨r3, hr3, h⟩ := hy_bd h
    refine hy_getr B S ha_v0 hr3 rfl (Nat.le_of_ble_eq_true rfl) i_6 (j := 25) tw_675 (fun _ h => h) d_M_add_69 (fun a_r3 ha_r3 hv_r3 => ?_)
    refine lv_aload_n hx hb d_M_add_72 rfl (lv_at hl 0 rfl) ?_
    obtain ⟨x4, hx4, h⟩ := hy_bd h
    refine hy_geti B S ha_v0 hx4 rfl (Nat.le_of_ble_eq_true rfl) i_6 (j := 24) tw_674 (fun _ h => h) d_M_add_73 ?_
    refine lv_aload_n hx hb d_M_add_76 rfl (lv_at hl 0 rfl) ?_
    obtain ⟨r5, hr5, h⟩ := hy_bd h
    refine hy_getr B S ha_v0 hr5 rfl (Nat.le_of_ble_eq_true rfl) i_6 (j := 10) tw_660 (fun _ h => h) d_M_add_77 (fun a_r5 ha_r5 hv_r5 => ?_)
    refine lv_iload hx hb d_M_add_80 (lv_at hl 2 rfl) ?_
    obtain ⟨x6, hx6, h⟩ := hy_bd h
    refine hy_iald B S ha_r5 hx6 d_M_add_82 ?_
    obtain ⟨w7, hw7, h⟩ := hy_bd h
    refine hy_iast B S ha_r3 hw7 d_M_add_83 (fun H locs S hl_w7 => ?_)
    refine lv_aload_n hx hb d_M_add_84 rfl (lv_at hl 0 rfl) ?_
    refine lv_dup hx hb d_M_add_85 rfl ?_
    obtain ⟨x8, hx8, h⟩ := hy_bd h
    refine hy_geti B S ha_v0 hx8 rfl (Nat.le_of_ble_eq_true rfl) i_6 (j := 24) tw_674 (fun _ h => h) d_M_add_86 ?_
    refine lv_iconst (v := 1) hx hb d_M_add_89 (by decide) ?_
    refine lv_iadd hx hb d_M_add_90 ?_
    obtain ⟨w9, hw9, h⟩ := hy_bd h
    refine hy_put B S ha_v0 rfl hy_cvi hw9 rfl (Nat.le_of_ble_eq_true rfl) i_6 t_6 t_6_ok n_6 (j := 24) tw_674 (fun _ h => h) rfl rfl rfl d_M_add_91 (fun H locs S hl_w9 => ?_)
    refine lv_iinc (v := (v7 + 1)) (lv' := [(7, .int (v7 + 1)), (0, .ref a_v0), (6, .int v6)]) hx hb d_M_add_94 hl (k := 2) rfl rfl (Nat.le_of_ble_eq_true rfl) rfl (fun ls hl => ?_)
    refine lv_goto (tgt := 61) hx hb d_M_add_97 (by decide) ?_
    cases h
    exact hy_jump K S (hy_okr (by omega) (hy_oki (hy_oki hy_ok0))) (lv_sub hl [1, 2, 0] rfl) (by subst ha_v0; rfl) (by subst ha_v0; rfl)
theorem nk_M_add {p : Program} {l : Launch} {e : Env} {s : State} {m : MethodId} {args : Array Value} {below : List Frame} {meth : Method} {c : Code} {G : hy_G} {A : Nat → Prop} {ad0 : Nat → Nat} {w0 : hy_W} {o : hy_O} (hl9 : l.flags = flags0) (hA : hy_A G ad0 w0 s.heap.size = A) (B : hy_B p l e (hy_rm 1 25 w0) s m args below meth c "HyphenPatternsModel" b_M_add 8 (some .int) [] G A) (q : hy_P) (nx : hy_N) (hq : nx_M_add q = some nx) (K : hy_Nx lay_M_add p l e (hy_rm 1 25 w0) s m args below meth c 8 G A ad0 w0.1.length (hy_Q below G ad0 w0 o args s) o nx) : hy_At lay_M_add p l e (hy_rm 1 25 w0) s m args below meth c 8 G A ad0 w0.1.length (hy_Q below G ad0 w0 o args s) q := by
  unfold nx_M_add at hq
  split at hq
  · exact sk_M_add_0 hl9 hA B _ _ _ _ _ _ _ nx hq K
  · exact sk_M_add_50 hl9 hA B _ _ _ _ _ nx hq K
  · exact sk_M_add_61 hl9 hA B _ _ _ _ nx hq K
  · cases hq
theorem c_M_add {l : Launch} (hl9 : l.flags = flags0) (G : hy_G) (ad : Nat → Nat) {v0 : Nat} {v1 : Int32} {v2 : Int32} {v3 : Int32} {v4 : Int32} {v5 : Int32} {w : hy_W} {o : hy_O} (h : f_M_add [.ref v0, .int v1, .int v2, .int v3, .int v4, .int v5] w = some o) : hy_M l y_M_add (Cond.code y_M_add b_M_add 8 (some .int) :: hy_T) 1 25 G ad [.ref v0, .int v1, .int v2, .int v3, .int v4, .int v5] w o := by
  obtain ⟨n, hn⟩ := hy_fx_iff.mp h
  refine hy_ofW hl9 (by decide +kernel) (Nat.le_of_ble_eq_true rfl) (fun p e s m args below meth c A hA hi B S hok ls hl => ?_)
  exact hy_loop (nk_M_add hl9 hA B) n _ hn ad s.heap [] 0 0 ls S hok hl
theorem d_M_clear_0 : decode b_M_clear 0 = .ok (.aload_n 0, 1) := by decide +kernel
theorem d_M_clear_1 : decode b_M_clear 1 = .ok (.iconst 0, 1) := by decide +kernel
theorem d_M_clear_2 : decode b_M_clear 2 = .ok (.putfield 67, 3) := by decide +kernel
theorem d_M_clear_5 : decode b_M_clear 5 = .ok (.aload_n 0, 1) := by decide +kernel
theorem d_M_clear_6 : decode b_M_clear 6 = .ok (.getfield 131, 3) := by decide +kernel
theorem d_M_clear_9 : decode b_M_clear 9 = .ok (.istore_n 1, 1) := by decide +kernel
theorem d_M_clear_10 : decode b_M_clear 10 = .ok (.aload_n 0, 1) := by decide +kernel
theorem d_M_clear_11 : decode b_M_clear 11 = .ok (.iconst 0, 1) := by decide +kernel
theorem d_M_clear_12 : decode b_M_clear 12 = .ok (.putfield 131, 3) := by decide +kernel
theorem d_M_clear_15 : decode b_M_clear 15 = .ok (.iload_n 1, 1) := by decide +kernel
theorem d_M_clear_16 : decode b_M_clear 16 = .ok (.ireturn, 1) := by decide +kernel
def lay_M_clear (pc : Nat) : List Nat := if pc = 0 then [0] else []
noncomputable def sg_M_clear_0 (v0 : Nat) (w : hy_W) : Option hy_N := (hy_pf w v0 6 0 (.int 0)).bind fun w1 => (hy_gi w1 v0 6 24).bind fun x2 => (hy_pf w1 v0 6 24 (.int 0)).bind fun w3 => some (.inr (.inl (some (.int x2)), w3))
noncomputable def nx_M_clear (q : hy_P) : Option hy_N := match q with
  | (0, [.ref v0], w) => sg_M_clear_0 v0 w
  | _ => none
noncomputable def f_M_clear (av : List Value) (w : hy_W) : Option hy_O := hy_fx nx_M_clear (0, av, w)
set_option maxHeartbeats 4000000 in
set_option maxRecDepth 100000 in
theorem sk_M_clear_0 {p : Program} {l : Launch} {e : Env} {s : State} {m : MethodId} {args : Array Value} {below : List Frame} {meth : Method} {c : Code} {G : hy_G} {A : Nat → Prop} {ad0 : Nat → Nat} {w0 : hy_W} {o : hy_O} (hl9 : l.flags = flags0) (hA : hy_A G ad0 w0 s.heap.size = A) (B : hy_B p l e (hy_rm 0 0 w0) s m args below meth c "HyphenPatternsModel" b_M_clear 2 (some .int) [] G A) (v0 : Nat) (w : hy_W) (nx : hy_N) (h : sg_M_clear_0 v0 w = some nx) (K : hy_Nx lay_M_clear p l e (hy_rm 0 0 w0) s m args below meth c 2 G A ad0 w0.1.length (hy_Q below G ad0 w0 o args s) o nx) : hy_At lay_M_clear p l e (hy_rm 0 0 w0) s m args below meth c 2 G A ad0 w0.1.length (hy_Q below G ad0 w0 o args s) (0, [.ref v0], w) := by
  intro ad H locs cells slots ls S hok hl
  have hx := B.1
  have hb := B.2.1
  dsimp only at S hok
  have hl : lv_has ls 2 [(0, .ref (ad v0))] := hl
  show W p l e (hy_rm 0 0 w0) s m args below meth c H locs cells slots (hy_Q below G ad0 w0 o args s) (F0 m 0 ls [])
  have hv_v0 : v0 < w.1.length := hok (.ref v0) (List.mem_of_getElem? (i := 0) rfl) v0 rfl
  obtain ⟨a_v0, ha_v0⟩ : ∃ a, ad v0 = a := ⟨_, rfl⟩
  rw [ha_v0] at hl
  unfold sg_M_clear_0 at h
  refine lv_aload_n hx hb d_M_clear_0 rfl (lv_at hl 0 rfl) ?_
  refine lv_iconst (v := 0) hx hb d_M_clear_1 (by decide) ?_
  obtain ⟨w1, hw1, h⟩ := hy_bd h
  refine hy_put B S ha_v0 rfl hy_cvi hw1 rfl (Nat.le_of_ble_eq_true rfl) i_6 t_6 t_6_ok n_6 (j := 0) tw_650 (fun _ h => h) rfl rfl rfl d_M_clear_2 (fun H locs S hl_w1 => ?_)
  refine lv_aload_n hx hb d_M_clear_5 rfl (lv_at hl 0 rfl) ?_
  obtain ⟨x2, hx2, h⟩ := hy_bd h
  refine hy_geti B S ha_v0 hx2 rfl (Nat.le_of_ble_eq_true rfl) i_6 (j := 24) tw_674 (fun _ h => h) d_M_clear_6 ?_
  refine lv_istore_n (lv' := [(1, .int x2), (0, .ref a_v0)]) hx hb d_M_clear_9 rfl hl (Nat.le_of_ble_eq_true rfl) rfl (fun ls hl => ?_)
  refine lv_aload_n hx hb d_M_clear_10 rfl (lv_at hl 1 rfl) ?_
  refine lv_iconst (v := 0) hx hb d_M_clear_11 (by decide) ?_
  obtain ⟨w3, hw3, h⟩ := hy_bd h
  refine hy_put B S ha_v0 rfl hy_cvi hw3 rfl (Nat.le_of_ble_eq_true rfl) i_6 t_6 t_6_ok n_6 (j := 24) tw_674 (fun _ h => h) rfl rfl rfl d_M_clear_12 (fun H locs S hl_w3 => ?_)
  refine lv_iload_n hx hb d_M_clear_15 rfl (lv_at hl 0 rfl) ?_
  cases h
  cases K
  exact hy_iret hA B S d_M_clear_16
theorem nk_M_clear {p : Program} {l : Launch} {e : Env} {s : State} {m : MethodId} {args : Array Value} {below : List Frame} {meth : Method} {c : Code} {G : hy_G} {A : Nat → Prop} {ad0 : Nat → Nat} {w0 : hy_W} {o : hy_O} (hl9 : l.flags = flags0) (hA : hy_A G ad0 w0 s.heap.size = A) (B : hy_B p l e (hy_rm 0 0 w0) s m args below meth c "HyphenPatternsModel" b_M_clear 2 (some .int) [] G A) (q : hy_P) (nx : hy_N) (hq : nx_M_clear q = some nx) (K : hy_Nx lay_M_clear p l e (hy_rm 0 0 w0) s m args below meth c 2 G A ad0 w0.1.length (hy_Q below G ad0 w0 o args s) o nx) : hy_At lay_M_clear p l e (hy_rm 0 0 w0) s m args below meth c 2 G A ad0 w0.1.length (hy_Q below G ad0 w0 o args s) q := by
  unfold nx_M_clear at hq
  split at hq
  · exact sk_M_clear_0 hl9 hA B _ _ nx hq K
  · cases hq
theorem c_M_clear {l : Launch} (hl9 : l.flags = flags0) (G : hy_G) (ad : Nat → Nat) {v0 : Nat} {w : hy_W} {o : hy_O} (h : f_M_clear [.ref v0] w = some o) : hy_M l y_M_clear (Cond.code y_M_clear b_M_clear 2 (some .int) :: hy_T) 0 0 G ad [.ref v0] w o := by
  obtain ⟨n, hn⟩ := hy_fx_iff.mp h
  refine hy_ofW hl9 (by decide +kernel) (Nat.le_of_ble_eq_true rfl) (fun p e s m args below meth c A hA hi B S hok ls hl => ?_)
  exact hy_loop (nk_M_clear hl9 hA B) n _ hn ad s.heap [] 0 0 ls S hok hl
theorem d_M_isPlace_0 : decode b_M_isPlace 0 = .ok (.iload_n 1, 1) := by decide +kernel
theorem d_M_isPlace_1 : decode b_M_isPlace 1 = .ok (.ifCond .lt 15, 3) := by decide +kernel
theorem d_M_isPlace_4 : decode b_M_isPlace 4 = .ok (.iload_n 1, 1) := by decide +kernel
theorem d_M_isPlace_5 : decode b_M_isPlace 5 = .ok (.aload_n 0, 1) := by decide +kernel
theorem d_M_isPlace_6 : decode b_M_isPlace 6 = .ok (.getfield 131, 3) := by decide +kernel
theorem d_M_isPlace_9 : decode b_M_isPlace 9 = .ok (.if_icmp .gt 7, 3) := by decide +kernel
theorem d_M_isPlace_12 : decode b_M_isPlace 12 = .ok (.iconst 1, 1) := by decide +kernel
theorem d_M_isPlace_13 : decode b_M_isPlace 13 = .ok (.goto 4, 3) := by decide +kernel
theorem d_M_isPlace_16 : decode b_M_isPlace 16 = .ok (.iconst 0, 1) := by decide +kernel
theorem d_M_isPlace_17 : decode b_M_isPlace 17 = .ok (.ireturn, 1) := by decide +kernel
def lay_M_isPlace (pc : Nat) : List Nat := if pc = 0 then [0, 1] else if pc = 16 then [] else []
noncomputable def sg_M_isPlace_0 (v0 : Nat) (v1 : Int32) (w : hy_W) : Option hy_N := if v1 < 0 then (some (.inl (16, [], w))) else ((hy_gi w v0 6 24).bind fun x2 => if x2 < v1 then (some (.inl (16, [], w))) else (some (.inr (.inl (some (.int 1)), w))))
noncomputable def sg_M_isPlace_16  (w : hy_W) : Option hy_N := some (.inr (.inl (some (.int 0)), w))
noncomputable def nx_M_isPlace (q : hy_P) : Option hy_N := match q with
  | (0, [.ref v0, .int v1], w) => sg_M_isPlace_0 v0 v1 w
  | (16, [], w) => sg_M_isPlace_16  w
  | _ => none
noncomputable def f_M_isPlace (av : List Value) (w : hy_W) : Option hy_O := hy_fx nx_M_isPlace (0, av, w)
set_option maxHeartbeats 4000000 in
set_option maxRecDepth 100000 in
theorem sk_M_isPlace_0 {p : Program} {l : Launch} {e : Env} {s : State} {m : MethodId} {args : Array Value} {below : List Frame} {meth : Method} {c : Code} {G : hy_G} {A : Nat → Prop} {ad0 : Nat → Nat} {w0 : hy_W} {o : hy_O} (hl9 : l.flags = flags0) (hA : hy_A G ad0 w0 s.heap.size = A) (B : hy_B p l e (hy_rm 0 0 w0) s m args below meth c "HyphenPatternsModel" b_M_isPlace 2 (some .boolean) [] G A) (v0 : Nat) (v1 : Int32) (w : hy_W) (nx : hy_N) (h : sg_M_isPlace_0 v0 v1 w = some nx) (K : hy_Nx lay_M_isPlace p l e (hy_rm 0 0 w0) s m args below meth c 2 G A ad0 w0.1.length (hy_Q below G ad0 w0 o args s) o nx) : hy_At lay_M_isPlace p l e (hy_rm 0 0 w0) s m args below meth c 2 G A ad0 w0.1.length (hy_Q below G ad0 w0 o args s) (0, [.ref v0, .int v1], w) := by
  intro ad H locs cells slots ls S hok hl
  have hx := B.1
  have hb := B.2.1
  dsimp only at S hok
  have hl : lv_has ls 2 [(0, .ref (ad v0)), (1, .int v1)] := hl
  show W p l e (hy_rm 0 0 w0) s m args below meth c H locs cells slots (hy_Q below G ad0 w0 o args s) (F0 m 0 ls [])
  have hv_v0 : v0 < w.1.length := hok (.ref v0) (List.mem_of_getElem? (i := 0) rfl) v0 rfl
  obtain ⟨a_v0, ha_v0⟩ : ∃ a, ad v0 = a := ⟨_, rfl⟩
  rw [ha_v0] at hl
  unfold sg_M_isPlace_0 at h
  refine lv_iload_n hx hb d_M_isPlace_0 rfl (lv_at hl 1 rfl) ?_
  refine lv_if_lt (tgt := 16) hx hb d_M_isPlace_1 (by decide) (fun c1 => ?_) (fun c1 => ?_)
  · rw [if_pos c1] at h
    cases h
    exact hy_jump K S hy_ok0 (lv_sub hl [] rfl) (by rfl) (by rfl)
  · rw [if_neg c1] at h
    refine lv_iload_n hx hb d_M_isPlace_4 rfl (lv_at hl 1 rfl) ?_
    refine lv_aload_n hx hb d_M_isPlace_5 rfl (lv_at hl 0 rfl) ?_
    obtain ⟨x2, hx2, h⟩ := hy_bd h
    refine hy_geti B S ha_v0 hx2 rfl (Nat.le_of_ble_eq_true rfl) i_6 (j := 24) tw_674 (fun _ h => h) d_M_isPlace_6 ?_
    refine lv_icmp_gt (tgt := 16) hx hb d_M_isPlace_9 (by decide) (fun c3 => ?_) (fun c3 => ?_)
    · rw [if_pos c3] at h
      cases h
      exact hy_jump K S hy_ok0 (lv_sub hl [] rfl) (by rfl) (by rfl)
    · rw [if_neg c3] at h
      refine lv_iconst (v := 1) hx hb d_M_isPlace_12 (by decide) ?_
      refine lv_goto (tgt := 17) hx hb d_M_isPlace_13 (by decide) ?_
      cases h
      cases K
      exact hy_zret hA B S (by decide) d_M_isPlace_17
set_option maxHeartbeats 4000000 in
set_option maxRecDepth 100000 in
theorem sk_M_isPlace_16 {p : Program} {l : Launch} {e : Env} {s : State} {m : MethodId} {args : Array Value} {below : List Frame} {meth : Method} {c : Code} {G : hy_G} {A : Nat → Prop} {ad0 : Nat → Nat} {w0 : hy_W} {o : hy_O} (hl9 : l.flags = flags0) (hA : hy_A G ad0 w0 s.heap.size = A) (B : hy_B p l e (hy_rm 0 0 w0) s m args below meth c "HyphenPatternsModel" b_M_isPlace 2 (some .boolean) [] G A)  (w : hy_W) (nx : hy_N) (h : sg_M_isPlace_16  w = some nx) (K : hy_Nx lay_M_isPlace p l e (hy_rm 0 0 w0) s m args below meth c 2 G A ad0 w0.1.length (hy_Q below G ad0 w0 o args s) o nx) : hy_At lay_M_isPlace p l e (hy_rm 0 0 w0) s m args below meth c 2 G A ad0 w0.1.length (hy_Q below G ad0 w0 o args s) (16, [], w) := by
  intro ad H locs cells slots ls S hok hl
  have hx := B.1
  have hb := B.2.1
  dsimp only at S hok
  have hl : lv_has ls 2 [] := hl
  show W p l e (hy_rm 0 0 w0) s m args below meth c H locs cells slots (hy_Q below G ad0 w0 o args s) (F0 m 16 ls [])
  unfold sg_M_isPlace_16 at h
  refine lv_iconst (v := 0) hx hb d_M_isPlace_16 (by decide) ?_
  cases h
  cases K
  exact hy_zret hA B S (by decide) d_M_isPlace_17
theorem nk_M_isPlace {p : Program} {l : Launch} {e : Env} {s : State} {m : MethodId} {args : Array Value} {below : List Frame} {meth : Method} {c : Code} {G : hy_G} {A : Nat → Prop} {ad0 : Nat → Nat} {w0 : hy_W} {o : hy_O} (hl9 : l.flags = flags0) (hA : hy_A G ad0 w0 s.heap.size = A) (B : hy_B p l e (hy_rm 0 0 w0) s m args below meth c "HyphenPatternsModel" b_M_isPlace 2 (some .boolean) [] G A) (q : hy_P) (nx : hy_N) (hq : nx_M_isPlace q = some nx) (K : hy_Nx lay_M_isPlace p l e (hy_rm 0 0 w0) s m args below meth c 2 G A ad0 w0.1.length (hy_Q below G ad0 w0 o args s) o nx) : hy_At lay_M_isPlace p l e (hy_rm 0 0 w0) s m args below meth c 2 G A ad0 w0.1.length (hy_Q below G ad0 w0 o args s) q := by
  unfold nx_M_isPlace at hq
  split at hq
  · exact sk_M_isPlace_0 hl9 hA B _ _ _ nx hq K
  · exact sk_M_isPlace_16 hl9 hA B _ nx hq K
  · cases hq
theorem c_M_isPlace {l : Launch} (hl9 : l.flags = flags0) (G : hy_G) (ad : Nat → Nat) {v0 : Nat} {v1 : Int32} {w : hy_W} {o : hy_O} (h : f_M_isPlace [.ref v0, .int v1] w = some o) : hy_M l y_M_isPlace (Cond.code y_M_isPlace b_M_isPlace 2 (some .boolean) :: hy_T) 0 0 G ad [.ref v0, .int v1] w o := by
  obtain ⟨n, hn⟩ := hy_fx_iff.mp h
  refine hy_ofW hl9 (by decide +kernel) (Nat.le_of_ble_eq_true rfl) (fun p e s m args below meth c A hA hi B S hok ls hl => ?_)
  exact hy_loop (nk_M_isPlace hl9 hA B) n _ hn ad s.heap [] 0 0 ls S hok hl
theorem d_M_letterOf_0 : decode b_M_letterOf 0 = .ok (.iconst 0, 1) := by decide +kernel
theorem d_M_letterOf_1 : decode b_M_letterOf 1 = .ok (.istore_n 2, 1) := by decide +kernel
theorem d_M_letterOf_2 : decode b_M_letterOf 2 = .ok (.bipush 20, 2) := by decide +kernel
theorem d_M_letterOf_4 : decode b_M_letterOf 4 = .ok (.aload_n 0, 1) := by decide +kernel
theorem d_M_letterOf_5 : decode b_M_letterOf 5 = .ok (.getfield 76, 3) := by decide +kernel
theorem d_M_letterOf_8 : decode b_M_letterOf 8 = .ok (.imul, 1) := by decide +kernel
theorem d_M_letterOf_9 : decode b_M_letterOf 9 = .ok (.istore_n 3, 1) := by decide +kernel
theorem d_M_letterOf_10 : decode b_M_letterOf 10 = .ok (.iload_n 3, 1) := by decide +kernel
theorem d_M_letterOf_11 : decode b_M_letterOf 11 = .ok (.bipush 20, 2) := by decide +kernel
theorem d_M_letterOf_13 : decode b_M_letterOf 13 = .ok (.aload_n 0, 1) := by decide +kernel
theorem d_M_letterOf_14 : decode b_M_letterOf 14 = .ok (.getfield 76, 3) := by decide +kernel
theorem d_M_letterOf_17 : decode b_M_letterOf 17 = .ok (.imul, 1) := by decide +kernel
theorem d_M_letterOf_18 : decode b_M_letterOf 18 = .ok (.aload_n 0, 1) := by decide +kernel
theorem d_M_letterOf_19 : decode b_M_letterOf 19 = .ok (.getfield 7, 3) := by decide +kernel
theorem d_M_letterOf_22 : decode b_M_letterOf 22 = .ok (.aload_n 0, 1) := by decide +kernel
theorem d_M_letterOf_23 : decode b_M_letterOf 23 = .ok (.getfield 76, 3) := by decide +kernel
theorem d_M_letterOf_26 : decode b_M_letterOf 26 = .ok (.iaload, 1) := by decide +kernel
theorem d_M_letterOf_27 : decode b_M_letterOf 27 = .ok (.iadd, 1) := by decide +kernel
theorem d_M_letterOf_28 : decode b_M_letterOf 28 = .ok (.if_icmp .ge 74, 3) := by decide +kernel
theorem d_M_letterOf_31 : decode b_M_letterOf 31 = .ok (.aload_n 0, 1) := by decide +kernel
theorem d_M_letterOf_32 : decode b_M_letterOf 32 = .ok (.getfield 13, 3) := by decide +kernel
theorem d_M_letterOf_35 : decode b_M_letterOf 35 = .ok (.iload_n 3, 1) := by decide +kernel
theorem d_M_letterOf_36 : decode b_M_letterOf 36 = .ok (.iaload, 1) := by decide +kernel
theorem d_M_letterOf_37 : decode b_M_letterOf 37 = .ok (.iload_n 1, 1) := by decide +kernel
theorem d_M_letterOf_38 : decode b_M_letterOf 38 = .ok (.if_icmp .gt 17, 3) := by decide +kernel
theorem d_M_letterOf_41 : decode b_M_letterOf 41 = .ok (.iload_n 1, 1) := by decide +kernel
theorem d_M_letterOf_42 : decode b_M_letterOf 42 = .ok (.aload_n 0, 1) := by decide +kernel
theorem d_M_letterOf_43 : decode b_M_letterOf 43 = .ok (.getfield 16, 3) := by decide +kernel
theorem d_M_letterOf_46 : decode b_M_letterOf 46 = .ok (.iload_n 3, 1) := by decide +kernel
theorem d_M_letterOf_47 : decode b_M_letterOf 47 = .ok (.iaload, 1) := by decide +kernel
theorem d_M_letterOf_48 : decode b_M_letterOf 48 = .ok (.if_icmp .gt 7, 3) := by decide +kernel
theorem d_M_letterOf_51 : decode b_M_letterOf 51 = .ok (.iconst 1, 1) := by decide +kernel
theorem d_M_letterOf_52 : decode b_M_letterOf 52 = .ok (.goto 4, 3) := by decide +kernel
theorem d_M_letterOf_55 : decode b_M_letterOf 55 = .ok (.iconst 0, 1) := by decide +kernel
theorem d_M_letterOf_56 : decode b_M_letterOf 56 = .ok (.istore 4, 2) := by decide +kernel
theorem d_M_letterOf_58 : decode b_M_letterOf 58 = .ok (.iload 4, 2) := by decide +kernel
theorem d_M_letterOf_60 : decode b_M_letterOf 60 = .ok (.ifCond .eq 34, 3) := by decide +kernel
theorem d_M_letterOf_63 : decode b_M_letterOf 63 = .ok (.aload_n 0, 1) := by decide +kernel
theorem d_M_letterOf_64 : decode b_M_letterOf 64 = .ok (.getfield 19, 3) := by decide +kernel
theorem d_M_letterOf_67 : decode b_M_letterOf 67 = .ok (.iload_n 3, 1) := by decide +kernel
theorem d_M_letterOf_68 : decode b_M_letterOf 68 = .ok (.iaload, 1) := by decide +kernel
theorem d_M_letterOf_69 : decode b_M_letterOf 69 = .ok (.ifCond .ne 7, 3) := by decide +kernel
theorem d_M_letterOf_72 : decode b_M_letterOf 72 = .ok (.iconst 0, 1) := by decide +kernel
theorem d_M_letterOf_73 : decode b_M_letterOf 73 = .ok (.goto 22, 3) := by decide +kernel
theorem d_M_letterOf_76 : decode b_M_letterOf 76 = .ok (.aload_n 0, 1) := by decide +kernel
theorem d_M_letterOf_77 : decode b_M_letterOf 77 = .ok (.getfield 19, 3) := by decide +kernel
theorem d_M_letterOf_80 : decode b_M_letterOf 80 = .ok (.iload_n 3, 1) := by decide +kernel
theorem d_M_letterOf_81 : decode b_M_letterOf 81 = .ok (.iaload, 1) := by decide +kernel
theorem d_M_letterOf_82 : decode b_M_letterOf 82 = .ok (.iload_n 1, 1) := by decide +kernel
theorem d_M_letterOf_83 : decode b_M_letterOf 83 = .ok (.iadd, 1) := by decide +kernel
theorem d_M_letterOf_84 : decode b_M_letterOf 84 = .ok (.aload_n 0, 1) := by decide +kernel
theorem d_M_letterOf_85 : decode b_M_letterOf 85 = .ok (.getfield 13, 3) := by decide +kernel
theorem d_M_letterOf_88 : decode b_M_letterOf 88 = .ok (.iload_n 3, 1) := by decide +kernel
theorem d_M_letterOf_89 : decode b_M_letterOf 89 = .ok (.iaload, 1) := by decide +kernel
theorem d_M_letterOf_90 : decode b_M_letterOf 90 = .ok (.isub, 1) := by decide +kernel
theorem d_M_letterOf_91 : decode b_M_letterOf 91 = .ok (.goto 4, 3) := by decide +kernel
theorem d_M_letterOf_94 : decode b_M_letterOf 94 = .ok (.iload_n 2, 1) := by decide +kernel
theorem d_M_letterOf_95 : decode b_M_letterOf 95 = .ok (.istore_n 2, 1) := by decide +kernel
theorem d_M_letterOf_96 : decode b_M_letterOf 96 = .ok (.iinc 3 1, 3) := by decide +kernel
theorem d_M_letterOf_99 : decode b_M_letterOf 99 = .ok (.goto (-89), 3) := by decide +kernel
theorem d_M_letterOf_102 : decode b_M_letterOf 102 = .ok (.iload_n 2, 1) := by decide +kernel
theorem d_M_letterOf_103 : decode b_M_letterOf 103 = .ok (.ireturn, 1) := by decide +kernel
def lay_M_letterOf (pc : Nat) : List Nat := if pc = 0 then [0, 1] else if pc = 10 then [0, 1, 2, 3] else if pc = 55 then [0, 1, 2, 3] else if pc = 56 then [0, 1, 2, 3] else if pc = 95 then [0, 1, 3] else []
noncomputable def sg_M_letterOf_0 (v0 : Nat) (v1 : Int32) (w : hy_W) : Option hy_N := (hy_gi w v0 6 1).bind fun x1 => some (.inl (10, [.ref v0, .int v1, .int 0, .int (20 * x1)], w))
noncomputable def sg_M_letterOf_10 (v0 : Nat) (v1 : Int32) (v2 : Int32) (v3 : Int32) (w : hy_W) : Option hy_N := (hy_gi w v0 6 1).bind fun x1 => (hy_gr w v0 6 2).bind fun r2 => (hy_gi w v0 6 1).bind fun x3 => (hy_ai w r2 x3).bind fun x4 => if ((20 * x1) + x4) ≤ v3 then (some (.inr (.inl (some (.int v2)), w))) else ((hy_gr w v0 6 3).bind fun r6 => (hy_ai w r6 v3).bind fun x7 => if v1 < x7 then (some (.inl (55, [.ref v0, .int v1, .int v2, .int v3], w))) else ((hy_gr w v0 6 4).bind fun r9 => (hy_ai w r9 v3).bind fun x10 => if x10 < v1 then (some (.inl (55, [.ref v0, .int v1, .int v2, .int v3], w))) else (some (.inl (56, [.ref v0, .int v1, .int v2, .int v3, .int 1], w)))))
noncomputable def sg_M_letterOf_55 (v0 : Nat) (v1 : Int32) (v2 : Int32) (v3 : Int32) (w : hy_W) : Option hy_N := some (.inl (56, [.ref v0, .int v1, .int v2, .int v3, .int 0], w))
noncomputable def sg_M_letterOf_56 (v0 : Nat) (v1 : Int32) (v2 : Int32) (v3 : Int32) (s0 : Int32) (w : hy_W) : Option hy_N := if s0 = 0 then (some (.inl (95, [.ref v0, .int v1, .int v3, .int v2], w))) else ((hy_gr w v0 6 5).bind fun r2 => (hy_ai w r2 v3).bind fun x3 => if x3 = 0 then (some (.inl (95, [.ref v0, .int v1, .int v3, .int 0], w))) else ((hy_gr w v0 6 5).bind fun r5 => (hy_ai w r5 v3).bind fun x6 => (hy_gr w v0 6 3).bind fun r7 => (hy_ai w r7 v3).bind fun x8 => some (.inl (95, [.ref v0, .int v1, .int v3, .int ((x6 + v1) - x8)], w))))
noncomputable def sg_M_letterOf_95 (v0 : Nat) (v1 : Int32) (v3 : Int32) (s0 : Int32) (w : hy_W) : Option hy_N := some (.inl (10, [.ref v0, .int v1, .int s0, .int (v3 + 1)], w))
noncomputable def nx_M_letterOf (q : hy_P) : Option hy_N := match q with
  | (0, [.ref v0, .int v1], w) => sg_M_letterOf_0 v0 v1 w
  | (10, [.ref v0, .int v1, .int v2, .int v3], w) => sg_M_letterOf_10 v0 v1 v2 v3 w
  | (55, [.ref v0, .int v1, .int v2, .int v3], w) => sg_M_letterOf_55 v0 v1 v2 v3 w
  | (56, [.ref v0, .int v1, .int v2, .int v3, .int s0], w) => sg_M_letterOf_56 v0 v1 v2 v3 s0 w
  | (95, [.ref v0, .int v1, .int v3, .int s0], w) => sg_M_letterOf_95 v0 v1 v3 s0 w
  | _ => none
noncomputable def f_M_letterOf (av : List Value) (w : hy_W) : Option hy_O := hy_fx nx_M_letterOf (0, av, w)
set_option maxHeartbeats 4000000 in
set_option maxRecDepth 100000 in
theorem sk_M_letterOf_0 {p : Program} {l : Launch} {e : Env} {s : State} {m : MethodId} {args : Array Value} {below : List Frame} {meth : Method} {c : Code} {G : hy_G} {A : Nat → Prop} {ad0 : Nat → Nat} {w0 : hy_W} {o : hy_O} (hl9 : l.flags = flags0) (hA : hy_A G ad0 w0 s.heap.size = A) (B : hy_B p l e (hy_rm 0 0 w0) s m args below meth c "HyphenPatternsModel" b_M_letterOf 5 (some .int) [] G A) (v0 : Nat) (v1 : Int32) (w : hy_W) (nx : hy_N) (h : sg_M_letterOf_0 v0 v1 w = some nx) (K : hy_Nx lay_M_letterOf p l e (hy_rm 0 0 w0) s m args below meth c 5 G A ad0 w0.1.length (hy_Q below G ad0 w0 o args s) o nx) : hy_At lay_M_letterOf p l e (hy_rm 0 0 w0) s m args below meth c 5 G A ad0 w0.1.length (hy_Q below G ad0 w0 o args s) (0, [.ref v0, .int v1], w) := by
  intro ad H locs cells slots ls S hok hl
  have hx := B.1
  have hb := B.2.1
  dsimp only at S hok
  have hl : lv_has ls 5 [(0, .ref (ad v0)), (1, .int v1)] := hl
  show W p l e (hy_rm 0 0 w0) s m args below meth c H locs cells slots (hy_Q below G ad0 w0 o args s) (F0 m 0 ls [])
  have hv_v0 : v0 < w.1.length := hok (.ref v0) (List.mem_of_getElem? (i := 0) rfl) v0 rfl
  obtain ⟨a_v0, ha_v0⟩ : ∃ a, ad v0 = a := ⟨_, rfl⟩
  rw [ha_v0] at hl
  unfold sg_M_letterOf_0 at h
  refine lv_iconst (v := 0) hx hb d_M_letterOf_0 (by decide) ?_
  refine lv_istore_n (lv' := [(2, .int 0), (0, .ref a_v0), (1, .int v1)]) hx hb d_M_letterOf_1 rfl hl (Nat.le_of_ble_eq_true rfl) rfl (fun ls hl => ?_)
  refine lv_bipush (v := 20) hx hb d_M_letterOf_2 (by decide) ?_
  refine lv_aload_n hx hb d_M_letterOf_4 rfl (lv_at hl 1 rfl) ?_
  obtain ⟨x1, hx1, h⟩ := hy_bd h
  refine hy_geti B S ha_v0 hx1 rfl (Nat.le_of_ble_eq_true rfl) i_6 (j := 1) tw_651 (fun _ h => h) d_M_letterOf_5 ?_
  refine lv_imul hx hb d_M_letterOf_8 ?_
  refine lv_istore_n (lv' := [(3, .int (20 * x1)), (2, .int 0), (0, .ref a_v0), (1, .int v1)]) hx hb d_M_letterOf_9 rfl hl (Nat.le_of_ble_eq_true rfl) rfl (fun ls hl => ?_)
  cases h
  exact hy_jump K S (hy_okr (by omega) (hy_oki (hy_oki (hy_oki hy_ok0)))) (lv_sub hl [2, 3, 1, 0] rfl) (by subst ha_v0; rfl) (by subst ha_v0; rfl)
set_option maxHeartbeats 4000000 in
set_option maxRecDepth 100000 in
theorem sk_M_letterOf_10 {p : Program} {l : Launch} {e : Env} {s : State} {m : MethodId} {args : Array Value} {below : List Frame} {meth : Method} {c : Code} {G : hy_G} {A : Nat → Prop} {ad0 : Nat → Nat} {w0 : hy_W} {o : hy_O} (hl9 : l.flags = flags0) (hA : hy_A G ad0 w0 s.heap.size = A) (B : hy_B p l e (hy_rm 0 0 w0) s m args below meth c "HyphenPatternsModel" b_M_letterOf 5 (some .int) [] G A) (v0 : Nat) (v1 : Int32) (v2 : Int32) (v3 : Int32) (w : hy_W) (nx : hy_N) (h : sg_M_letterOf_10 v0 v1 v2 v3 w = some nx) (K : hy_Nx lay_M_letterOf p l e (hy_rm 0 0 w0) s m args below meth c 5 G A ad0 w0.1.length (hy_Q below G ad0 w0 o args s) o nx) : hy_At lay_M_letterOf p l e (hy_rm 0 0 w0) s m args below meth c 5 G A ad0 w0.1.length (hy_Q below G ad0 w0 o args s) (10, [.ref v0, .int v1, .int v2, .int v3], w) := by
  intro ad H locs cells slots ls S hok hl
  have hx := B.1
  have hb := B.2.1
  dsimp only at S hok
  have hl : lv_has ls 5 [(0, .ref (ad v0)), (1, .int v1), (2, .int v2), (3, .int v3)] := hl
  show W p l e (hy_rm 0 0 w0) s m args below meth c H locs cells slots (hy_Q below G ad0 w0 o args s) (F0 m 10 ls [])
  have hv_v0 : v0 < w.1.length := hok (.ref v0) (List.mem_of_getElem? (i := 0) rfl) v0 rfl
  obtain ⟨a_v0, ha_v0⟩ : ∃ a, ad v0 = a := ⟨_, rfl⟩
  rw [ha_v0] at hl
  unfold sg_M_letterOf_10 at h
  refine lv_iload_n hx hb d_M_letterOf_10 rfl (lv_at hl 3 rfl) ?_
  refine lv_bipush (v := 20) hx hb d_M_letterOf_11 (by decide) ?_
  refine lv_aload_n hx hb d_M_letterOf_13 rfl (lv_at hl 0 rfl) ?_
  obtain ⟨x1, hx1, h⟩ := hy_bd h
  refine hy_geti B S ha_v0 hx1 rfl (Nat.le_of_ble_eq_true rfl) i_6 (j := 1) tw_651 (fun _ h => h) d_M_letterOf_14 ?_
  refine lv_imul hx hb d_M_letterOf_17 ?_
  refine lv_aload_n hx hb d_M_letterOf_18 rfl (lv_at hl 0 rfl) ?_
  obtain ⟨r2, hr2, h⟩ := hy_bd h
  refine hy_getr B S ha_v0 hr2 rfl (Nat.le_of_ble_eq_true rfl) i_6 (j := 2) tw_652 (fun _ h => h) d_M_letterOf_19 (fun a_r2 ha_r2 hv_r2 => ?_)
  refine lv_aload_n hx hb d_M_letterOf_22 rfl (lv_at hl 0 rfl) ?_
  obtain ⟨x3, hx3, h⟩ := hy_bd h
  refine hy_geti B S ha_v0 hx3 rfl (Nat.le_of_ble_eq_true rfl) i_6 (j := 1) tw_651 (fun _ h => h) d_M_letterOf_23 ?_
  obtain ⟨x4, hx4, h⟩ := hy_bd h
  refine hy_iald B S ha_r2 hx4 d_M_letterOf_26 ?_
  refine lv_iadd hx hb d_M_letterOf_27 ?_
  refine lv_icmp_ge (tgt := 102) hx hb d_M_letterOf_28 (by decide) (fun c5 => ?_) (fun c5 => ?_)
  · rw [if_pos c5] at h
    refine lv_iload_n hx hb d_M_letterOf_102 rfl (lv_at hl 2 rfl) ?_
    cases h
    cases K
    exact hy_iret hA B S d_M_letterOf_103
  · rw [if_neg c5] at h
    refine lv_aload_n hx hb d_M_letterOf_31 rfl (lv_at hl 0 rfl) ?_
    obtain ⟨r6, hr6, h⟩ := hy_bd h
    refine hy_getr B S ha_v0 hr6 rfl (Nat.le_of_ble_eq_true rfl) i_6 (j := 3) tw_653 (fun _ h => h) d_M_letterOf_32 (fun a_r6 ha_r6 hv_r6 => ?_)
    refine lv_iload_n hx hb d_M_letterOf_35 rfl (lv_at hl 3 rfl) ?_
    obtain ⟨x7, hx7, h⟩ := hy_bd h
    refine hy_iald B S ha_r6 hx7 d_M_letterOf_36 ?_
    refine lv_iload_n hx hb d_M_letterOf_37 rfl (lv_at hl 1 rfl) ?_
    refine lv_icmp_gt (tgt := 55) hx hb d_M_letterOf_38 (by decide) (fun c8 => ?_) (fun c8 => ?_)
    · rw [if_pos c8] at h
      cases h
      exact hy_jump K S (hy_okr (by omega) (hy_oki (hy_oki (hy_oki hy_ok0)))) (lv_sub hl [0, 1, 2, 3] rfl) (by subst ha_v0; rfl) (by subst ha_v0; rfl)
    · rw [if_neg c8] at h
      refine lv_iload_n hx hb d_M_letterOf_41 rfl (lv_at hl 1 rfl) ?_
      refine lv_aload_n hx hb d_M_letterOf_42 rfl (lv_at hl 0 rfl) ?_
      obtain ⟨r9, hr9, h⟩ := hy_bd h
      refine hy_getr B S ha_v0 hr9 rfl (Nat.le_of_ble_eq_true rfl) i_6 (j := 4) tw_654 (fun _ h => h) d_M_letterOf_43 (fun a_r9 ha_r9 hv_r9 => ?_)
      refine lv_iload_n hx hb d_M_letterOf_46 rfl (lv_at hl 3 rfl) ?_
      obtain ⟨x10, hx10, h⟩ := hy_bd h
      refine hy_iald B S ha_r9 hx10 d_M_letterOf_47 ?_
      refine lv_icmp_gt (tgt := 55) hx hb d_M_letterOf_48 (by decide) (fun c11 => ?_) (fun c11 => ?_)
      · rw [if_pos c11] at h
        cases h
        exact hy_jump K S (hy_okr (by omega) (hy_oki (hy_oki (hy_oki hy_ok0)))) (lv_sub hl [0, 1, 2, 3] rfl) (by subst ha_v0; rfl) (by subst ha_v0; rfl)
      · rw [if_neg c11] at h
        refine lv_iconst (v := 1) hx hb d_M_letterOf_51 (by decide) ?_
        refine lv_goto (tgt := 56) hx hb d_M_letterOf_52 (by decide) ?_
        cases h
        exact hy_jump K S (hy_okr (by omega) (hy_oki (hy_oki (hy_oki (hy_oki hy_ok0))))) (lv_sub hl [0, 1, 2, 3] rfl) (by subst ha_v0; rfl) (by subst ha_v0; rfl)
set_option maxHeartbeats 4000000 in
set_option maxRecDepth 100000 in
theorem sk_M_letterOf_55 {p : Program} {l : Launch} {e : Env} {s : State} {m : MethodId} {args : Array Value} {below : List Frame} {meth : Method} {c : Code} {G : hy_G} {A : Nat → Prop} {ad0 : Nat → Nat} {w0 : hy_W} {o : hy_O} (hl9 : l.flags = flags0) (hA : hy_A G ad0 w0 s.heap.size = A) (B : hy_B p l e (hy_rm 0 0 w0) s m args below meth c "HyphenPatternsModel" b_M_letterOf 5 (some .int) [] G A) (v0 : Nat) (v1 : Int32) (v2 : Int32) (v3 : Int32) (w : hy_W) (nx : hy_N) (h : sg_M_letterOf_55 v0 v1 v2 v3 w = some nx) (K : hy_Nx lay_M_letterOf p l e (hy_rm 0 0 w0) s m args below meth c 5 G A ad0 w0.1.length (hy_Q below G ad0 w0 o args s) o nx) : hy_At lay_M_letterOf p l e (hy_rm 0 0 w0) s m args below meth c 5 G A ad0 w0.1.length (hy_Q below G ad0 w0 o args s) (55, [.ref v0, .int v1, .int v2, .int v3], w) := by
  intro ad H locs cells slots ls S hok hl
  have hx := B.1
  have hb := B.2.1
  dsimp only at S hok
  have hl : lv_has ls 5 [(0, .ref (ad v0)), (1, .int v1), (2, .int v2), (3, .int v3)] := hl
  show W p l e (hy_rm 0 0 w0) s m args below meth c H locs cells slots (hy_Q below G ad0 w0 o args s) (F0 m 55 ls [])
  have hv_v0 : v0 < w.1.length := hok (.ref v0) (List.mem_of_getElem? (i := 0) rfl) v0 rfl
  obtain ⟨a_v0, ha_v0⟩ : ∃ a, ad v0 = a := ⟨_, rfl⟩
  rw [ha_v0] at hl
  unfold sg_M_letterOf_55 at h
  refine lv_iconst (v := 0) hx hb d_M_letterOf_55 (by decide) ?_
  cases h
  exact hy_jump K S (hy_okr (by omega) (hy_oki (hy_oki (hy_oki (hy_oki hy_ok0))))) (lv_sub hl [0, 1, 2, 3] rfl) (by subst ha_v0; rfl) (by subst ha_v0; rfl)
set_option maxHeartbeats 4000000 in
set_option maxRecDepth 100000 in
theorem sk_M_letterOf_56 {p : Program} {l : Launch} {e : Env} {s : State} {m : MethodId} {args : Array Value} {below : List Frame} {meth : Method} {c : Code} {G : hy_G} {A : Nat → Prop} {ad0 : Nat → Nat} {w0 : hy_W} {o : hy_O} (hl9 : l.flags = flags0) (hA : hy_A G ad0 w0 s.heap.size = A) (B : hy_B p l e (hy_rm 0 0 w0) s m args below meth c "HyphenPatternsModel" b_M_letterOf 5 (some .int) [] G A) (v0 : Nat) (v1 : Int32) (v2 : Int32) (v3 : Int32) (s0 : Int32) (w : hy_W) (nx : hy_N) (h : sg_M_letterOf_56 v0 v1 v2 v3 s0 w = some nx) (K : hy_Nx lay_M_letterOf p l e (hy_rm 0 0 w0) s m args below meth c 5 G A ad0 w0.1.length (hy_Q below G ad0 w0 o args s) o nx) : hy_At lay_M_letterOf p l e (hy_rm 0 0 w0) s m args below meth c 5 G A ad0 w0.1.length (hy_Q below G ad0 w0 o args s) (56, [.ref v0, .int v1, .int v2, .int v3, .int s0], w) := by
  intro ad H locs cells slots ls S hok hl
  have hx := B.1
  have hb := B.2.1
  dsimp only at S hok
  have hl : lv_has ls 5 [(0, .ref (ad v0)), (1, .int v1), (2, .int v2), (3, .int v3)] := hl
  show W p l e (hy_rm 0 0 w0) s m args below meth c H locs cells slots (hy_Q below G ad0 w0 o args s) (F0 m 56 ls [.int s0])
  have hv_v0 : v0 < w.1.length := hok (.ref v0) (List.mem_of_getElem? (i := 0) rfl) v0 rfl
  obtain ⟨a_v0, ha_v0⟩ : ∃ a, ad v0 = a := ⟨_, rfl⟩
  rw [ha_v0] at hl
  unfold sg_M_letterOf_56 at h
  refine lv_istore (lv' := [(4, .int s0), (0, .ref a_v0), (1, .int v1), (2, .int v2), (3, .int v3)]) hx hb d_M_letterOf_56 hl (Nat.le_of_ble_eq_true rfl) rfl (fun ls hl => ?_)
  refine lv_iload hx hb d_M_letterOf_58 (lv_at hl 0 rfl) ?_
  refine lv_if_eq (tgt := 94) hx hb d_M_letterOf_60 (by decide) (fun c1 => ?_) (fun c1 => ?_)
  · rw [if_pos c1] at h
    refine lv_iload_n hx hb d_M_letterOf_94 rfl (lv_at hl 3 rfl) ?_
    cases h
    exact hy_jump K S (hy_okr (by omega) (hy_oki (hy_oki (hy_oki hy_ok0)))) (lv_sub hl [1, 2, 4] rfl) (by subst ha_v0; rfl) (by subst ha_v0; rfl)
  · rw [if_neg c1] at h
    refine lv_aload_n hx hb d_M_letterOf_63 rfl (lv_at hl 1 rfl) ?_
    obtain ⟨r2, hr2, h⟩ := hy_bd h
    refine hy_getr B S ha_v0 hr2 rfl (Nat.le_of_ble_eq_true rfl) i_6 (j := 5) tw_655 (fun _ h => h) d_M_letterOf_64 (fun a_r2 ha_r2 hv_r2 => ?_)
    refine lv_iload_n hx hb d_M_letterOf_67 rfl (lv_at hl 4 rfl) ?_
    obtain ⟨x3, hx3, h⟩ := hy_bd h
    refine hy_iald B S ha_r2 hx3 d_M_letterOf_68 ?_
    refine lv_if_ne (tgt := 76) hx hb d_M_letterOf_69 (by decide) (fun c4 => ?_) (fun c4 => ?_)
    · rw [if_neg c4] at h
      refine lv_aload_n hx hb d_M_letterOf_76 rfl (lv_at hl 1 rfl) ?_
      obtain ⟨r5, hr5, h⟩ := hy_bd h
      refine hy_getr B S ha_v0 hr5 rfl (Nat.le_of_ble_eq_true rfl) i_6 (j := 5) tw_655 (fun _ h => h) d_M_letterOf_77 (fun a_r5 ha_r5 hv_r5 => ?_)
      refine lv_iload_n hx hb d_M_letterOf_80 rfl (lv_at hl 4 rfl) ?_
      obtain ⟨x6, hx6, h⟩ := hy_bd h
      refine hy_iald B S ha_r5 hx6 d_M_letterOf_81 ?_
      refine lv_iload_n hx hb d_M_letterOf_82 rfl (lv_at hl 2 rfl) ?_
      refine lv_iadd hx hb d_M_letterOf_83 ?_
      refine lv_aload_n hx hb d_M_letterOf_84 rfl (lv_at hl 1 rfl) ?_
      obtain ⟨r7, hr7, h⟩ := hy_bd h
      refine hy_getr B S ha_v0 hr7 rfl (Nat.le_of_ble_eq_true rfl) i_6 (j := 3) tw_653 (fun _ h => h) d_M_letterOf_85 (fun a_r7 ha_r7 hv_r7 => ?_)
      refine lv_iload_n hx hb d_M_letterOf_88 rfl (lv_at hl 4 rfl) ?_
      obtain ⟨x8, hx8, h⟩ := hy_bd h
      refine hy_iald B S ha_r7 hx8 d_M_letterOf_89 ?_
      refine lv_isub hx hb d_M_letterOf_90 ?_
      refine lv_goto (tgt := 95) hx hb d_M_letterOf_91 (by decide) ?_
      cases h
      exact hy_jump K S (hy_okr (by omega) (hy_oki (hy_oki (hy_oki hy_ok0)))) (lv_sub hl [1, 2, 4] rfl) (by subst ha_v0; rfl) (by subst ha_v0; rfl)
    · rw [if_pos c4] at h
      refine lv_iconst (v := 0) hx hb d_M_letterOf_72 (by decide) ?_
      refine lv_goto (tgt := 95) hx hb d_M_letterOf_73 (by decide) ?_
      cases h
      exact hy_jump K S (hy_okr (by omega) (hy_oki (hy_oki (hy_oki hy_ok0)))) (lv_sub hl [1, 2, 4] rfl) (by subst ha_v0; rfl) (by subst ha_v0; rfl)
set_option maxHeartbeats 4000000 in
set_option maxRecDepth 100000 in
theorem sk_M_letterOf_95 {p : Program} {l : Launch} {e : Env} {s : State} {m : MethodId} {args : Array Value} {below : List Frame} {meth : Method} {c : Code} {G : hy_G} {A : Nat → Prop} {ad0 : Nat → Nat} {w0 : hy_W} {o : hy_O} (hl9 : l.flags = flags0) (hA : hy_A G ad0 w0 s.heap.size = A) (B : hy_B p l e (hy_rm 0 0 w0) s m args below meth c "HyphenPatternsModel" b_M_letterOf 5 (some .int) [] G A) (v0 : Nat) (v1 : Int32) (v3 : Int32) (s0 : Int32) (w : hy_W) (nx : hy_N) (h : sg_M_letterOf_95 v0 v1 v3 s0 w = some nx) (K : hy_Nx lay_M_letterOf p l e (hy_rm 0 0 w0) s m args below meth c 5 G A ad0 w0.1.length (hy_Q below G ad0 w0 o args s) o nx) : hy_At lay_M_letterOf p l e (hy_rm 0 0 w0) s m args below meth c 5 G A ad0 w0.1.length (hy_Q below G ad0 w0 o args s) (95, [.ref v0, .int v1, .int v3, .int s0], w) := by
  intro ad H locs cells slots ls S hok hl
  have hx := B.1
  have hb := B.2.1
  dsimp only at S hok
  have hl : lv_has ls 5 [(0, .ref (ad v0)), (1, .int v1), (3, .int v3)] := hl
  show W p l e (hy_rm 0 0 w0) s m args below meth c H locs cells slots (hy_Q below G ad0 w0 o args s) (F0 m 95 ls [.int s0])
  have hv_v0 : v0 < w.1.length := hok (.ref v0) (List.mem_of_getElem? (i := 0) rfl) v0 rfl
  obtain ⟨a_v0, ha_v0⟩ : ∃ a, ad v0 = a := ⟨_, rfl⟩
  rw [ha_v0] at hl
  unfold sg_M_letterOf_95 at h
  refine lv_istore_n (lv' := [(2, .int s0), (0, .ref a_v0), (1, .int v1), (3, .int v3)]) hx hb d_M_letterOf_95 rfl hl (Nat.le_of_ble_eq_true rfl) rfl (fun ls hl => ?_)
  refine lv_iinc (v := (v3 + 1)) (lv' := [(3, .int (v3 + 1)), (2, .int s0), (0, .ref a_v0), (1, .int v1)]) hx hb d_M_letterOf_96 hl (k := 3) rfl rfl (Nat.le_of_ble_eq_true rfl) rfl (fun ls hl => ?_)
  refine lv_goto (tgt := 10) hx hb d_M_letterOf_99 (by decide) ?_
  cases h
  exact hy_jump K S (hy_okr (by omega) (hy_oki (hy_oki (hy_oki hy_ok0)))) (lv_sub hl [2, 3, 1, 0] rfl) (by subst ha_v0; rfl) (by subst ha_v0; rfl)
theorem nk_M_letterOf {p : Program} {l : Launch} {e : Env} {s : State} {m : MethodId} {args : Array Value} {below : List Frame} {meth : Method} {c : Code} {G : hy_G} {A : Nat → Prop} {ad0 : Nat → Nat} {w0 : hy_W} {o : hy_O} (hl9 : l.flags = flags0) (hA : hy_A G ad0 w0 s.heap.size = A) (B : hy_B p l e (hy_rm 0 0 w0) s m args below meth c "HyphenPatternsModel" b_M_letterOf 5 (some .int) [] G A) (q : hy_P) (nx : hy_N) (hq : nx_M_letterOf q = some nx) (K : hy_Nx lay_M_letterOf p l e (hy_rm 0 0 w0) s m args below meth c 5 G A ad0 w0.1.length (hy_Q below G ad0 w0 o args s) o nx) : hy_At lay_M_letterOf p l e (hy_rm 0 0 w0) s m args below meth c 5 G A ad0 w0.1.length (hy_Q below G ad0 w0 o args s) q := by
  unfold nx_M_letterOf at hq
  split at hq
  · exact sk_M_letterOf_0 hl9 hA B _ _ _ nx hq K
  · exact sk_M_letterOf_10 hl9 hA B _ _ _ _ _ nx hq K
  · exact sk_M_letterOf_55 hl9 hA B _ _ _ _ _ nx hq K
  · exact sk_M_letterOf_56 hl9 hA B _ _ _ _ _ _ nx hq K
  · exact sk_M_letterOf_95 hl9 hA B _ _ _ _ _ nx hq K
  · cases hq
theorem c_M_letterOf {l : Launch} (hl9 : l.flags = flags0) (G : hy_G) (ad : Nat → Nat) {v0 : Nat} {v1 : Int32} {w : hy_W} {o : hy_O} (h : f_M_letterOf [.ref v0, .int v1] w = some o) : hy_M l y_M_letterOf (Cond.code y_M_letterOf b_M_letterOf 5 (some .int) :: hy_T) 0 0 G ad [.ref v0, .int v1] w o := by
  obtain ⟨n, hn⟩ := hy_fx_iff.mp h
  refine hy_ofW hl9 (by decide +kernel) (Nat.le_of_ble_eq_true rfl) (fun p e s m args below meth c A hA hi B S hok ls hl => ?_)
  exact hy_loop (nk_M_letterOf hl9 hA B) n _ hn ad s.heap [] 0 0 ls S hok hl
theorem d_M_isLetter_0 : decode b_M_isLetter 0 = .ok (.iload_n 1, 1) := by decide +kernel
theorem d_M_isLetter_1 : decode b_M_isLetter 1 = .ok (.ifCond .lt 28, 3) := by decide +kernel
theorem d_M_isLetter_4 : decode b_M_isLetter 4 = .ok (.iload_n 1, 1) := by decide +kernel
theorem d_M_isLetter_5 : decode b_M_isLetter 5 = .ok (.aload_n 0, 1) := by decide +kernel
theorem d_M_isLetter_6 : decode b_M_isLetter 6 = .ok (.getfield 131, 3) := by decide +kernel
theorem d_M_isLetter_9 : decode b_M_isLetter 9 = .ok (.if_icmp .ge 20, 3) := by decide +kernel
theorem d_M_isLetter_12 : decode b_M_isLetter 12 = .ok (.aload_n 0, 1) := by decide +kernel
theorem d_M_isLetter_13 : decode b_M_isLetter 13 = .ok (.aload_n 0, 1) := by decide +kernel
theorem d_M_isLetter_14 : decode b_M_isLetter 14 = .ok (.getfield 64, 3) := by decide +kernel
theorem d_M_isLetter_17 : decode b_M_isLetter 17 = .ok (.iload_n 1, 1) := by decide +kernel
theorem d_M_isLetter_18 : decode b_M_isLetter 18 = .ok (.iaload, 1) := by decide +kernel
theorem d_M_isLetter_19 : decode b_M_isLetter 19 = .ok (.invokevirtual 134, 3) := by decide +kernel
theorem d_M_isLetter_22 : decode b_M_isLetter 22 = .ok (.ifCond .le 7, 3) := by decide +kernel
theorem d_M_isLetter_25 : decode b_M_isLetter 25 = .ok (.iconst 1, 1) := by decide +kernel
theorem d_M_isLetter_26 : decode b_M_isLetter 26 = .ok (.goto 4, 3) := by decide +kernel
theorem d_M_isLetter_29 : decode b_M_isLetter 29 = .ok (.iconst 0, 1) := by decide +kernel
theorem d_M_isLetter_30 : decode b_M_isLetter 30 = .ok (.ireturn, 1) := by decide +kernel
def lay_M_isLetter (pc : Nat) : List Nat := if pc = 0 then [0, 1] else if pc = 29 then [] else []
noncomputable def sg_M_isLetter_0 (v0 : Nat) (v1 : Int32) (w : hy_W) : Option hy_N := if v1 < 0 then (some (.inl (29, [], w))) else ((hy_gi w v0 6 24).bind fun x2 => if x2 ≤ v1 then (some (.inl (29, [], w))) else ((hy_gr w v0 6 25).bind fun r4 => (hy_ai w r4 v1).bind fun x5 => if hy_ob w v0 6 = true then hy_bi (f_M_letterOf [.ref v0, .int x5] w) fun x8 w6 => if x8 ≤ 0 then (some (.inl (29, [], w6))) else (some (.inr (.inl (some (.int 1)), w6))) else none))
noncomputable def sg_M_isLetter_29  (w : hy_W) : Option hy_N := some (.inr (.inl (some (.int 0)), w))
noncomputable def nx_M_isLetter (q : hy_P) : Option hy_N := match q with
  | (0, [.ref v0, .int v1], w) => sg_M_isLetter_0 v0 v1 w
  | (29, [], w) => sg_M_isLetter_29  w
  | _ => none
noncomputable def f_M_isLetter (av : List Value) (w : hy_W) : Option hy_O := hy_fx nx_M_isLetter (0, av, w)
set_option maxHeartbeats 4000000 in
set_option maxRecDepth 100000 in
theorem sk_M_isLetter_0 {p : Program} {l : Launch} {e : Env} {s : State} {m : MethodId} {args : Array Value} {below : List Frame} {meth : Method} {c : Code} {G : hy_G} {A : Nat → Prop} {ad0 : Nat → Nat} {w0 : hy_W} {o : hy_O} (hl9 : l.flags = flags0) (hA : hy_A G ad0 w0 s.heap.size = A) (B : hy_B p l e (hy_rm 1 24 w0) s m args below meth c "HyphenPatternsModel" b_M_isLetter 2 (some .boolean) [] G A) (v0 : Nat) (v1 : Int32) (w : hy_W) (nx : hy_N) (h : sg_M_isLetter_0 v0 v1 w = some nx) (K : hy_Nx lay_M_isLetter p l e (hy_rm 1 24 w0) s m args below meth c 2 G A ad0 w0.1.length (hy_Q below G ad0 w0 o args s) o nx) : hy_At lay_M_isLetter p l e (hy_rm 1 24 w0) s m args below meth c 2 G A ad0 w0.1.length (hy_Q below G ad0 w0 o args s) (0, [.ref v0, .int v1], w) := by
  intro ad H locs cells slots ls S hok hl
  have hx := B.1
  have hb := B.2.1
  dsimp only at S hok
  have hl : lv_has ls 2 [(0, .ref (ad v0)), (1, .int v1)] := hl
  show W p l e (hy_rm 1 24 w0) s m args below meth c H locs cells slots (hy_Q below G ad0 w0 o args s) (F0 m 0 ls [])
  have hv_v0 : v0 < w.1.length := hok (.ref v0) (List.mem_of_getElem? (i := 0) rfl) v0 rfl
  obtain ⟨a_v0, ha_v0⟩ : ∃ a, ad v0 = a := ⟨_, rfl⟩
  rw [ha_v0] at hl
  unfold sg_M_isLetter_0 at h
  refine lv_iload_n hx hb d_M_isLetter_0 rfl (lv_at hl 1 rfl) ?_
  refine lv_if_lt (tgt := 29) hx hb d_M_isLetter_1 (by decide) (fun c1 => ?_) (fun c1 => ?_)
  · rw [if_pos c1] at h
    cases h
    exact hy_jump K S hy_ok0 (lv_sub hl [] rfl) (by rfl) (by rfl)
  · rw [if_neg c1] at h
    refine lv_iload_n hx hb d_M_isLetter_4 rfl (lv_at hl 1 rfl) ?_
    refine lv_aload_n hx hb d_M_isLetter_5 rfl (lv_at hl 0 rfl) ?_
    obtain ⟨x2, hx2, h⟩ := hy_bd h
    refine hy_geti B S ha_v0 hx2 rfl (Nat.le_of_ble_eq_true rfl) i_6 (j := 24) tw_674 (fun _ h => h) d_M_isLetter_6 ?_
    refine lv_icmp_ge (tgt := 29) hx hb d_M_isLetter_9 (by decide) (fun c3 => ?_) (fun c3 => ?_)
    · rw [if_pos c3] at h
      cases h
      exact hy_jump K S hy_ok0 (lv_sub hl [] rfl) (by rfl) (by rfl)
    · rw [if_neg c3] at h
      refine lv_aload_n hx hb d_M_isLetter_12 rfl (lv_at hl 0 rfl) ?_
      refine lv_aload_n hx hb d_M_isLetter_13 rfl (lv_at hl 0 rfl) ?_
      obtain ⟨r4, hr4, h⟩ := hy_bd h
      refine hy_getr B S ha_v0 hr4 rfl (Nat.le_of_ble_eq_true rfl) i_6 (j := 25) tw_675 (fun _ h => h) d_M_isLetter_14 (fun a_r4 ha_r4 hv_r4 => ?_)
      refine lv_iload_n hx hb d_M_isLetter_17 rfl (lv_at hl 1 rfl) ?_
      obtain ⟨x5, hx5, h⟩ := hy_bd h
      refine hy_iald B S ha_r4 hx5 d_M_isLetter_18 ?_
      obtain ⟨ob9, h⟩ := hy_if h
      obtain ⟨fs_ob9, hf_ob9, hg_ob9⟩ := hy_ob_spec ob9
      obtain ⟨x8, w6, hq_w6, h⟩ := hy_bi_spec h
      refine hy_calli (hy_runV (rest := []) (As := [.int x5]) (r := v0) (b := a_v0) B S rfl ha_v0 (by rfl) (c_M_letterOf hl9 G ad hq_w6) (hy_okr (by omega) (hy_oki hy_ok0)) tw_845 tw_9 tw_842 tw_844 sl_M_letterOf (by decide) rfl (Nat.le_of_ble_eq_true rfl) (Nat.le_of_ble_eq_true rfl) hf_ob9 hg_ob9 rfl hl.1 (Nat.le_of_ble_eq_true rfl) d_M_isLetter_19) (fun ad7 H locs cells slots hag hl_w6 S => ?_)
      have ha_v0 : ad7 v0 = a_v0 := (hag v0 (by omega)).trans ha_v0
      refine lv_if_le (tgt := 29) hx hb d_M_isLetter_22 (by decide) (fun c10 => ?_) (fun c10 => ?_)
      · rw [if_pos c10] at h
        cases h
        exact hy_jump K S hy_ok0 (lv_sub hl [] rfl) (by rfl) (by rfl)
      · rw [if_neg c10] at h
        refine lv_iconst (v := 1) hx hb d_M_isLetter_25 (by decide) ?_
        refine lv_goto (tgt := 30) hx hb d_M_isLetter_26 (by decide) ?_
        cases h
        cases K
        exact hy_zret hA B S (by decide) d_M_isLetter_30
set_option maxHeartbeats 4000000 in
set_option maxRecDepth 100000 in
theorem sk_M_isLetter_29 {p : Program} {l : Launch} {e : Env} {s : State} {m : MethodId} {args : Array Value} {below : List Frame} {meth : Method} {c : Code} {G : hy_G} {A : Nat → Prop} {ad0 : Nat → Nat} {w0 : hy_W} {o : hy_O} (hl9 : l.flags = flags0) (hA : hy_A G ad0 w0 s.heap.size = A) (B : hy_B p l e (hy_rm 1 24 w0) s m args below meth c "HyphenPatternsModel" b_M_isLetter 2 (some .boolean) [] G A)  (w : hy_W) (nx : hy_N) (h : sg_M_isLetter_29  w = some nx) (K : hy_Nx lay_M_isLetter p l e (hy_rm 1 24 w0) s m args below meth c 2 G A ad0 w0.1.length (hy_Q below G ad0 w0 o args s) o nx) : hy_At lay_M_isLetter p l e (hy_rm 1 24 w0) s m args below meth c 2 G A ad0 w0.1.length (hy_Q below G ad0 w0 o args s) (29, [], w) := by
  intro ad H locs cells slots ls S hok hl
  have hx := B.1
  have hb := B.2.1
  dsimp only at S hok
  have hl : lv_has ls 2 [] := hl
  show W p l e (hy_rm 1 24 w0) s m args below meth c H locs cells slots (hy_Q below G ad0 w0 o args s) (F0 m 29 ls [])
  unfold sg_M_isLetter_29 at h
  refine lv_iconst (v := 0) hx hb d_M_isLetter_29 (by decide) ?_
  cases h
  cases K
  exact hy_zret hA B S (by decide) d_M_isLetter_30
theorem nk_M_isLetter {p : Program} {l : Launch} {e : Env} {s : State} {m : MethodId} {args : Array Value} {below : List Frame} {meth : Method} {c : Code} {G : hy_G} {A : Nat → Prop} {ad0 : Nat → Nat} {w0 : hy_W} {o : hy_O} (hl9 : l.flags = flags0) (hA : hy_A G ad0 w0 s.heap.size = A) (B : hy_B p l e (hy_rm 1 24 w0) s m args below meth c "HyphenPatternsModel" b_M_isLetter 2 (some .boolean) [] G A) (q : hy_P) (nx : hy_N) (hq : nx_M_isLetter q = some nx) (K : hy_Nx lay_M_isLetter p l e (hy_rm 1 24 w0) s m args below meth c 2 G A ad0 w0.1.length (hy_Q below G ad0 w0 o args s) o nx) : hy_At lay_M_isLetter p l e (hy_rm 1 24 w0) s m args below meth c 2 G A ad0 w0.1.length (hy_Q below G ad0 w0 o args s) q := by
  unfold nx_M_isLetter at hq
  split at hq
  · exact sk_M_isLetter_0 hl9 hA B _ _ _ nx hq K
  · exact sk_M_isLetter_29 hl9 hA B _ nx hq K
  · cases hq
theorem c_M_isLetter {l : Launch} (hl9 : l.flags = flags0) (G : hy_G) (ad : Nat → Nat) {v0 : Nat} {v1 : Int32} {w : hy_W} {o : hy_O} (h : f_M_isLetter [.ref v0, .int v1] w = some o) : hy_M l y_M_isLetter (Cond.code y_M_isLetter b_M_isLetter 2 (some .boolean) :: hy_T) 1 24 G ad [.ref v0, .int v1] w o := by
  obtain ⟨n, hn⟩ := hy_fx_iff.mp h
  refine hy_ofW hl9 (by decide +kernel) (Nat.le_of_ble_eq_true rfl) (fun p e s m args below meth c A hA hi B S hok ls hl => ?_)
  exact hy_loop (nk_M_isLetter hl9 hA B) n _ hn ad s.heap [] 0 0 ls S hok hl
theorem d_M_isWithin_0 : decode b_M_isWithin 0 = .ok (.aload_n 0, 1) := by decide +kernel
theorem d_M_isWithin_1 : decode b_M_isWithin 1 = .ok (.iload_n 1, 1) := by decide +kernel
theorem d_M_isWithin_2 : decode b_M_isWithin 2 = .ok (.iconst 1, 1) := by decide +kernel
theorem d_M_isWithin_3 : decode b_M_isWithin 3 = .ok (.isub, 1) := by decide +kernel
theorem d_M_isWithin_4 : decode b_M_isWithin 4 = .ok (.invokevirtual 138, 3) := by decide +kernel
theorem d_M_isWithin_7 : decode b_M_isWithin 7 = .ok (.ifCond .eq 15, 3) := by decide +kernel
theorem d_M_isWithin_10 : decode b_M_isWithin 10 = .ok (.aload_n 0, 1) := by decide +kernel
theorem d_M_isWithin_11 : decode b_M_isWithin 11 = .ok (.iload_n 1, 1) := by decide +kernel
theorem d_M_isWithin_12 : decode b_M_isWithin 12 = .ok (.invokevirtual 138, 3) := by decide +kernel
theorem d_M_isWithin_15 : decode b_M_isWithin 15 = .ok (.ifCond .eq 7, 3) := by decide +kernel
theorem d_M_isWithin_18 : decode b_M_isWithin 18 = .ok (.iconst 1, 1) := by decide +kernel
theorem d_M_isWithin_19 : decode b_M_isWithin 19 = .ok (.goto 4, 3) := by decide +kernel
theorem d_M_isWithin_22 : decode b_M_isWithin 22 = .ok (.iconst 0, 1) := by decide +kernel
theorem d_M_isWithin_23 : decode b_M_isWithin 23 = .ok (.ireturn, 1) := by decide +kernel
def lay_M_isWithin (pc : Nat) : List Nat := if pc = 0 then [0, 1] else if pc = 22 then [] else []
noncomputable def sg_M_isWithin_0 (v0 : Nat) (v1 : Int32) (w : hy_W) : Option hy_N := if hy_ob w v0 6 = true then hy_bi (f_M_isLetter [.ref v0, .int (v1 - 1)] w) fun x3 w1 => if x3 = 0 then (some (.inl (22, [], w1))) else (if hy_ob w1 v0 6 = true then hy_bi (f_M_isLetter [.ref v0, .int v1] w1) fun x8 w6 => if x8 = 0 then (some (.inl (22, [], w6))) else (some (.inr (.inl (some (.int 1)), w6))) else none) else none
noncomputable def sg_M_isWithin_22  (w : hy_W) : Option hy_N := some (.inr (.inl (some (.int 0)), w))
noncomputable def nx_M_isWithin (q : hy_P) : Option hy_N := match q with
  | (0, [.ref v0, .int v1], w) => sg_M_isWithin_0 v0 v1 w
  | (22, [], w) => sg_M_isWithin_22  w
  | _ => none
noncomputable def f_M_isWithin (av : List Value) (w : hy_W) : Option hy_O := hy_fx nx_M_isWithin (0, av, w)
set_option maxHeartbeats 4000000 in
set_option maxRecDepth 100000 in
theorem sk_M_isWithin_0 {p : Program} {l : Launch} {e : Env} {s : State} {m : MethodId} {args : Array Value} {below : List Frame} {meth : Method} {c : Code} {G : hy_G} {A : Nat → Prop} {ad0 : Nat → Nat} {w0 : hy_W} {o : hy_O} (hl9 : l.flags = flags0) (hA : hy_A G ad0 w0 s.heap.size = A) (B : hy_B p l e (hy_rm 2 45 w0) s m args below meth c "HyphenPatternsModel" b_M_isWithin 2 (some .boolean) [] G A) (v0 : Nat) (v1 : Int32) (w : hy_W) (nx : hy_N) (h : sg_M_isWithin_0 v0 v1 w = some nx) (K : hy_Nx lay_M_isWithin p l e (hy_rm 2 45 w0) s m args below meth c 2 G A ad0 w0.1.length (hy_Q below G ad0 w0 o args s) o nx) : hy_At lay_M_isWithin p l e (hy_rm 2 45 w0) s m args below meth c 2 G A ad0 w0.1.length (hy_Q below G ad0 w0 o args s) (0, [.ref v0, .int v1], w) := by
  intro ad H locs cells slots ls S hok hl
  have hx := B.1
  have hb := B.2.1
  dsimp only at S hok
  have hl : lv_has ls 2 [(0, .ref (ad v0)), (1, .int v1)] := hl
  show W p l e (hy_rm 2 45 w0) s m args below meth c H locs cells slots (hy_Q below G ad0 w0 o args s) (F0 m 0 ls [])
  have hv_v0 : v0 < w.1.length := hok (.ref v0) (List.mem_of_getElem? (i := 0) rfl) v0 rfl
  obtain ⟨a_v0, ha_v0⟩ : ∃ a, ad v0 = a := ⟨_, rfl⟩
  rw [ha_v0] at hl
  unfold sg_M_isWithin_0 at h
  refine lv_aload_n hx hb d_M_isWithin_0 rfl (lv_at hl 0 rfl) ?_
  refine lv_iload_n hx hb d_M_isWithin_1 rfl (lv_at hl 1 rfl) ?_
  refine lv_iconst (v := 1) hx hb d_M_isWithin_2 (by decide) ?_
  refine lv_isub hx hb d_M_isWithin_3 ?_
  obtain ⟨ob4, h⟩ := hy_if h
  obtain ⟨fs_ob4, hf_ob4, hg_ob4⟩ := hy_ob_spec ob4
  obtain ⟨x3, w1, hq_w1, h⟩ := hy_bi_spec h
  refine hy_calli (hy_runV (rest := []) (As := [.int (v1 - 1)]) (r := v0) (b := a_v0) B S rfl ha_v0 (by rfl) (c_M_isLetter hl9 G ad hq_w1) (hy_okr (by omega) (hy_oki hy_ok0)) tw_841 tw_9 tw_838 tw_840 sl_M_isLetter (by decide) rfl (Nat.le_of_ble_eq_true rfl) (Nat.le_of_ble_eq_true rfl) hf_ob4 hg_ob4 rfl hl.1 (Nat.le_of_ble_eq_true rfl) d_M_isWithin_4) (fun ad2 H locs cells slots hag hl_w1 S => ?_)
  have ha_v0 : ad2 v0 = a_v0 := (hag v0 (by omega)).trans ha_v0
  refine lv_if_eq (tgt := 22) hx hb d_M_isWithin_7 (by decide) (fun c5 => ?_) (fun c5 => ?_)
  · rw [if_pos c5] at h
    cases h
    exact hy_jump K S hy_ok0 (lv_sub hl [] rfl) (by rfl) (by rfl)
  · rw [if_neg c5] at h
    refine lv_aload_n hx hb d_M_isWithin_10 rfl (lv_at hl 0 rfl) ?_
    refine lv_iload_n hx hb d_M_isWithin_11 rfl (lv_at hl 1 rfl) ?_
    obtain ⟨ob9, h⟩ := hy_if h
    obtain ⟨fs_ob9, hf_ob9, hg_ob9⟩ := hy_ob_spec ob9
    obtain ⟨x8, w6, hq_w6, h⟩ := hy_bi_spec h
    refine hy_calli (hy_runV (rest := []) (As := [.int v1]) (r := v0) (b := a_v0) B S rfl ha_v0 (by rfl) (c_M_isLetter hl9 G ad2 hq_w6) (hy_okr (by omega) (hy_oki hy_ok0)) tw_841 tw_9 tw_838 tw_840 sl_M_isLetter (by decide) rfl (Nat.le_of_ble_eq_true rfl) (Nat.le_of_ble_eq_true rfl) hf_ob9 hg_ob9 rfl hl.1 (Nat.le_of_ble_eq_true rfl) d_M_isWithin_12) (fun ad7 H locs cells slots hag hl_w6 S => ?_)
    have ha_v0 : ad7 v0 = a_v0 := (hag v0 (by omega)).trans ha_v0
    refine lv_if_eq (tgt := 22) hx hb d_M_isWithin_15 (by decide) (fun c10 => ?_) (fun c10 => ?_)
    · rw [if_pos c10] at h
      cases h
      exact hy_jump K S hy_ok0 (lv_sub hl [] rfl) (by rfl) (by rfl)
    · rw [if_neg c10] at h
      refine lv_iconst (v := 1) hx hb d_M_isWithin_18 (by decide) ?_
      refine lv_goto (tgt := 23) hx hb d_M_isWithin_19 (by decide) ?_
      cases h
      cases K
      exact hy_zret hA B S (by decide) d_M_isWithin_23
set_option maxHeartbeats 4000000 in
set_option maxRecDepth 100000 in
theorem sk_M_isWithin_22 {p : Program} {l : Launch} {e : Env} {s : State} {m : MethodId} {args : Array Value} {below : List Frame} {meth : Method} {c : Code} {G : hy_G} {A : Nat → Prop} {ad0 : Nat → Nat} {w0 : hy_W} {o : hy_O} (hl9 : l.flags = flags0) (hA : hy_A G ad0 w0 s.heap.size = A) (B : hy_B p l e (hy_rm 2 45 w0) s m args below meth c "HyphenPatternsModel" b_M_isWithin 2 (some .boolean) [] G A)  (w : hy_W) (nx : hy_N) (h : sg_M_isWithin_22  w = some nx) (K : hy_Nx lay_M_isWithin p l e (hy_rm 2 45 w0) s m args below meth c 2 G A ad0 w0.1.length (hy_Q below G ad0 w0 o args s) o nx) : hy_At lay_M_isWithin p l e (hy_rm 2 45 w0) s m args below meth c 2 G A ad0 w0.1.length (hy_Q below G ad0 w0 o args s) (22, [], w) := by
  intro ad H locs cells slots ls S hok hl
  have hx := B.1
  have hb := B.2.1
  dsimp only at S hok
  have hl : lv_has ls 2 [] := hl
  show W p l e (hy_rm 2 45 w0) s m args below meth c H locs cells slots (hy_Q below G ad0 w0 o args s) (F0 m 22 ls [])
  unfold sg_M_isWithin_22 at h
  refine lv_iconst (v := 0) hx hb d_M_isWithin_22 (by decide) ?_
  cases h
  cases K
  exact hy_zret hA B S (by decide) d_M_isWithin_23
theorem nk_M_isWithin {p : Program} {l : Launch} {e : Env} {s : State} {m : MethodId} {args : Array Value} {below : List Frame} {meth : Method} {c : Code} {G : hy_G} {A : Nat → Prop} {ad0 : Nat → Nat} {w0 : hy_W} {o : hy_O} (hl9 : l.flags = flags0) (hA : hy_A G ad0 w0 s.heap.size = A) (B : hy_B p l e (hy_rm 2 45 w0) s m args below meth c "HyphenPatternsModel" b_M_isWithin 2 (some .boolean) [] G A) (q : hy_P) (nx : hy_N) (hq : nx_M_isWithin q = some nx) (K : hy_Nx lay_M_isWithin p l e (hy_rm 2 45 w0) s m args below meth c 2 G A ad0 w0.1.length (hy_Q below G ad0 w0 o args s) o nx) : hy_At lay_M_isWithin p l e (hy_rm 2 45 w0) s m args below meth c 2 G A ad0 w0.1.length (hy_Q below G ad0 w0 o args s) q := by
  unfold nx_M_isWithin at hq
  split at hq
  · exact sk_M_isWithin_0 hl9 hA B _ _ _ nx hq K
  · exact sk_M_isWithin_22 hl9 hA B _ nx hq K
  · cases hq
theorem c_M_isWithin {l : Launch} (hl9 : l.flags = flags0) (G : hy_G) (ad : Nat → Nat) {v0 : Nat} {v1 : Int32} {w : hy_W} {o : hy_O} (h : f_M_isWithin [.ref v0, .int v1] w = some o) : hy_M l y_M_isWithin (Cond.code y_M_isWithin b_M_isWithin 2 (some .boolean) :: hy_T) 2 45 G ad [.ref v0, .int v1] w o := by
  obtain ⟨n, hn⟩ := hy_fx_iff.mp h
  refine hy_ofW hl9 (by decide +kernel) (Nat.le_of_ble_eq_true rfl) (fun p e s m args below meth c A hA hi B S hok ls hl => ?_)
  exact hy_loop (nk_M_isWithin hl9 hA B) n _ hn ad s.heap [] 0 0 ls S hok hl
