/-! BODIES (printed by our translator): N_append, H_tell, X_tell, D_start, D_takeLetter, D_takeValue, D_hasLetter, D_hasEdgeWithin, D_readPattern, H_patternsInAll, J_copyI, U_init -/
theorem d_N_append_0 : decode b_N_append 0 = .ok (.aload_n 0, 1) := by decide +kernel
theorem d_N_append_1 : decode b_N_append 1 = .ok (.iload_n 1, 1) := by decide +kernel
theorem d_N_append_2 : decode b_N_append 2 = .ok (.iload_n 2, 1) := by decide +kernel
theorem d_N_append_3 : decode b_N_append 3 = .ok (.iload_n 3, 1) := by decide +kernel
theorem d_N_append_4 : decode b_N_append 4 = .ok (.iload 4, 2) := by decide +kernel
theorem d_N_append_6 : decode b_N_append 6 = .ok (.iload 5, 2) := by decide +kernel
theorem d_N_append_8 : decode b_N_append 8 = .ok (.invokevirtual 25, 3) := by decide +kernel
theorem d_N_append_11 : decode b_N_append 11 = .ok (.istore 6, 2) := by decide +kernel
theorem d_N_append_13 : decode b_N_append 13 = .ok (.iconst 0, 1) := by decide +kernel
theorem d_N_append_14 : decode b_N_append 14 = .ok (.istore 7, 2) := by decide +kernel
theorem d_N_append_16 : decode b_N_append 16 = .ok (.iload 7, 2) := by decide +kernel
theorem d_N_append_18 : decode b_N_append 18 = .ok (.iload 6, 2) := by decide +kernel
theorem d_N_append_20 : decode b_N_append 20 = .ok (.if_icmp .ge 45, 3) := by decide +kernel
theorem d_N_append_23 : decode b_N_append 23 = .ok (.aload_n 0, 1) := by decide +kernel
theorem d_N_append_24 : decode b_N_append 24 = .ok (.getfield 9, 3) := by decide +kernel
theorem d_N_append_27 : decode b_N_append 27 = .ok (.iload 7, 2) := by decide +kernel
theorem d_N_append_29 : decode b_N_append 29 = .ok (.iaload, 1) := by decide +kernel
theorem d_N_append_30 : decode b_N_append 30 = .ok (.aload_n 0, 1) := by decide +kernel
theorem d_N_append_31 : decode b_N_append 31 = .ok (.getfield 22, 3) := by decide +kernel
theorem d_N_append_34 : decode b_N_append 34 = .ok (.if_icmp .lt 15, 3) := by decide +kernel
theorem d_N_append_37 : decode b_N_append 37 = .ok (.aload_n 0, 1) := by decide +kernel
theorem d_N_append_38 : decode b_N_append 38 = .ok (.getfield 9, 3) := by decide +kernel
theorem d_N_append_41 : decode b_N_append 41 = .ok (.iload 7, 2) := by decide +kernel
theorem d_N_append_43 : decode b_N_append 43 = .ok (.iaload, 1) := by decide +kernel
theorem d_N_append_44 : decode b_N_append 44 = .ok (.ldc 29, 2) := by decide +kernel
theorem d_N_append_46 : decode b_N_append 46 = .ok (.if_icmp .le 13, 3) := by decide +kernel
theorem d_N_append_49 : decode b_N_append 49 = .ok (.new 30, 3) := by decide +kernel
theorem d_N_append_52 : decode b_N_append 52 = .ok (.dup, 1) := by decide +kernel
theorem d_N_append_53 : decode b_N_append 53 = .ok (.ldc 32, 2) := by decide +kernel
theorem d_N_append_55 : decode b_N_append 55 = .ok (.invokespecial 34, 3) := by decide +kernel
theorem d_N_append_58 : decode b_N_append 58 = .ok (.athrow, 1) := by decide +kernel
theorem d_N_append_59 : decode b_N_append 59 = .ok (.iinc 7 1, 3) := by decide +kernel
theorem d_N_append_62 : decode b_N_append 62 = .ok (.goto (-46), 3) := by decide +kernel
theorem d_N_append_65 : decode b_N_append 65 = .ok (.iload 6, 2) := by decide +kernel
theorem d_N_append_67 : decode b_N_append 67 = .ok (.aload_n 0, 1) := by decide +kernel
theorem d_N_append_68 : decode b_N_append 68 = .ok (.getfield 19, 3) := by decide +kernel
theorem d_N_append_71 : decode b_N_append 71 = .ok (.arraylength, 1) := by decide +kernel
theorem d_N_append_72 : decode b_N_append 72 = .ok (.aload_n 0, 1) := by decide +kernel
theorem d_N_append_73 : decode b_N_append 73 = .ok (.getfield 15, 3) := by decide +kernel
theorem d_N_append_76 : decode b_N_append 76 = .ok (.isub, 1) := by decide +kernel
theorem d_N_append_77 : decode b_N_append 77 = .ok (.if_icmp .le 13, 3) := by decide +kernel
theorem d_N_append_80 : decode b_N_append 80 = .ok (.new 37, 3) := by decide +kernel
theorem d_N_append_83 : decode b_N_append 83 = .ok (.dup, 1) := by decide +kernel
theorem d_N_append_84 : decode b_N_append 84 = .ok (.ldc 39, 2) := by decide +kernel
theorem d_N_append_86 : decode b_N_append 86 = .ok (.invokespecial 41, 3) := by decide +kernel
theorem d_N_append_89 : decode b_N_append 89 = .ok (.athrow, 1) := by decide +kernel
theorem d_N_append_90 : decode b_N_append 90 = .ok (.aload_n 0, 1) := by decide +kernel
theorem d_N_append_91 : decode b_N_append 91 = .ok (.getfield 9, 3) := by decide +kernel
theorem d_N_append_94 : decode b_N_append 94 = .ok (.iconst 0, 1) := by decide +kernel
theorem d_N_append_95 : decode b_N_append 95 = .ok (.aload_n 0, 1) := by decide +kernel
theorem d_N_append_96 : decode b_N_append 96 = .ok (.getfield 19, 3) := by decide +kernel
theorem d_N_append_99 : decode b_N_append 99 = .ok (.aload_n 0, 1) := by decide +kernel
theorem d_N_append_100 : decode b_N_append 100 = .ok (.getfield 15, 3) := by decide +kernel
theorem d_N_append_103 : decode b_N_append 103 = .ok (.iload 6, 2) := by decide +kernel
theorem d_N_append_105 : decode b_N_append 105 = .ok (.invokestatic 42, 3) := by decide +kernel
theorem d_N_append_108 : decode b_N_append 108 = .ok (.aload_n 0, 1) := by decide +kernel
theorem d_N_append_109 : decode b_N_append 109 = .ok (.dup, 1) := by decide +kernel
theorem d_N_append_110 : decode b_N_append 110 = .ok (.getfield 15, 3) := by decide +kernel
theorem d_N_append_113 : decode b_N_append 113 = .ok (.iload 6, 2) := by decide +kernel
theorem d_N_append_115 : decode b_N_append 115 = .ok (.iadd, 1) := by decide +kernel
theorem d_N_append_116 : decode b_N_append 116 = .ok (.putfield 15, 3) := by decide +kernel
theorem d_N_append_119 : decode b_N_append 119 = .ok (.aload_n 0, 1) := by decide +kernel
theorem d_N_append_120 : decode b_N_append 120 = .ok (.getfield 15, 3) := by decide +kernel
theorem d_N_append_123 : decode b_N_append 123 = .ok (.ireturn, 1) := by decide +kernel
def lay_N_append (pc : Nat) : List Nat := if pc = 0 then [0, 1, 2, 3, 4, 5] else if pc = 16 then [0, 6, 7] else []
noncomputable def sg_N_append_0 (v0 : Nat) (v1 : Int32) (v2 : Int32) (v3 : Int32) (v4 : Int32) (v5 : Int32) (w : hy_W) : Option hy_N := if hy_ob w v0 2 = true then hy_bi (f_N_offer [.ref v0, .int v1, .int v2, .int v3, .int v4, .int v5] w) fun x3 w1 => some (.inl (16, [.ref v0, .int x3, .int 0], w1)) else none
noncomputable def sg_N_append_16 (v0 : Nat) (v6 : Int32) (v7 : Int32) (w : hy_W) : Option hy_N := if v6 ≤ v7 then ((hy_gr w v0 2 0).bind fun r2 => if r2 ≠ 1 then (hy_ln w 0 r2).bind fun n3 => (hy_gi w v0 2 3).bind fun x4 => if v6 ≤ ((nI n3) - x4) then ((hy_gr w v0 2 2).bind fun r6 => (hy_gr w v0 2 0).bind fun r7 => (hy_gi w v0 2 3).bind fun x8 => (hy_ac w 0 r6 r7 0 x8 v6).bind fun w9 => (hy_gi w9 v0 2 3).bind fun x10 => (hy_pf w9 v0 2 3 (.int (x10 + v6))).bind fun w11 => (hy_gi w11 v0 2 3).bind fun x12 => some (.inr (.inl (some (.int x12)), w11))) else ((hy_th w).bind fun w13 => some (.inr (.inr "java/lang/IllegalStateException", w13))) else none) else ((hy_gr w v0 2 2).bind fun r14 => (hy_ai w r14 v7).bind fun x15 => (hy_gi w v0 2 1).bind fun x16 => if x15 < x16 then ((hy_th w).bind fun w18 => some (.inr (.inr "java/lang/IllegalArgumentException", w18))) else ((hy_gr w v0 2 2).bind fun r19 => (hy_ai w r19 v7).bind fun x20 => if x20 ≤ 1114111 then (some (.inl (16, [.ref v0, .int v6, .int (v7 + 1)], w))) else ((hy_th w).bind fun w22 => some (.inr (.inr "java/lang/IllegalArgumentException", w22)))))
noncomputable def nx_N_append (q : hy_P) : Option hy_N := match q with
  | (0, [.ref v0, .int v1, .int v2, .int v3, .int v4, .int v5], w) => sg_N_append_0 v0 v1 v2 v3 v4 v5 w
  | (16, [.ref v0, .int v6, .int v7], w) => sg_N_append_16 v0 v6 v7 w
  | _ => none
noncomputable def f_N_append (av : List Value) (w : hy_W) : Option hy_O := hy_fx nx_N_append (0, av, w)
set_option maxHeartbeats 4000000 in
set_option maxRecDepth 100000 in
theorem sk_N_append_0 {p : Program} {l : Launch} {e : Env} {s : State} {m : MethodId} {args : Array Value} {below : List Frame} {meth : Method} {c : Code} {G : hy_G} {A : Nat → Prop} {ad0 : Nat → Nat} {w0 : hy_W} {o : hy_O} (hl9 : l.flags = flags0) (hA : hy_A G ad0 w0 s.heap.size = A) (B : hy_B p l e (hy_rm 6 82 w0) s m args below meth c "HyphenPatterns$Numbers" b_N_append 8 (some .int) [] G A) (v0 : Nat) (v1 : Int32) (v2 : Int32) (v3 : Int32) (v4 : Int32) (v5 : Int32) (w : hy_W) (nx : hy_N) (h : sg_N_append_0 v0 v1 v2 v3 v4 v5 w = some nx) (K : hy_Nx lay_N_append p l e (hy_rm 6 82 w0) s m args below meth c 8 G A ad0 w0.1.length (hy_Q below G ad0 w0 o args s) o nx) : hy_At lay_N_append p l e (hy_rm 6 82 w0) s m args below meth c 8 G A ad0 w0.1.length (hy_Q below G ad0 w0 o args s) (0, [.ref v0, .int v1, .int v2, .int v3, .int v4, .int v5], w) := by
  intro ad H locs cells slots ls S hok hl
  have hx := B.1
  have hb := B.2.1
  dsimp only at S hok
  have hl : lv_has ls 8 [(0, .ref (ad v0)), (1, .int v1), (2, .int v2), (3, .int v3), (4, .int v4), (5, .int v5)] := hl
  show W p l e (hy_rm 6 82 w0) s m args below meth c H locs cells slots (hy_Q below G ad0 w0 o args s) (F0 m 0 ls [])
  have hv_v0 : v0 < w.1.length := hok (.ref v0) (List.mem_of_getElem? (i := 0) rfl) v0 rfl
  obtain ⟨a_v0, ha_v0⟩ : ∃ a, ad v0 = a := ⟨_, rfl⟩
  rw [ha_v0] at hl
  unfold sg_N_append_0 at h
  refine lv_aload_n hx hb d_N_append_0 rfl (lv_at hl 0 rfl) ?_
  refine lv_iload_n hx hb d_N_append_1 rfl (lv_at hl 1 rfl) ?_
  refine lv_iload_n hx hb d_N_append_2 rfl (lv_at hl 2 rfl) ?_
  refine lv_iload_n hx hb d_N_append_3 rfl (lv_at hl 3 rfl) ?_
  refine lv_iload hx hb d_N_append_4 (lv_at hl 4 rfl) ?_
  refine lv_iload hx hb d_N_append_6 (lv_at hl 5 rfl) ?_
  obtain ⟨ob4, h⟩ := hy_if h
  obtain ⟨fs_ob4, hf_ob4, hg_ob4⟩ := hy_ob_spec ob4
  obtain ⟨x3, w1, hq_w1, h⟩ := hy_bi_spec h
  refine hy_calli (hy_runV (rest := []) (As := [.int v1, .int v2, .int v3, .int v4, .int v5]) (r := v0) (b := a_v0) B S rfl ha_v0 (by rfl) (c_N_offer hl9 G ad hq_w1) (hy_okr (by omega) (hy_oki (hy_oki (hy_oki (hy_oki (hy_oki hy_ok0)))))) tw_455 tw_2 tw_452 tw_454 sl_N_offer (by decide) rfl (Nat.le_of_ble_eq_true rfl) (Nat.le_of_ble_eq_true rfl) hf_ob4 hg_ob4 rfl hl.1 (Nat.le_of_ble_eq_true rfl) d_N_append_8) (fun ad2 H locs cells slots hag hl_w1 S => ?_)
  have ha_v0 : ad2 v0 = a_v0 := (hag v0 (by omega)).trans ha_v0
  refine lv_istore (lv' := [(6, .int x3), (0, .ref a_v0), (1, .int v1), (2, .int v2), (3, .int v3), (4, .int v4), (5, .int v5)]) hx hb d_N_append_11 hl (Nat.le_of_ble_eq_true rfl) rfl (fun ls hl => ?_)
  refine lv_iconst (v := 0) hx hb d_N_append_13 (by decide) ?_
  refine lv_istore (lv' := [(7, .int 0), (6, .int x3), (0, .ref a_v0), (1, .int v1), (2, .int v2), (3, .int v3), (4, .int v4), (5, .int v5)]) hx hb d_N_append_14 hl (Nat.le_of_ble_eq_true rfl) rfl (fun ls hl => ?_)
  cases h
  exact hy_jump K S (hy_okr (by omega) (hy_oki (hy_oki hy_ok0))) (lv_sub hl [2, 1, 0] rfl) (by subst ha_v0; rfl) (by subst ha_v0; rfl)
set_option maxHeartbeats 4000000 in
set_option maxRecDepth 100000 in
theorem sk_N_append_16 {p : Program} {l : Launch} {e : Env} {s : State} {m : MethodId} {args : Array Value} {below : List Frame} {meth : Method} {c : Code} {G : hy_G} {A : Nat → Prop} {ad0 : Nat → Nat} {w0 : hy_W} {o : hy_O} (hl9 : l.flags = flags0) (hA : hy_A G ad0 w0 s.heap.size = A) (B : hy_B p l e (hy_rm 6 82 w0) s m args below meth c "HyphenPatterns$Numbers" b_N_append 8 (some .int) [] G A) (v0 : Nat) (v6 : Int32) (v7 : Int32) (w : hy_W) (nx : hy_N) (h : sg_N_append_16 v0 v6 v7 w = some nx) (K : hy_Nx lay_N_append p l e (hy_rm 6 82 w0) s m args below meth c 8 G A ad0 w0.1.length (hy_Q below G ad0 w0 o args s) o nx) : hy_At lay_N_append p l e (hy_rm 6 82 w0) s m args below meth c 8 G A ad0 w0.1.length (hy_Q below G ad0 w0 o args s) (16, [.ref v0, .int v6, .int v7], w) := by
  intro ad H locs cells slots ls S hok hl
  have hx := B.1
  have hb := B.2.1
  dsimp only at S hok
  have hl : lv_has ls 8 [(0, .ref (ad v0)), (6, .int v6), (7, .int v7)] := hl
  show W p l e (hy_rm 6 82 w0) s m args below meth c H locs cells slots (hy_Q below G ad0 w0 o args s) (F0 m 16 ls [])
  have hv_v0 : v0 < w.1.length := hok (.ref v0) (List.mem_of_getElem? (i := 0) rfl) v0 rfl
  obtain ⟨a_v0, ha_v0⟩ : ∃ a, ad v0 = a := ⟨_, rfl⟩
  rw [ha_v0] at hl
  unfold sg_N_append_16 at h
  refine lv_iload hx hb d_N_append_16 (lv_at hl 2 rfl) ?_
  refine lv_iload hx hb d_N_append_18 (lv_at hl 1 rfl) ?_
  refine lv_icmp_ge (tgt := 65) hx hb d_N_append_20 (by decide) (fun c1 => ?_) (fun c1 => ?_)
  · rw [if_pos c1] at h
    refine lv_iload hx hb d_N_append_65 (lv_at hl 1 rfl) ?_
    refine lv_aload_n hx hb d_N_append_67 rfl (lv_at hl 0 rfl) ?_
    obtain ⟨r2, hr2, h⟩ := hy_bd h
    refine hy_getr B S ha_v0 hr2 rfl (Nat.le_of_ble_eq_true rfl) i_2 (j := 0) tw_39 (fun _ h => h) d_N_append_68 (fun a_r2 ha_r2 hv_r2 => ?_)
    obtain ⟨h1n3, h⟩ := hy_if h
    obtain ⟨n3, hn3, h⟩ := hy_bd h
    refine hy_alen B S ha_r2 (t := 0) (Nat.le_of_ble_eq_true rfl) hn3 h1n3 d_N_append_71 ?_
    refine lv_aload_n hx hb d_N_append_72 rfl (lv_at hl 0 rfl) ?_
    obtain ⟨x4, hx4, h⟩ := hy_bd h
    refine hy_geti B S ha_v0 hx4 rfl (Nat.le_of_ble_eq_true rfl) i_2 (j := 3) tw_44 (fun _ h => h) d_N_append_73 ?_
    refine lv_isub hx hb d_N_append_76 ?_
    refine lv_icmp_le (tgt := 90) hx hb d_N_append_77 (by decide) (fun c5 => ?_) (fun c5 => ?_)
    · rw [if_pos c5] at h
      refine lv_aload_n hx hb d_N_append_90 rfl (lv_at hl 0 rfl) ?_
      obtain ⟨r6, hr6, h⟩ := hy_bd h
      refine hy_getr B S ha_v0 hr6 rfl (Nat.le_of_ble_eq_true rfl) i_2 (j := 2) tw_43 (fun _ h => h) d_N_append_91 (fun a_r6 ha_r6 hv_r6 => ?_)
      refine lv_iconst (v := 0) hx hb d_N_append_94 (by decide) ?_
      refine lv_aload_n hx hb d_N_append_95 rfl (lv_at hl 0 rfl) ?_
      obtain ⟨r7, hr7, h⟩ := hy_bd h
      refine hy_getr B S ha_v0 hr7 rfl (Nat.le_of_ble_eq_true rfl) i_2 (j := 0) tw_39 (fun _ h => h) d_N_append_96 (fun a_r7 ha_r7 hv_r7 => ?_)
      refine lv_aload_n hx hb d_N_append_99 rfl (lv_at hl 0 rfl) ?_
      obtain ⟨x8, hx8, h⟩ := hy_bd h
      refine hy_geti B S ha_v0 hx8 rfl (Nat.le_of_ble_eq_true rfl) i_2 (j := 3) tw_44 (fun _ h => h) d_N_append_100 ?_
      refine lv_iload hx hb d_N_append_103 (lv_at hl 1 rfl) ?_
      obtain ⟨w9, hw9, h⟩ := hy_bd h
      refine hy_copyi B S ha_r6 ha_r7 hw9 tw_463 tw_465 tw_464 tw_16 hl.1 (Nat.le_of_ble_eq_true rfl) (Nat.le_of_ble_eq_true rfl) d_N_append_105 (fun H locs S hl_w9 => ?_)
      refine lv_aload_n hx hb d_N_append_108 rfl (lv_at hl 0 rfl) ?_
      refine lv_dup hx hb d_N_append_109 rfl ?_
      obtain ⟨x10, hx10, h⟩ := hy_bd h
      refine hy_geti B S ha_v0 hx10 rfl (Nat.le_of_ble_eq_true rfl) i_2 (j := 3) tw_44 (fun _ h => h) d_N_append_110 ?_
      refine lv_iload hx hb d_N_append_113 (lv_at hl 1 rfl) ?_
      refine lv_iadd hx hb d_N_append_115 ?_
      obtain ⟨w11, hw11, h⟩ := hy_bd h
      refine hy_put B S ha_v0 rfl hy_cvi hw11 rfl (Nat.le_of_ble_eq_true rfl) i_2 t_2 t_2_ok n_2 (j := 3) tw_44 (fun _ h => h) rfl rfl rfl d_N_append_116 (fun H locs S hl_w11 => ?_)
      refine lv_aload_n hx hb d_N_append_119 rfl (lv_at hl 0 rfl) ?_
      obtain ⟨x12, hx12, h⟩ := hy_bd h
      refine hy_geti B S ha_v0 hx12 rfl (Nat.le_of_ble_eq_true rfl) i_2 (j := 3) tw_44 (fun _ h => h) d_N_append_120 ?_
      cases h
      cases K
      exact hy_iret hA B S d_N_append_123
    · rw [if_neg c5] at h
      obtain ⟨w13, hw13, h⟩ := hy_bd h
      cases h
      cases K
      exact hy_throw (text := "there is no room for so many") (names := ["java/lang/RuntimeException", "java/lang/Exception"]) hA B S hw13 (by decide +kernel) (by decide +kernel) tw_460 tw_15 (by decide +kernel) at_N_IS hl.1 d_N_append_80 d_N_append_83 d_N_append_84 d_N_append_86 d_N_append_89 (Nat.le_of_ble_eq_true rfl) (Nat.le_of_ble_eq_true rfl)
  · rw [if_neg c1] at h
    refine lv_aload_n hx hb d_N_append_23 rfl (lv_at hl 0 rfl) ?_
    obtain ⟨r14, hr14, h⟩ := hy_bd h
    refine hy_getr B S ha_v0 hr14 rfl (Nat.le_of_ble_eq_true rfl) i_2 (j := 2) tw_43 (fun _ h => h) d_N_append_24 (fun a_r14 ha_r14 hv_r14 => ?_)
    refine lv_iload hx hb d_N_append_27 (lv_at hl 2 rfl) ?_
    obtain ⟨x15, hx15, h⟩ := hy_bd h
    refine hy_iald B S ha_r14 hx15 d_N_append_29 ?_
    refine lv_aload_n hx hb d_N_append_30 rfl (lv_at hl 0 rfl) ?_
    obtain ⟨x16, hx16, h⟩ := hy_bd h
    refine hy_geti B S ha_v0 hx16 rfl (Nat.le_of_ble_eq_true rfl) i_2 (j := 1) tw_42 (fun _ h => h) d_N_append_31 ?_
    refine lv_icmp_lt (tgt := 49) hx hb d_N_append_34 (by decide) (fun c17 => ?_) (fun c17 => ?_)
    · rw [if_pos c17] at h
      obtain ⟨w18, hw18, h⟩ := hy_bd h
      cases h
      cases K
      exact hy_throw (text := "one of the numbers can't stand here") (names := ["java/lang/RuntimeException", "java/lang/Exception"]) hA B S hw18 (by decide +kernel) (by decide +kernel) tw_457 tw_14 (by decide +kernel) at_N_IA hl.1 d_N_append_49 d_N_append_52 d_N_append_53 d_N_append_55 d_N_append_58 (Nat.le_of_ble_eq_true rfl) (Nat.le_of_ble_eq_true rfl)
    · rw [if_neg c17] at h
      refine lv_aload_n hx hb d_N_append_37 rfl (lv_at hl 0 rfl) ?_
      obtain ⟨r19, hr19, h⟩ := hy_bd h
      refine hy_getr B S ha_v0 hr19 rfl (Nat.le_of_ble_eq_true rfl) i_2 (j := 2) tw_43 (fun _ h => h) d_N_append_38 (fun a_r19 ha_r19 hv_r19 => ?_)
      refine lv_iload hx hb d_N_append_41 (lv_at hl 2 rfl) ?_
      obtain ⟨x20, hx20, h⟩ := hy_bd h
      refine hy_iald B S ha_r19 hx20 d_N_append_43 ?_
      refine lv_ldc (v := 1114111) hx hb B.2.2.2.1 (B.2.2.2.2.1 _ tw_456) d_N_append_44 ?_
      refine lv_icmp_le (tgt := 59) hx hb d_N_append_46 (by decide) (fun c21 => ?_) (fun c21 => ?_)
      · rw [if_pos c21] at h
        refine lv_iinc (v := (v7 + 1)) (lv' := [(7, .int (v7 + 1)), (0, .ref a_v0), (6, .int v6)]) hx hb d_N_append_59 hl (k := 2) rfl rfl (Nat.le_of_ble_eq_true rfl) rfl (fun ls hl => ?_)
        refine lv_goto (tgt := 16) hx hb d_N_append_62 (by decide) ?_
        cases h
        exact hy_jump K S (hy_okr (by omega) (hy_oki (hy_oki hy_ok0))) (lv_sub hl [1, 2, 0] rfl) (by subst ha_v0; rfl) (by subst ha_v0; rfl)
      · rw [if_neg c21] at h
        obtain ⟨w22, hw22, h⟩ := hy_bd h
        cases h
        cases K
        exact hy_throw (text := "one of the numbers can't stand here") (names := ["java/lang/RuntimeException", "java/lang/Exception"]) hA B S hw22 (by decide +kernel) (by decide +kernel) tw_457 tw_14 (by decide +kernel) at_N_IA hl.1 d_N_append_49 d_N_append_52 d_N_append_53 d_N_append_55 d_N_append_58 (Nat.le_of_ble_eq_true rfl) (Nat.le_of_ble_eq_true rfl)
theorem nk_N_append {p : Program} {l : Launch} {e : Env} {s : State} {m : MethodId} {args : Array Value} {below : List Frame} {meth : Method} {c : Code} {G : hy_G} {A : Nat → Prop} {ad0 : Nat → Nat} {w0 : hy_W} {o : hy_O} (hl9 : l.flags = flags0) (hA : hy_A G ad0 w0 s.heap.size = A) (B : hy_B p l e (hy_rm 6 82 w0) s m args below meth c "HyphenPatterns$Numbers" b_N_append 8 (some .int) [] G A) (q : hy_P) (nx : hy_N) (hq : nx_N_append q = some nx) (K : hy_Nx lay_N_append p l e (hy_rm 6 82 w0) s m args below meth c 8 G A ad0 w0.1.length (hy_Q below G ad0 w0 o args s) o nx) : hy_At lay_N_append p l e (hy_rm 6 82 w0) s m args below meth c 8 G A ad0 w0.1.length (hy_Q below G ad0 w0 o args s) q := by
  unfold nx_N_append at hq
  split at hq
  · exact sk_N_append_0 hl9 hA B _ _ _ _ _ _ _ nx hq K
  · exact sk_N_append_16 hl9 hA B _ _ _ _ nx hq K
  · cases hq
theorem c_N_append {l : Launch} (hl9 : l.flags = flags0) (G : hy_G) (ad : Nat → Nat) {v0 : Nat} {v1 : Int32} {v2 : Int32} {v3 : Int32} {v4 : Int32} {v5 : Int32} {w : hy_W} {o : hy_O} (h : f_N_append [.ref v0, .int v1, .int v2, .int v3, .int v4, .int v5] w = some o) : hy_M l y_N_append (Cond.code y_N_append b_N_append 8 (some .int) :: hy_T) 6 82 G ad [.ref v0, .int v1, .int v2, .int v3, .int v4, .int v5] w o := by
  obtain ⟨n, hn⟩ := hy_fx_iff.mp h
  refine hy_ofW hl9 (by decide +kernel) (Nat.le_of_ble_eq_true rfl) (fun p e s m args below meth c A hA hi B S hok ls hl => ?_)
  exact hy_loop (nk_N_append hl9 hA B) n _ hn ad s.heap [] 0 0 ls S hok hl
theorem d_H_tell_0 : decode b_H_tell 0 = .ok (.aload_n 0, 1) := by decide +kernel
theorem d_H_tell_1 : decode b_H_tell 1 = .ok (.getfield 20, 3) := by decide +kernel
theorem d_H_tell_4 : decode b_H_tell 4 = .ok (.iload_n 1, 1) := by decide +kernel
theorem d_H_tell_5 : decode b_H_tell 5 = .ok (.iload_n 2, 1) := by decide +kernel
theorem d_H_tell_6 : decode b_H_tell 6 = .ok (.iload_n 3, 1) := by decide +kernel
theorem d_H_tell_7 : decode b_H_tell 7 = .ok (.iload 4, 2) := by decide +kernel
theorem d_H_tell_9 : decode b_H_tell 9 = .ok (.iload 5, 2) := by decide +kernel
theorem d_H_tell_11 : decode b_H_tell 11 = .ok (.invokevirtual 85, 3) := by decide +kernel
theorem d_H_tell_14 : decode b_H_tell 14 = .ok (.ireturn, 1) := by decide +kernel
def lay_H_tell (pc : Nat) : List Nat := if pc = 0 then [0, 1, 2, 3, 4, 5] else []
noncomputable def sg_H_tell_0 (v0 : Nat) (v1 : Int32) (v2 : Int32) (v3 : Int32) (v4 : Int32) (v5 : Int32) (w : hy_W) : Option hy_N := (hy_gr w v0 5 1).bind fun r1 => if hy_ob w r1 2 = true then hy_xi (f_N_append [.ref r1, .int v1, .int v2, .int v3, .int v4, .int v5] w) (fun x4 w2 => some (.inr (.inl (some (.int x4)), w2))) (fun E6 w7 => some (.inr (.inr E6, w7))) else none
noncomputable def nx_H_tell (q : hy_P) : Option hy_N := match q with
  | (0, [.ref v0, .int v1, .int v2, .int v3, .int v4, .int v5], w) => sg_H_tell_0 v0 v1 v2 v3 v4 v5 w
  | _ => none
noncomputable def f_H_tell (av : List Value) (w : hy_W) : Option hy_O := hy_fx nx_H_tell (0, av, w)
set_option maxHeartbeats 4000000 in
set_option maxRecDepth 100000 in
theorem sk_H_tell_0 {p : Program} {l : Launch} {e : Env} {s : State} {m : MethodId} {args : Array Value} {below : List Frame} {meth : Method} {c : Code} {G : hy_G} {A : Nat → Prop} {ad0 : Nat → Nat} {w0 : hy_W} {o : hy_O} (hl9 : l.flags = flags0) (hA : hy_A G ad0 w0 s.heap.size = A) (B : hy_B p l e (hy_rm 7 109 w0) s m args below meth c "HyphenPatterns" b_H_tell 6 (some .int) [] G A) (v0 : Nat) (v1 : Int32) (v2 : Int32) (v3 : Int32) (v4 : Int32) (v5 : Int32) (w : hy_W) (nx : hy_N) (h : sg_H_tell_0 v0 v1 v2 v3 v4 v5 w = some nx) (K : hy_Nx lay_H_tell p l e (hy_rm 7 109 w0) s m args below meth c 6 G A ad0 w0.1.length (hy_Q below G ad0 w0 o args s) o nx) : hy_At lay_H_tell p l e (hy_rm 7 109 w0) s m args below meth c 6 G A ad0 w0.1.length (hy_Q below G ad0 w0 o args s) (0, [.ref v0, .int v1, .int v2, .int v3, .int v4, .int v5], w) := by
  intro ad H locs cells slots ls S hok hl
  have hx := B.1
  have hb := B.2.1
  dsimp only at S hok
  have hl : lv_has ls 6 [(0, .ref (ad v0)), (1, .int v1), (2, .int v2), (3, .int v3), (4, .int v4), (5, .int v5)] := hl
  show W p l e (hy_rm 7 109 w0) s m args below meth c H locs cells slots (hy_Q below G ad0 w0 o args s) (F0 m 0 ls [])
  have hv_v0 : v0 < w.1.length := hok (.ref v0) (List.mem_of_getElem? (i := 0) rfl) v0 rfl
  obtain ⟨a_v0, ha_v0⟩ : ∃ a, ad v0 = a := ⟨_, rfl⟩
  rw [ha_v0] at hl
  unfold sg_H_tell_0 at h
  refine lv_aload_n hx hb d_H_tell_0 rfl (lv_at hl 0 rfl) ?_
  obtain ⟨r1, hr1, h⟩ := hy_bd h
  refine hy_getr B S ha_v0 hr1 rfl (Nat.le_of_ble_eq_true rfl) i_5 (j := 1) tw_164 (fun _ h => h) d_H_tell_1 (fun a_r1 ha_r1 hv_r1 => ?_)
  refine lv_iload_n hx hb d_H_tell_4 rfl (lv_at hl 1 rfl) ?_
  refine lv_iload_n hx hb d_H_tell_5 rfl (lv_at hl 2 rfl) ?_
  refine lv_iload_n hx hb d_H_tell_6 rfl (lv_at hl 3 rfl) ?_
  refine lv_iload hx hb d_H_tell_7 (lv_at hl 4 rfl) ?_
  refine lv_iload hx hb d_H_tell_9 (lv_at hl 5 rfl) ?_
  obtain ⟨ob5, h⟩ := hy_if h
  obtain ⟨fs_ob5, hf_ob5, hg_ob5⟩ := hy_ob_spec ob5
  rcases hy_xi_spec h with ⟨x4, w2, hq_w2, h⟩ | ⟨E6, w7, hq_w7, h⟩
  · refine hy_calli (hy_runV (rest := []) (As := [.int v1, .int v2, .int v3, .int v4, .int v5]) (r := r1) (b := a_r1) B S rfl ha_r1 (by rfl) (c_N_append hl9 G ad hq_w2) (hy_okr (by omega) (hy_oki (hy_oki (hy_oki (hy_oki (hy_oki hy_ok0)))))) tw_451 tw_2 tw_448 tw_449 sl_N_append (by decide) rfl (Nat.le_of_ble_eq_true rfl) (Nat.le_of_ble_eq_true rfl) hf_ob5 hg_ob5 rfl hl.1 (Nat.le_of_ble_eq_true rfl) d_H_tell_11) (fun ad3 H locs cells slots hag hl_w2 S => ?_)
    have ha_v0 : ad3 v0 = a_v0 := (hag v0 (by omega)).trans ha_v0
    cases h
    cases K
    exact hy_iret hA B S d_H_tell_14
  · cases h
    cases K
    refine hy_callT (rest := []) (As := [.int v1, .int v2, .int v3, .int v4, .int v5]) (r := r1) (b := a_r1) B S rfl ha_r1 (by rfl) (c_N_append hl9 G ad hq_w7) (hy_okr (by omega) (hy_oki (hy_oki (hy_oki (hy_oki (hy_oki hy_ok0)))))) tw_451 tw_2 tw_448 tw_449 sl_N_append (by decide) rfl (Nat.le_of_ble_eq_true rfl) (Nat.le_of_ble_eq_true rfl) hf_ob5 hg_ob5 rfl hl.1 (Nat.le_of_ble_eq_true rfl) d_H_tell_11 (fun ad8 H locs cells slots q9 ce10 hag hl_w7 S z1 z2 z3 => ?_)
    exact hy_out hA B S z1 z2 z3
theorem nk_H_tell {p : Program} {l : Launch} {e : Env} {s : State} {m : MethodId} {args : Array Value} {below : List Frame} {meth : Method} {c : Code} {G : hy_G} {A : Nat → Prop} {ad0 : Nat → Nat} {w0 : hy_W} {o : hy_O} (hl9 : l.flags = flags0) (hA : hy_A G ad0 w0 s.heap.size = A) (B : hy_B p l e (hy_rm 7 109 w0) s m args below meth c "HyphenPatterns" b_H_tell 6 (some .int) [] G A) (q : hy_P) (nx : hy_N) (hq : nx_H_tell q = some nx) (K : hy_Nx lay_H_tell p l e (hy_rm 7 109 w0) s m args below meth c 6 G A ad0 w0.1.length (hy_Q below G ad0 w0 o args s) o nx) : hy_At lay_H_tell p l e (hy_rm 7 109 w0) s m args below meth c 6 G A ad0 w0.1.length (hy_Q below G ad0 w0 o args s) q := by
  unfold nx_H_tell at hq
  split at hq
  · exact sk_H_tell_0 hl9 hA B _ _ _ _ _ _ _ nx hq K
  · cases hq
theorem c_H_tell {l : Launch} (hl9 : l.flags = flags0) (G : hy_G) (ad : Nat → Nat) {v0 : Nat} {v1 : Int32} {v2 : Int32} {v3 : Int32} {v4 : Int32} {v5 : Int32} {w : hy_W} {o : hy_O} (h : f_H_tell [.ref v0, .int v1, .int v2, .int v3, .int v4, .int v5] w = some o) : hy_M l y_H_tell (Cond.code y_H_tell b_H_tell 6 (some .int) :: hy_T) 7 109 G ad [.ref v0, .int v1, .int v2, .int v3, .int v4, .int v5] w o := by
  obtain ⟨n, hn⟩ := hy_fx_iff.mp h
  refine hy_ofW hl9 (by decide +kernel) (Nat.le_of_ble_eq_true rfl) (fun p e s m args below meth c A hA hi B S hok ls hl => ?_)
  exact hy_loop (nk_H_tell hl9 hA B) n _ hn ad s.heap [] 0 0 ls S hok hl
theorem d_X_tell_0 : decode b_X_tell 0 = .ok (.aload 6, 2) := by decide +kernel
theorem d_X_tell_2 : decode b_X_tell 2 = .ok (.iconst 0, 1) := by decide +kernel
theorem d_X_tell_3 : decode b_X_tell 3 = .ok (.aload_n 0, 1) := by decide +kernel
theorem d_X_tell_4 : decode b_X_tell 4 = .ok (.iload_n 1, 1) := by decide +kernel
theorem d_X_tell_5 : decode b_X_tell 5 = .ok (.iload_n 2, 1) := by decide +kernel
theorem d_X_tell_6 : decode b_X_tell 6 = .ok (.iload_n 3, 1) := by decide +kernel
theorem d_X_tell_7 : decode b_X_tell 7 = .ok (.iload 4, 2) := by decide +kernel
theorem d_X_tell_9 : decode b_X_tell 9 = .ok (.iload 5, 2) := by decide +kernel
theorem d_X_tell_11 : decode b_X_tell 11 = .ok (.invokevirtual 27, 3) := by decide +kernel
theorem d_X_tell_14 : decode b_X_tell 14 = .ok (.i2l, 1) := by decide +kernel
theorem d_X_tell_15 : decode b_X_tell 15 = .ok (.lastore, 1) := by decide +kernel
theorem d_X_tell_16 : decode b_X_tell 16 = .ok (.goto 11, 3) := by decide +kernel
theorem d_X_tell_19 : decode b_X_tell 19 = .ok (.astore 7, 2) := by decide +kernel
theorem d_X_tell_21 : decode b_X_tell 21 = .ok (.iconst 1, 1) := by decide +kernel
theorem d_X_tell_22 : decode b_X_tell 22 = .ok (.ireturn, 1) := by decide +kernel
theorem d_X_tell_23 : decode b_X_tell 23 = .ok (.astore 7, 2) := by decide +kernel
theorem d_X_tell_25 : decode b_X_tell 25 = .ok (.iconst 2, 1) := by decide +kernel
theorem d_X_tell_26 : decode b_X_tell 26 = .ok (.ireturn, 1) := by decide +kernel
theorem d_X_tell_27 : decode b_X_tell 27 = .ok (.iconst 0, 1) := by decide +kernel
theorem d_X_tell_28 : decode b_X_tell 28 = .ok (.ireturn, 1) := by decide +kernel
def lay_X_tell (pc : Nat) : List Nat := if pc = 0 then [0, 1, 2, 3, 4, 5, 6] else []
noncomputable def sg_X_tell_0 (v0 : Nat) (v1 : Int32) (v2 : Int32) (v3 : Int32) (v4 : Int32) (v5 : Int32) (v6 : Nat) (w : hy_W) : Option hy_N := if hy_ob w v0 5 = true then hy_xi (f_H_tell [.ref v0, .int v1, .int v2, .int v3, .int v4, .int v5] w) (fun x3 w1 => (hy_pa w1 1 v6 0 (.long ((x3 : Int32).toInt64))).bind fun w5 => some (.inr (.inl (some (.int 0)), w5))) (fun E6 w7 => if E6 = "java/lang/IllegalArgumentException" then (some (.inr (.inl (some (.int 1)), w7))) else (if E6 = "java/lang/IllegalStateException" then (some (.inr (.inl (some (.int 2)), w7))) else none)) else none
noncomputable def nx_X_tell (q : hy_P) : Option hy_N := match q with
  | (0, [.ref v0, .int v1, .int v2, .int v3, .int v4, .int v5, .ref v6], w) => sg_X_tell_0 v0 v1 v2 v3 v4 v5 v6 w
  | _ => none
noncomputable def f_X_tell (av : List Value) (w : hy_W) : Option hy_O := hy_fx nx_X_tell (0, av, w)
set_option maxHeartbeats 4000000 in
set_option maxRecDepth 100000 in
theorem sk_X_tell_0 {p : Program} {l : Launch} {e : Env} {s : State} {m : MethodId} {args : Array Value} {below : List Frame} {meth : Method} {c : Code} {G : hy_G} {A : Nat → Prop} {ad0 : Nat → Nat} {w0 : hy_W} {o : hy_O} (hl9 : l.flags = flags0) (hA : hy_A G ad0 w0 s.heap.size = A) (B : hy_B p l e (hy_rm 8 134 w0) s m args below meth c "HyphenPatternsLaw" b_X_tell 8 (some .int) [(0, 16, 19, 19), (0, 16, 23, 21)] G A) (v0 : Nat) (v1 : Int32) (v2 : Int32) (v3 : Int32) (v4 : Int32) (v5 : Int32) (v6 : Nat) (w : hy_W) (nx : hy_N) (h : sg_X_tell_0 v0 v1 v2 v3 v4 v5 v6 w = some nx) (K : hy_Nx lay_X_tell p l e (hy_rm 8 134 w0) s m args below meth c 8 G A ad0 w0.1.length (hy_Q below G ad0 w0 o args s) o nx) : hy_At lay_X_tell p l e (hy_rm 8 134 w0) s m args below meth c 8 G A ad0 w0.1.length (hy_Q below G ad0 w0 o args s) (0, [.ref v0, .int v1, .int v2, .int v3, .int v4, .int v5, .ref v6], w) := by
  intro ad H locs cells slots ls S hok hl
  have hx := B.1
  have hb := B.2.1
  dsimp only at S hok
  have hl : lv_has ls 8 [(0, .ref (ad v0)), (1, .int v1), (2, .int v2), (3, .int v3), (4, .int v4), (5, .int v5), (6, .ref (ad v6))] := hl
  show W p l e (hy_rm 8 134 w0) s m args below meth c H locs cells slots (hy_Q below G ad0 w0 o args s) (F0 m 0 ls [])
  have hv_v0 : v0 < w.1.length := hok (.ref v0) (List.mem_of_getElem? (i := 0) rfl) v0 rfl
  obtain ⟨a_v0, ha_v0⟩ : ∃ a, ad v0 = a := ⟨_, rfl⟩
  rw [ha_v0] at hl
  have hv_v6 : v6 < w.1.length := hok (.ref v6) (List.mem_of_getElem? (i := 6) rfl) v6 rfl
  obtain ⟨a_v6, ha_v6⟩ : ∃ a, ad v6 = a := ⟨_, rfl⟩
  rw [ha_v6] at hl
  unfold sg_X_tell_0 at h
  refine lv_aload hx hb d_X_tell_0 (lv_at hl 6 rfl) ?_
  refine lv_iconst (v := 0) hx hb d_X_tell_2 (by decide) ?_
  refine lv_aload_n hx hb d_X_tell_3 rfl (lv_at hl 0 rfl) ?_
  refine lv_iload_n hx hb d_X_tell_4 rfl (lv_at hl 1 rfl) ?_
  refine lv_iload_n hx hb d_X_tell_5 rfl (lv_at hl 2 rfl) ?_
  refine lv_iload_n hx hb d_X_tell_6 rfl (lv_at hl 3 rfl) ?_
  refine lv_iload hx hb d_X_tell_7 (lv_at hl 4 rfl) ?_
  refine lv_iload hx hb d_X_tell_9 (lv_at hl 5 rfl) ?_
  obtain ⟨ob4, h⟩ := hy_if h
  obtain ⟨fs_ob4, hf_ob4, hg_ob4⟩ := hy_ob_spec ob4
  rcases hy_xi_spec h with ⟨x3, w1, hq_w1, h⟩ | ⟨E6, w7, hq_w7, h⟩
  · refine hy_calli (hy_runV (rest := [.int 0, .ref a_v6]) (As := [.int v1, .int v2, .int v3, .int v4, .int v5]) (r := v0) (b := a_v0) B S rfl ha_v0 (by rfl) (c_H_tell hl9 G ad hq_w1) (hy_okr (by omega) (hy_oki (hy_oki (hy_oki (hy_oki (hy_oki hy_ok0)))))) tw_447 tw_1 tw_444 tw_445 sl_H_tell (by decide) rfl (Nat.le_of_ble_eq_true rfl) (Nat.le_of_ble_eq_true rfl) hf_ob4 hg_ob4 rfl hl.1 (Nat.le_of_ble_eq_true rfl) d_X_tell_11) (fun ad2 H locs cells slots hag hl_w1 S => ?_)
    have ha_v0 : ad2 v0 = a_v0 := (hag v0 (by omega)).trans ha_v0
    have ha_v6 : ad2 v6 = a_v6 := (hag v6 (by omega)).trans ha_v6
    refine lv_i2l (v := (x3 : Int32).toInt64) hx hb d_X_tell_14 rfl ?_
    obtain ⟨w5, hw5, h⟩ := hy_bd h
    refine hy_last B S ha_v6 hw5 d_X_tell_15 (fun H locs S hl_w5 => ?_)
    refine lv_goto (tgt := 27) hx hb d_X_tell_16 (by decide) ?_
    refine lv_iconst (v := 0) hx hb d_X_tell_27 (by decide) ?_
    cases h
    cases K
    exact hy_iret hA B S d_X_tell_28
  · by_cases c11 : E6 = "java/lang/IllegalArgumentException"
    · rw [if_pos c11] at h
      subst c11
      refine hy_callT (rest := [.int 0, .ref a_v6]) (As := [.int v1, .int v2, .int v3, .int v4, .int v5]) (r := v0) (b := a_v0) B S rfl ha_v0 (by rfl) (c_H_tell hl9 G ad hq_w7) (hy_okr (by omega) (hy_oki (hy_oki (hy_oki (hy_oki (hy_oki hy_ok0)))))) tw_447 tw_1 tw_444 tw_445 sl_H_tell (by decide) rfl (Nat.le_of_ble_eq_true rfl) (Nat.le_of_ble_eq_true rfl) hf_ob4 hg_ob4 rfl hl.1 (Nat.le_of_ble_eq_true rfl) d_X_tell_11 (fun ad8 H locs cells slots q9 ce10 hag hl_w7 S z1 z2 z3 => ?_)
      have ha_v0 : ad8 v0 = a_v0 := (hag v0 (by omega)).trans ha_v0
      have ha_v6 : ad8 v6 = a_v6 := (hag v6 (by omega)).trans ha_v6
      refine hy_catch1 B (Nat.le_of_ble_eq_true rfl) (Nat.le_of_ble_eq_true rfl) (by decide) tw_386 (by decide +kernel) z1 z2 z3 ?_
      refine lv_astore (lv' := [(7, .ref q9), (0, .ref a_v0), (1, .int v1), (2, .int v2), (3, .int v3), (4, .int v4), (5, .int v5), (6, .ref a_v6)]) hx hb d_X_tell_19 hl (Nat.le_of_ble_eq_true rfl) rfl (fun ls hl => ?_)
      refine lv_iconst (v := 1) hx hb d_X_tell_21 (by decide) ?_
      cases h
      cases K
      exact hy_iret hA B S d_X_tell_22
    rw [if_neg c11] at h
    by_cases c12 : E6 = "java/lang/IllegalStateException"
    · rw [if_pos c12] at h
      subst c12
      refine hy_callT (rest := [.int 0, .ref a_v6]) (As := [.int v1, .int v2, .int v3, .int v4, .int v5]) (r := v0) (b := a_v0) B S rfl ha_v0 (by rfl) (c_H_tell hl9 G ad hq_w7) (hy_okr (by omega) (hy_oki (hy_oki (hy_oki (hy_oki (hy_oki hy_ok0)))))) tw_447 tw_1 tw_444 tw_445 sl_H_tell (by decide) rfl (Nat.le_of_ble_eq_true rfl) (Nat.le_of_ble_eq_true rfl) hf_ob4 hg_ob4 rfl hl.1 (Nat.le_of_ble_eq_true rfl) d_X_tell_11 (fun ad8 H locs cells slots q9 ce10 hag hl_w7 S z1 z2 z3 => ?_)
      have ha_v0 : ad8 v0 = a_v0 := (hag v0 (by omega)).trans ha_v0
      have ha_v6 : ad8 v6 = a_v6 := (hag v6 (by omega)).trans ha_v6
      refine hy_catch2 B (Nat.le_of_ble_eq_true rfl) (Nat.le_of_ble_eq_true rfl) (by decide) tw_386 B.2.2.2.2.2.2.2.2.2.1.2.2.2.2.1 (Nat.le_of_ble_eq_true rfl) (Nat.le_of_ble_eq_true rfl) (by decide) tw_387 (by decide +kernel) z1 z2 z3 ?_
      refine lv_astore (lv' := [(7, .ref q9), (0, .ref a_v0), (1, .int v1), (2, .int v2), (3, .int v3), (4, .int v4), (5, .int v5), (6, .ref a_v6)]) hx hb d_X_tell_23 hl (Nat.le_of_ble_eq_true rfl) rfl (fun ls hl => ?_)
      refine lv_iconst (v := 2) hx hb d_X_tell_25 (by decide) ?_
      cases h
      cases K
      exact hy_iret hA B S d_X_tell_26
    rw [if_neg c12] at h
    cases h
theorem nk_X_tell {p : Program} {l : Launch} {e : Env} {s : State} {m : MethodId} {args : Array Value} {below : List Frame} {meth : Method} {c : Code} {G : hy_G} {A : Nat → Prop} {ad0 : Nat → Nat} {w0 : hy_W} {o : hy_O} (hl9 : l.flags = flags0) (hA : hy_A G ad0 w0 s.heap.size = A) (B : hy_B p l e (hy_rm 8 134 w0) s m args below meth c "HyphenPatternsLaw" b_X_tell 8 (some .int) [(0, 16, 19, 19), (0, 16, 23, 21)] G A) (q : hy_P) (nx : hy_N) (hq : nx_X_tell q = some nx) (K : hy_Nx lay_X_tell p l e (hy_rm 8 134 w0) s m args below meth c 8 G A ad0 w0.1.length (hy_Q below G ad0 w0 o args s) o nx) : hy_At lay_X_tell p l e (hy_rm 8 134 w0) s m args below meth c 8 G A ad0 w0.1.length (hy_Q below G ad0 w0 o args s) q := by
  unfold nx_X_tell at hq
  split at hq
  · exact sk_X_tell_0 hl9 hA B _ _ _ _ _ _ _ _ nx hq K
  · cases hq
theorem c_X_tell {l : Launch} (hl9 : l.flags = flags0) (G : hy_G) (ad : Nat → Nat) {v0 : Nat} {v1 : Int32} {v2 : Int32} {v3 : Int32} {v4 : Int32} {v5 : Int32} {v6 : Nat} {w : hy_W} {o : hy_O} (h : f_X_tell [.ref v0, .int v1, .int v2, .int v3, .int v4, .int v5, .ref v6] w = some o) : hy_M l y_X_tell (Cond.codeWith y_X_tell b_X_tell 8 (some .int) [(0, 16, 19, 19), (0, 16, 23, 21)] :: hy_T) 8 134 G ad [.ref v0, .int v1, .int v2, .int v3, .int v4, .int v5, .ref v6] w o := by
  obtain ⟨n, hn⟩ := hy_fx_iff.mp h
  refine hy_ofWW hl9 (by decide +kernel) (Nat.le_of_ble_eq_true rfl) (fun p e s m args below meth c A hA B S hok ls hl => ?_)
  exact hy_loop (nk_X_tell hl9 hA B) n _ hn ad s.heap [] 0 0 ls S hok hl
theorem d_D_start_0 : decode b_D_start 0 = .ok (.aload_n 0, 1) := by decide +kernel
theorem d_D_start_1 : decode b_D_start 1 = .ok (.iconst 0, 1) := by decide +kernel
theorem d_D_start_2 : decode b_D_start 2 = .ok (.putfield 18, 3) := by decide +kernel
theorem d_D_start_5 : decode b_D_start 5 = .ok (.aload_n 0, 1) := by decide +kernel
theorem d_D_start_6 : decode b_D_start 6 = .ok (.getfield 15, 3) := by decide +kernel
theorem d_D_start_9 : decode b_D_start 9 = .ok (.iconst 0, 1) := by decide +kernel
theorem d_D_start_10 : decode b_D_start 10 = .ok (.iconst 0, 1) := by decide +kernel
theorem d_D_start_11 : decode b_D_start 11 = .ok (.iastore, 1) := by decide +kernel
theorem d_D_start_12 : decode b_D_start 12 = .ok (.return_, 1) := by decide +kernel
def lay_D_start (pc : Nat) : List Nat := if pc = 0 then [0] else []
noncomputable def sg_D_start_0 (v0 : Nat) (w : hy_W) : Option hy_N := (hy_pf w v0 0 2 (.int 0)).bind fun w1 => (hy_gr w1 v0 0 1).bind fun r2 => (hy_pa w1 0 r2 0 (.int 0)).bind fun w3 => some (.inr (.inl none, w3))
noncomputable def nx_D_start (q : hy_P) : Option hy_N := match q with
  | (0, [.ref v0], w) => sg_D_start_0 v0 w
  | _ => none
noncomputable def f_D_start (av : List Value) (w : hy_W) : Option hy_O := hy_fx nx_D_start (0, av, w)
set_option maxHeartbeats 4000000 in
set_option maxRecDepth 100000 in
theorem sk_D_start_0 {p : Program} {l : Launch} {e : Env} {s : State} {m : MethodId} {args : Array Value} {below : List Frame} {meth : Method} {c : Code} {G : hy_G} {A : Nat → Prop} {ad0 : Nat → Nat} {w0 : hy_W} {o : hy_O} (hl9 : l.flags = flags0) (hA : hy_A G ad0 w0 s.heap.size = A) (B : hy_B p l e (hy_rm 0 0 w0) s m args below meth c "HyphenPatterns$Draft" b_D_start 1 none [] G A) (v0 : Nat) (w : hy_W) (nx : hy_N) (h : sg_D_start_0 v0 w = some nx) (K : hy_Nx lay_D_start p l e (hy_rm 0 0 w0) s m args below meth c 1 G A ad0 w0.1.length (hy_Q below G ad0 w0 o args s) o nx) : hy_At lay_D_start p l e (hy_rm 0 0 w0) s m args below meth c 1 G A ad0 w0.1.length (hy_Q below G ad0 w0 o args s) (0, [.ref v0], w) := by
  intro ad H locs cells slots ls S hok hl
  have hx := B.1
  have hb := B.2.1
  dsimp only at S hok
  have hl : lv_has ls 1 [(0, .ref (ad v0))] := hl
  show W p l e (hy_rm 0 0 w0) s m args below meth c H locs cells slots (hy_Q below G ad0 w0 o args s) (F0 m 0 ls [])
  have hv_v0 : v0 < w.1.length := hok (.ref v0) (List.mem_of_getElem? (i := 0) rfl) v0 rfl
  obtain ⟨a_v0, ha_v0⟩ : ∃ a, ad v0 = a := ⟨_, rfl⟩
  rw [ha_v0] at hl
  unfold sg_D_start_0 at h
  refine lv_aload_n hx hb d_D_start_0 rfl (lv_at hl 0 rfl) ?_
  refine lv_iconst (v := 0) hx hb d_D_start_1 (by decide) ?_
  obtain ⟨w1, hw1, h⟩ := hy_bd h
  refine hy_put B S ha_v0 rfl hy_cvi hw1 rfl (Nat.le_of_ble_eq_true rfl) i_0 t_0 t_0_ok n_0 (j := 2) tw_66 (fun _ h => h) rfl rfl rfl d_D_start_2 (fun H locs S hl_w1 => ?_)
  refine lv_aload_n hx hb d_D_start_5 rfl (lv_at hl 0 rfl) ?_
  obtain ⟨r2, hr2, h⟩ := hy_bd h
  refine hy_getr B S ha_v0 hr2 rfl (Nat.le_of_ble_eq_true rfl) i_0 (j := 1) tw_65 (fun _ h => h) d_D_start_6 (fun a_r2 ha_r2 hv_r2 => ?_)
  refine lv_iconst (v := 0) hx hb d_D_start_9 (by decide) ?_
  refine lv_iconst (v := 0) hx hb d_D_start_10 (by decide) ?_
  obtain ⟨w3, hw3, h⟩ := hy_bd h
  refine hy_iast B S ha_r2 hw3 d_D_start_11 (fun H locs S hl_w3 => ?_)
  cases h
  cases K
  exact hy_vret hA B S d_D_start_12
theorem nk_D_start {p : Program} {l : Launch} {e : Env} {s : State} {m : MethodId} {args : Array Value} {below : List Frame} {meth : Method} {c : Code} {G : hy_G} {A : Nat → Prop} {ad0 : Nat → Nat} {w0 : hy_W} {o : hy_O} (hl9 : l.flags = flags0) (hA : hy_A G ad0 w0 s.heap.size = A) (B : hy_B p l e (hy_rm 0 0 w0) s m args below meth c "HyphenPatterns$Draft" b_D_start 1 none [] G A) (q : hy_P) (nx : hy_N) (hq : nx_D_start q = some nx) (K : hy_Nx lay_D_start p l e (hy_rm 0 0 w0) s m args below meth c 1 G A ad0 w0.1.length (hy_Q below G ad0 w0 o args s) o nx) : hy_At lay_D_start p l e (hy_rm 0 0 w0) s m args below meth c 1 G A ad0 w0.1.length (hy_Q below G ad0 w0 o args s) q := by
  unfold nx_D_start at hq
  split at hq
  · exact sk_D_start_0 hl9 hA B _ _ nx hq K
  · cases hq
theorem c_D_start {l : Launch} (hl9 : l.flags = flags0) (G : hy_G) (ad : Nat → Nat) {v0 : Nat} {w : hy_W} {o : hy_O} (h : f_D_start [.ref v0] w = some o) : hy_M l y_D_start (Cond.code y_D_start b_D_start 1 none :: hy_T) 0 0 G ad [.ref v0] w o := by
  obtain ⟨n, hn⟩ := hy_fx_iff.mp h
  refine hy_ofW hl9 (by decide +kernel) (Nat.le_of_ble_eq_true rfl) (fun p e s m args below meth c A hA hi B S hok ls hl => ?_)
  exact hy_loop (nk_D_start hl9 hA B) n _ hn ad s.heap [] 0 0 ls S hok hl
theorem d_D_takeLetter_0 : decode b_D_takeLetter 0 = .ok (.aload_n 0, 1) := by decide +kernel
theorem d_D_takeLetter_1 : decode b_D_takeLetter 1 = .ok (.getfield 18, 3) := by decide +kernel
theorem d_D_takeLetter_4 : decode b_D_takeLetter 4 = .ok (.bipush 40, 2) := by decide +kernel
theorem d_D_takeLetter_6 : decode b_D_takeLetter 6 = .ok (.if_icmp .lt 5, 3) := by decide +kernel
theorem d_D_takeLetter_9 : decode b_D_takeLetter 9 = .ok (.iconst 0, 1) := by decide +kernel
theorem d_D_takeLetter_10 : decode b_D_takeLetter 10 = .ok (.ireturn, 1) := by decide +kernel
theorem d_D_takeLetter_11 : decode b_D_takeLetter 11 = .ok (.aload_n 0, 1) := by decide +kernel
theorem d_D_takeLetter_12 : decode b_D_takeLetter 12 = .ok (.getfield 9, 3) := by decide +kernel
theorem d_D_takeLetter_15 : decode b_D_takeLetter 15 = .ok (.aload_n 0, 1) := by decide +kernel
theorem d_D_takeLetter_16 : decode b_D_takeLetter 16 = .ok (.getfield 18, 3) := by decide +kernel
theorem d_D_takeLetter_19 : decode b_D_takeLetter 19 = .ok (.iload_n 1, 1) := by decide +kernel
theorem d_D_takeLetter_20 : decode b_D_takeLetter 20 = .ok (.iastore, 1) := by decide +kernel
theorem d_D_takeLetter_21 : decode b_D_takeLetter 21 = .ok (.aload_n 0, 1) := by decide +kernel
theorem d_D_takeLetter_22 : decode b_D_takeLetter 22 = .ok (.dup, 1) := by decide +kernel
theorem d_D_takeLetter_23 : decode b_D_takeLetter 23 = .ok (.getfield 18, 3) := by decide +kernel
theorem d_D_takeLetter_26 : decode b_D_takeLetter 26 = .ok (.iconst 1, 1) := by decide +kernel
theorem d_D_takeLetter_27 : decode b_D_takeLetter 27 = .ok (.iadd, 1) := by decide +kernel
theorem d_D_takeLetter_28 : decode b_D_takeLetter 28 = .ok (.putfield 18, 3) := by decide +kernel
theorem d_D_takeLetter_31 : decode b_D_takeLetter 31 = .ok (.aload_n 0, 1) := by decide +kernel
theorem d_D_takeLetter_32 : decode b_D_takeLetter 32 = .ok (.getfield 15, 3) := by decide +kernel
theorem d_D_takeLetter_35 : decode b_D_takeLetter 35 = .ok (.aload_n 0, 1) := by decide +kernel
theorem d_D_takeLetter_36 : decode b_D_takeLetter 36 = .ok (.getfield 18, 3) := by decide +kernel
theorem d_D_takeLetter_39 : decode b_D_takeLetter 39 = .ok (.iconst 0, 1) := by decide +kernel
theorem d_D_takeLetter_40 : decode b_D_takeLetter 40 = .ok (.iastore, 1) := by decide +kernel
theorem d_D_takeLetter_41 : decode b_D_takeLetter 41 = .ok (.iconst 1, 1) := by decide +kernel
theorem d_D_takeLetter_42 : decode b_D_takeLetter 42 = .ok (.ireturn, 1) := by decide +kernel
def lay_D_takeLetter (pc : Nat) : List Nat := if pc = 0 then [0, 1] else []
noncomputable def sg_D_takeLetter_0 (v0 : Nat) (v1 : Int32) (w : hy_W) : Option hy_N := (hy_gi w v0 0 2).bind fun x1 => if x1 < 40 then ((hy_gr w v0 0 0).bind fun r3 => (hy_gi w v0 0 2).bind fun x4 => (hy_pa w 0 r3 x4 (.int v1)).bind fun w5 => (hy_gi w5 v0 0 2).bind fun x6 => (hy_pf w5 v0 0 2 (.int (x6 + 1))).bind fun w7 => (hy_gr w7 v0 0 1).bind fun r8 => (hy_gi w7 v0 0 2).bind fun x9 => (hy_pa w7 0 r8 x9 (.int 0)).bind fun w10 => some (.inr (.inl (some (.int 1)), w10))) else (some (.inr (.inl (some (.int 0)), w)))
noncomputable def nx_D_takeLetter (q : hy_P) : Option hy_N := match q with
  | (0, [.ref v0, .int v1], w) => sg_D_takeLetter_0 v0 v1 w
  | _ => none
noncomputable def f_D_takeLetter (av : List Value) (w : hy_W) : Option hy_O := hy_fx nx_D_takeLetter (0, av, w)
set_option maxHeartbeats 4000000 in
set_option maxRecDepth 100000 in
theorem sk_D_takeLetter_0 {p : Program} {l : Launch} {e : Env} {s : State} {m : MethodId} {args : Array Value} {below : List Frame} {meth : Method} {c : Code} {G : hy_G} {A : Nat → Prop} {ad0 : Nat → Nat} {w0 : hy_W} {o : hy_O} (hl9 : l.flags = flags0) (hA : hy_A G ad0 w0 s.heap.size = A) (B : hy_B p l e (hy_rm 0 0 w0) s m args below meth c "HyphenPatterns$Draft" b_D_takeLetter 2 (some .boolean) [] G A) (v0 : Nat) (v1 : Int32) (w : hy_W) (nx : hy_N) (h : sg_D_takeLetter_0 v0 v1 w = some nx) (K : hy_Nx lay_D_takeLetter p l e (hy_rm 0 0 w0) s m args below meth c 2 G A ad0 w0.1.length (hy_Q below G ad0 w0 o args s) o nx) : hy_At lay_D_takeLetter p l e (hy_rm 0 0 w0) s m args below meth c 2 G A ad0 w0.1.length (hy_Q below G ad0 w0 o args s) (0, [.ref v0, .int v1], w) := by
  intro ad H locs cells slots ls S hok hl
  have hx := B.1
  have hb := B.2.1
  dsimp only at S hok
  have hl : lv_has ls 2 [(0, .ref (ad v0)), (1, .int v1)] := hl
  show W p l e (hy_rm 0 0 w0) s m args below meth c H locs cells slots (hy_Q below G ad0 w0 o args s) (F0 m 0 ls [])
  have hv_v0 : v0 < w.1.length := hok (.ref v0) (List.mem_of_getElem? (i := 0) rfl) v0 rfl
  obtain ⟨a_v0, ha_v0⟩ : ∃ a, ad v0 = a := ⟨_, rfl⟩
  rw [ha_v0] at hl
  unfold sg_D_takeLetter_0 at h
  refine lv_aload_n hx hb d_D_takeLetter_0 rfl (lv_at hl 0 rfl) ?_
  obtain ⟨x1, hx1, h⟩ := hy_bd h
  refine hy_geti B S ha_v0 hx1 rfl (Nat.le_of_ble_eq_true rfl) i_0 (j := 2) tw_66 (fun _ h => h) d_D_takeLetter_1 ?_
  refine lv_bipush (v := 40) hx hb d_D_takeLetter_4 (by decide) ?_
  refine lv_icmp_lt (tgt := 11) hx hb d_D_takeLetter_6 (by decide) (fun c2 => ?_) (fun c2 => ?_)
  · rw [if_pos c2] at h
    refine lv_aload_n hx hb d_D_takeLetter_11 rfl (lv_at hl 0 rfl) ?_
    obtain ⟨r3, hr3, h⟩ := hy_bd h
    refine hy_getr B S ha_v0 hr3 rfl (Nat.le_of_ble_eq_true rfl) i_0 (j := 0) tw_63 (fun _ h => h) d_D_takeLetter_12 (fun a_r3 ha_r3 hv_r3 => ?_)
    refine lv_aload_n hx hb d_D_takeLetter_15 rfl (lv_at hl 0 rfl) ?_
    obtain ⟨x4, hx4, h⟩ := hy_bd h
    refine hy_geti B S ha_v0 hx4 rfl (Nat.le_of_ble_eq_true rfl) i_0 (j := 2) tw_66 (fun _ h => h) d_D_takeLetter_16 ?_
    refine lv_iload_n hx hb d_D_takeLetter_19 rfl (lv_at hl 1 rfl) ?_
    obtain ⟨w5, hw5, h⟩ := hy_bd h
    refine hy_iast B S ha_r3 hw5 d_D_takeLetter_20 (fun H locs S hl_w5 => ?_)
    refine lv_aload_n hx hb d_D_takeLetter_21 rfl (lv_at hl 0 rfl) ?_
    refine lv_dup hx hb d_D_takeLetter_22 rfl ?_
    obtain ⟨x6, hx6, h⟩ := hy_bd h
    refine hy_geti B S ha_v0 hx6 rfl (Nat.le_of_ble_eq_true rfl) i_0 (j := 2) tw_66 (fun _ h => h) d_D_takeLetter_23 ?_
    refine lv_iconst (v := 1) hx hb d_D_takeLetter_26 (by decide) ?_
    refine lv_iadd hx hb d_D_takeLetter_27 ?_
    obtain ⟨w7, hw7, h⟩ := hy_bd h
    refine hy_put B S ha_v0 rfl hy_cvi hw7 rfl (Nat.le_of_ble_eq_true rfl) i_0 t_0 t_0_ok n_0 (j := 2) tw_66 (fun _ h => h) rfl rfl rfl d_D_takeLetter_28 (fun H locs S hl_w7 => ?_)
    refine lv_aload_n hx hb d_D_takeLetter_31 rfl (lv_at hl 0 rfl) ?_
    obtain ⟨r8, hr8, h⟩ := hy_bd h
    refine hy_getr B S ha_v0 hr8 rfl (Nat.le_of_ble_eq_true rfl) i_0 (j := 1) tw_65 (fun _ h => h) d_D_takeLetter_32 (fun a_r8 ha_r8 hv_r8 => ?_)
    refine lv_aload_n hx hb d_D_takeLetter_35 rfl (lv_at hl 0 rfl) ?_
    obtain ⟨x9, hx9, h⟩ := hy_bd h
    refine hy_geti B S ha_v0 hx9 rfl (Nat.le_of_ble_eq_true rfl) i_0 (j := 2) tw_66 (fun _ h => h) d_D_takeLetter_36 ?_
    refine lv_iconst (v := 0) hx hb d_D_takeLetter_39 (by decide) ?_
    obtain ⟨w10, hw10, h⟩ := hy_bd h
    refine hy_iast B S ha_r8 hw10 d_D_takeLetter_40 (fun H locs S hl_w10 => ?_)
    refine lv_iconst (v := 1) hx hb d_D_takeLetter_41 (by decide) ?_
    cases h
    cases K
    exact hy_zret hA B S (by decide) d_D_takeLetter_42
  · rw [if_neg c2] at h
    refine lv_iconst (v := 0) hx hb d_D_takeLetter_9 (by decide) ?_
    cases h
    cases K
    exact hy_zret hA B S (by decide) d_D_takeLetter_10
theorem nk_D_takeLetter {p : Program} {l : Launch} {e : Env} {s : State} {m : MethodId} {args : Array Value} {below : List Frame} {meth : Method} {c : Code} {G : hy_G} {A : Nat → Prop} {ad0 : Nat → Nat} {w0 : hy_W} {o : hy_O} (hl9 : l.flags = flags0) (hA : hy_A G ad0 w0 s.heap.size = A) (B : hy_B p l e (hy_rm 0 0 w0) s m args below meth c "HyphenPatterns$Draft" b_D_takeLetter 2 (some .boolean) [] G A) (q : hy_P) (nx : hy_N) (hq : nx_D_takeLetter q = some nx) (K : hy_Nx lay_D_takeLetter p l e (hy_rm 0 0 w0) s m args below meth c 2 G A ad0 w0.1.length (hy_Q below G ad0 w0 o args s) o nx) : hy_At lay_D_takeLetter p l e (hy_rm 0 0 w0) s m args below meth c 2 G A ad0 w0.1.length (hy_Q below G ad0 w0 o args s) q := by
  unfold nx_D_takeLetter at hq
  split at hq
  · exact sk_D_takeLetter_0 hl9 hA B _ _ _ nx hq K
  · cases hq
theorem c_D_takeLetter {l : Launch} (hl9 : l.flags = flags0) (G : hy_G) (ad : Nat → Nat) {v0 : Nat} {v1 : Int32} {w : hy_W} {o : hy_O} (h : f_D_takeLetter [.ref v0, .int v1] w = some o) : hy_M l y_D_takeLetter (Cond.code y_D_takeLetter b_D_takeLetter 2 (some .boolean) :: hy_T) 0 0 G ad [.ref v0, .int v1] w o := by
  obtain ⟨n, hn⟩ := hy_fx_iff.mp h
  refine hy_ofW hl9 (by decide +kernel) (Nat.le_of_ble_eq_true rfl) (fun p e s m args below meth c A hA hi B S hok ls hl => ?_)
  exact hy_loop (nk_D_takeLetter hl9 hA B) n _ hn ad s.heap [] 0 0 ls S hok hl
theorem d_D_takeValue_0 : decode b_D_takeValue 0 = .ok (.aload_n 0, 1) := by decide +kernel
theorem d_D_takeValue_1 : decode b_D_takeValue 1 = .ok (.getfield 15, 3) := by decide +kernel
theorem d_D_takeValue_4 : decode b_D_takeValue 4 = .ok (.aload_n 0, 1) := by decide +kernel
theorem d_D_takeValue_5 : decode b_D_takeValue 5 = .ok (.getfield 18, 3) := by decide +kernel
theorem d_D_takeValue_8 : decode b_D_takeValue 8 = .ok (.iaload, 1) := by decide +kernel
theorem d_D_takeValue_9 : decode b_D_takeValue 9 = .ok (.ifCond .eq 5, 3) := by decide +kernel
theorem d_D_takeValue_12 : decode b_D_takeValue 12 = .ok (.iconst 0, 1) := by decide +kernel
theorem d_D_takeValue_13 : decode b_D_takeValue 13 = .ok (.ireturn, 1) := by decide +kernel
theorem d_D_takeValue_14 : decode b_D_takeValue 14 = .ok (.aload_n 0, 1) := by decide +kernel
theorem d_D_takeValue_15 : decode b_D_takeValue 15 = .ok (.getfield 15, 3) := by decide +kernel
theorem d_D_takeValue_18 : decode b_D_takeValue 18 = .ok (.aload_n 0, 1) := by decide +kernel
theorem d_D_takeValue_19 : decode b_D_takeValue 19 = .ok (.getfield 18, 3) := by decide +kernel
theorem d_D_takeValue_22 : decode b_D_takeValue 22 = .ok (.iload_n 1, 1) := by decide +kernel
theorem d_D_takeValue_23 : decode b_D_takeValue 23 = .ok (.iastore, 1) := by decide +kernel
theorem d_D_takeValue_24 : decode b_D_takeValue 24 = .ok (.iconst 1, 1) := by decide +kernel
theorem d_D_takeValue_25 : decode b_D_takeValue 25 = .ok (.ireturn, 1) := by decide +kernel
def lay_D_takeValue (pc : Nat) : List Nat := if pc = 0 then [0, 1] else []
noncomputable def sg_D_takeValue_0 (v0 : Nat) (v1 : Int32) (w : hy_W) : Option hy_N := (hy_gr w v0 0 1).bind fun r1 => (hy_gi w v0 0 2).bind fun x2 => (hy_ai w r1 x2).bind fun x3 => if x3 = 0 then ((hy_gr w v0 0 1).bind fun r5 => (hy_gi w v0 0 2).bind fun x6 => (hy_pa w 0 r5 x6 (.int v1)).bind fun w7 => some (.inr (.inl (some (.int 1)), w7))) else (some (.inr (.inl (some (.int 0)), w)))
noncomputable def nx_D_takeValue (q : hy_P) : Option hy_N := match q with
  | (0, [.ref v0, .int v1], w) => sg_D_takeValue_0 v0 v1 w
  | _ => none
noncomputable def f_D_takeValue (av : List Value) (w : hy_W) : Option hy_O := hy_fx nx_D_takeValue (0, av, w)
set_option maxHeartbeats 4000000 in
set_option maxRecDepth 100000 in
theorem sk_D_takeValue_0 {p : Program} {l : Launch} {e : Env} {s : State} {m : MethodId} {args : Array Value} {below : List Frame} {meth : Method} {c : Code} {G : hy_G} {A : Nat → Prop} {ad0 : Nat → Nat} {w0 : hy_W} {o : hy_O} (hl9 : l.flags = flags0) (hA : hy_A G ad0 w0 s.heap.size = A) (B : hy_B p l e (hy_rm 0 0 w0) s m args below meth c "HyphenPatterns$Draft" b_D_takeValue 2 (some .boolean) [] G A) (v0 : Nat) (v1 : Int32) (w : hy_W) (nx : hy_N) (h : sg_D_takeValue_0 v0 v1 w = some nx) (K : hy_Nx lay_D_takeValue p l e (hy_rm 0 0 w0) s m args below meth c 2 G A ad0 w0.1.length (hy_Q below G ad0 w0 o args s) o nx) : hy_At lay_D_takeValue p l e (hy_rm 0 0 w0) s m args below meth c 2 G A ad0 w0.1.length (hy_Q below G ad0 w0 o args s) (0, [.ref v0, .int v1], w) := by
  intro ad H locs cells slots ls S hok hl
  have hx := B.1
  have hb := B.2.1
  dsimp only at S hok
  have hl : lv_has ls 2 [(0, .ref (ad v0)), (1, .int v1)] := hl
  show W p l e (hy_rm 0 0 w0) s m args below meth c H locs cells slots (hy_Q below G ad0 w0 o args s) (F0 m 0 ls [])
  have hv_v0 : v0 < w.1.length := hok (.ref v0) (List.mem_of_getElem? (i := 0) rfl) v0 rfl
  obtain ⟨a_v0, ha_v0⟩ : ∃ a, ad v0 = a := ⟨_, rfl⟩
  rw [ha_v0] at hl
  unfold sg_D_takeValue_0 at h
  refine lv_aload_n hx hb d_D_takeValue_0 rfl (lv_at hl 0 rfl) ?_
  obtain ⟨r1, hr1, h⟩ := hy_bd h
  refine hy_getr B S ha_v0 hr1 rfl (Nat.le_of_ble_eq_true rfl) i_0 (j := 1) tw_65 (fun _ h => h) d_D_takeValue_1 (fun a_r1 ha_r1 hv_r1 => ?_)
  refine lv_aload_n hx hb d_D_takeValue_4 rfl (lv_at hl 0 rfl) ?_
  obtain ⟨x2, hx2, h⟩ := hy_bd h
  refine hy_geti B S ha_v0 hx2 rfl (Nat.le_of_ble_eq_true rfl) i_0 (j := 2) tw_66 (fun _ h => h) d_D_takeValue_5 ?_
  obtain ⟨x3, hx3, h⟩ := hy_bd h
  refine hy_iald B S ha_r1 hx3 d_D_takeValue_8 ?_
  refine lv_if_eq (tgt := 14) hx hb d_D_takeValue_9 (by decide) (fun c4 => ?_) (fun c4 => ?_)
  · rw [if_pos c4] at h
    refine lv_aload_n hx hb d_D_takeValue_14 rfl (lv_at hl 0 rfl) ?_
    obtain ⟨r5, hr5, h⟩ := hy_bd h
    refine hy_getr B S ha_v0 hr5 rfl (Nat.le_of_ble_eq_true rfl) i_0 (j := 1) tw_65 (fun _ h => h) d_D_takeValue_15 (fun a_r5 ha_r5 hv_r5 => ?_)
    refine lv_aload_n hx hb d_D_takeValue_18 rfl (lv_at hl 0 rfl) ?_
    obtain ⟨x6, hx6, h⟩ := hy_bd h
    refine hy_geti B S ha_v0 hx6 rfl (Nat.le_of_ble_eq_true rfl) i_0 (j := 2) tw_66 (fun _ h => h) d_D_takeValue_19 ?_
    refine lv_iload_n hx hb d_D_takeValue_22 rfl (lv_at hl 1 rfl) ?_
    obtain ⟨w7, hw7, h⟩ := hy_bd h
    refine hy_iast B S ha_r5 hw7 d_D_takeValue_23 (fun H locs S hl_w7 => ?_)
    refine lv_iconst (v := 1) hx hb d_D_takeValue_24 (by decide) ?_
    cases h
    cases K
    exact hy_zret hA B S (by decide) d_D_takeValue_25
  · rw [if_neg c4] at h
    refine lv_iconst (v := 0) hx hb d_D_takeValue_12 (by decide) ?_
    cases h
    cases K
    exact hy_zret hA B S (by decide) d_D_takeValue_13
theorem nk_D_takeValue {p : Program} {l : Launch} {e : Env} {s : State} {m : MethodId} {args : Array Value} {below : List Frame} {meth : Method} {c : Code} {G : hy_G} {A : Nat → Prop} {ad0 : Nat → Nat} {w0 : hy_W} {o : hy_O} (hl9 : l.flags = flags0) (hA : hy_A G ad0 w0 s.heap.size = A) (B : hy_B p l e (hy_rm 0 0 w0) s m args below meth c "HyphenPatterns$Draft" b_D_takeValue 2 (some .boolean) [] G A) (q : hy_P) (nx : hy_N) (hq : nx_D_takeValue q = some nx) (K : hy_Nx lay_D_takeValue p l e (hy_rm 0 0 w0) s m args below meth c 2 G A ad0 w0.1.length (hy_Q below G ad0 w0 o args s) o nx) : hy_At lay_D_takeValue p l e (hy_rm 0 0 w0) s m args below meth c 2 G A ad0 w0.1.length (hy_Q below G ad0 w0 o args s) q := by
  unfold nx_D_takeValue at hq
  split at hq
  · exact sk_D_takeValue_0 hl9 hA B _ _ _ nx hq K
  · cases hq
theorem c_D_takeValue {l : Launch} (hl9 : l.flags = flags0) (G : hy_G) (ad : Nat → Nat) {v0 : Nat} {v1 : Int32} {w : hy_W} {o : hy_O} (h : f_D_takeValue [.ref v0, .int v1] w = some o) : hy_M l y_D_takeValue (Cond.code y_D_takeValue b_D_takeValue 2 (some .boolean) :: hy_T) 0 0 G ad [.ref v0, .int v1] w o := by
  obtain ⟨n, hn⟩ := hy_fx_iff.mp h
  refine hy_ofW hl9 (by decide +kernel) (Nat.le_of_ble_eq_true rfl) (fun p e s m args below meth c A hA hi B S hok ls hl => ?_)
  exact hy_loop (nk_D_takeValue hl9 hA B) n _ hn ad s.heap [] 0 0 ls S hok hl
theorem d_D_hasLetter_0 : decode b_D_hasLetter 0 = .ok (.iconst 0, 1) := by decide +kernel
theorem d_D_hasLetter_1 : decode b_D_hasLetter 1 = .ok (.istore_n 1, 1) := by decide +kernel
theorem d_D_hasLetter_2 : decode b_D_hasLetter 2 = .ok (.iload_n 1, 1) := by decide +kernel
theorem d_D_hasLetter_3 : decode b_D_hasLetter 3 = .ok (.aload_n 0, 1) := by decide +kernel
theorem d_D_hasLetter_4 : decode b_D_hasLetter 4 = .ok (.getfield 18, 3) := by decide +kernel
theorem d_D_hasLetter_7 : decode b_D_hasLetter 7 = .ok (.if_icmp .ge 20, 3) := by decide +kernel
theorem d_D_hasLetter_10 : decode b_D_hasLetter 10 = .ok (.aload_n 0, 1) := by decide +kernel
theorem d_D_hasLetter_11 : decode b_D_hasLetter 11 = .ok (.getfield 9, 3) := by decide +kernel
theorem d_D_hasLetter_14 : decode b_D_hasLetter 14 = .ok (.iload_n 1, 1) := by decide +kernel
theorem d_D_hasLetter_15 : decode b_D_hasLetter 15 = .ok (.iaload, 1) := by decide +kernel
theorem d_D_hasLetter_16 : decode b_D_hasLetter 16 = .ok (.ifCond .eq 5, 3) := by decide +kernel
theorem d_D_hasLetter_19 : decode b_D_hasLetter 19 = .ok (.iconst 1, 1) := by decide +kernel
theorem d_D_hasLetter_20 : decode b_D_hasLetter 20 = .ok (.ireturn, 1) := by decide +kernel
theorem d_D_hasLetter_21 : decode b_D_hasLetter 21 = .ok (.iinc 1 1, 3) := by decide +kernel
theorem d_D_hasLetter_24 : decode b_D_hasLetter 24 = .ok (.goto (-22), 3) := by decide +kernel
theorem d_D_hasLetter_27 : decode b_D_hasLetter 27 = .ok (.iconst 0, 1) := by decide +kernel
theorem d_D_hasLetter_28 : decode b_D_hasLetter 28 = .ok (.ireturn, 1) := by decide +kernel
def lay_D_hasLetter (pc : Nat) : List Nat := if pc = 0 then [0] else if pc = 2 then [0, 1] else []
noncomputable def sg_D_hasLetter_0 (v0 : Nat) (w : hy_W) : Option hy_N := some (.inl (2, [.ref v0, .int 0], w))
noncomputable def sg_D_hasLetter_2 (v0 : Nat) (v1 : Int32) (w : hy_W) : Option hy_N := (hy_gi w v0 0 2).bind fun x1 => if x1 ≤ v1 then (some (.inr (.inl (some (.int 0)), w))) else ((hy_gr w v0 0 0).bind fun r3 => (hy_ai w r3 v1).bind fun x4 => if x4 = 0 then (some (.inl (2, [.ref v0, .int (v1 + 1)], w))) else (some (.inr (.inl (some (.int 1)), w))))
noncomputable def nx_D_hasLetter (q : hy_P) : Option hy_N := match q with
  | (0, [.ref v0], w) => sg_D_hasLetter_0 v0 w
  | (2, [.ref v0, .int v1], w) => sg_D_hasLetter_2 v0 v1 w
  | _ => none
noncomputable def f_D_hasLetter (av : List Value) (w : hy_W) : Option hy_O := hy_fx nx_D_hasLetter (0, av, w)
set_option maxHeartbeats 4000000 in
set_option maxRecDepth 100000 in
theorem sk_D_hasLetter_0 {p : Program} {l : Launch} {e : Env} {s : State} {m : MethodId} {args : Array Value} {below : List Frame} {meth : Method} {c : Code} {G : hy_G} {A : Nat → Prop} {ad0 : Nat → Nat} {w0 : hy_W} {o : hy_O} (hl9 : l.flags = flags0) (hA : hy_A G ad0 w0 s.heap.size = A) (B : hy_B p l e (hy_rm 0 0 w0) s m args below meth c "HyphenPatterns$Draft" b_D_hasLetter 2 (some .boolean) [] G A) (v0 : Nat) (w : hy_W) (nx : hy_N) (h : sg_D_hasLetter_0 v0 w = some nx) (K : hy_Nx lay_D_hasLetter p l e (hy_rm 0 0 w0) s m args below meth c 2 G A ad0 w0.1.length (hy_Q below G ad0 w0 o args s) o nx) : hy_At lay_D_hasLetter p l e (hy_rm 0 0 w0) s m args below meth c 2 G A ad0 w0.1.length (hy_Q below G ad0 w0 o args s) (0, [.ref v0], w) := by
  intro ad H locs cells slots ls S hok hl
  have hx := B.1
  have hb := B.2.1
  dsimp only at S hok
  have hl : lv_has ls 2 [(0, .ref (ad v0))] := hl
  show W p l e (hy_rm 0 0 w0) s m args below meth c H locs cells slots (hy_Q below G ad0 w0 o args s) (F0 m 0 ls [])
  have hv_v0 : v0 < w.1.length := hok (.ref v0) (List.mem_of_getElem? (i := 0) rfl) v0 rfl
  obtain ⟨a_v0, ha_v0⟩ : ∃ a, ad v0 = a := ⟨_, rfl⟩
  rw [ha_v0] at hl
  unfold sg_D_hasLetter_0 at h
  refine lv_iconst (v := 0) hx hb d_D_hasLetter_0 (by decide) ?_
  refine lv_istore_n (lv' := [(1, .int 0), (0, .ref a_v0)]) hx hb d_D_hasLetter_1 rfl hl (Nat.le_of_ble_eq_true rfl) rfl (fun ls hl => ?_)
  cases h
  exact hy_jump K S (hy_okr (by omega) (hy_oki hy_ok0)) (lv_sub hl [1, 0] rfl) (by subst ha_v0; rfl) (by subst ha_v0; rfl)
set_option maxHeartbeats 4000000 in
set_option maxRecDepth 100000 in
theorem sk_D_hasLetter_2 {p : Program} {l : Launch} {e : Env} {s : State} {m : MethodId} {args : Array Value} {below : List Frame} {meth : Method} {c : Code} {G : hy_G} {A : Nat → Prop} {ad0 : Nat → Nat} {w0 : hy_W} {o : hy_O} (hl9 : l.flags = flags0) (hA : hy_A G ad0 w0 s.heap.size = A) (B : hy_B p l e (hy_rm 0 0 w0) s m args below meth c "HyphenPatterns$Draft" b_D_hasLetter 2 (some .boolean) [] G A) (v0 : Nat) (v1 : Int32) (w : hy_W) (nx : hy_N) (h : sg_D_hasLetter_2 v0 v1 w = some nx) (K : hy_Nx lay_D_hasLetter p l e (hy_rm 0 0 w0) s m args below meth c 2 G A ad0 w0.1.length (hy_Q below G ad0 w0 o args s) o nx) : hy_At lay_D_hasLetter p l e (hy_rm 0 0 w0) s m args below meth c 2 G A ad0 w0.1.length (hy_Q below G ad0 w0 o args s) (2, [.ref v0, .int v1], w) := by
  intro ad H locs cells slots ls S hok hl
  have hx := B.1
  have hb := B.2.1
  dsimp only at S hok
  have hl : lv_has ls 2 [(0, .ref (ad v0)), (1, .int v1)] := hl
  show W p l e (hy_rm 0 0 w0) s m args below meth c H locs cells slots (hy_Q below G ad0 w0 o args s) (F0 m 2 ls [])
  have hv_v0 : v0 < w.1.length := hok (.ref v0) (List.mem_of_getElem? (i := 0) rfl) v0 rfl
  obtain ⟨a_v0, ha_v0⟩ : ∃ a, ad v0 = a := ⟨_, rfl⟩
  rw [ha_v0] at hl
  unfold sg_D_hasLetter_2 at h
  refine lv_iload_n hx hb d_D_hasLetter_2 rfl (lv_at hl 1 rfl) ?_
  refine lv_aload_n hx hb d_D_hasLetter_3 rfl (lv_at hl 0 rfl) ?_
  obtain ⟨x1, hx1, h⟩ := hy_bd h
  refine hy_geti B S ha_v0 hx1 rfl (Nat.le_of_ble_eq_true rfl) i_0 (j := 2) tw_66 (fun _ h => h) d_D_hasLetter_4 ?_
  refine lv_icmp_ge (tgt := 27) hx hb d_D_hasLetter_7 (by decide) (fun c2 => ?_) (fun c2 => ?_)
  · rw [if_pos c2] at h
    refine lv_iconst (v := 0) hx hb d_D_hasLetter_27 (by decide) ?_
    cases h
    cases K
    exact hy_zret hA B S (by decide) d_D_hasLetter_28
  · rw [if_neg c2] at h
    refine lv_aload_n hx hb d_D_hasLetter_10 rfl (lv_at hl 0 rfl) ?_
    obtain ⟨r3, hr3, h⟩ := hy_bd h
    refine hy_getr B S ha_v0 hr3 rfl (Nat.le_of_ble_eq_true rfl) i_0 (j := 0) tw_63 (fun _ h => h) d_D_hasLetter_11 (fun a_r3 ha_r3 hv_r3 => ?_)
    refine lv_iload_n hx hb d_D_hasLetter_14 rfl (lv_at hl 1 rfl) ?_
    obtain ⟨x4, hx4, h⟩ := hy_bd h
    refine hy_iald B S ha_r3 hx4 d_D_hasLetter_15 ?_
    refine lv_if_eq (tgt := 21) hx hb d_D_hasLetter_16 (by decide) (fun c5 => ?_) (fun c5 => ?_)
    · rw [if_pos c5] at h
      refine lv_iinc (v := (v1 + 1)) (lv' := [(1, .int (v1 + 1)), (0, .ref a_v0)]) hx hb d_D_hasLetter_21 hl (k := 1) rfl rfl (Nat.le_of_ble_eq_true rfl) rfl (fun ls hl => ?_)
      refine lv_goto (tgt := 2) hx hb d_D_hasLetter_24 (by decide) ?_
      cases h
      exact hy_jump K S (hy_okr (by omega) (hy_oki hy_ok0)) (lv_sub hl [1, 0] rfl) (by subst ha_v0; rfl) (by subst ha_v0; rfl)
    · rw [if_neg c5] at h
      refine lv_iconst (v := 1) hx hb d_D_hasLetter_19 (by decide) ?_
      cases h
      cases K
      exact hy_zret hA B S (by decide) d_D_hasLetter_20
theorem nk_D_hasLetter {p : Program} {l : Launch} {e : Env} {s : State} {m : MethodId} {args : Array Value} {below : List Frame} {meth : Method} {c : Code} {G : hy_G} {A : Nat → Prop} {ad0 : Nat → Nat} {w0 : hy_W} {o : hy_O} (hl9 : l.flags = flags0) (hA : hy_A G ad0 w0 s.heap.size = A) (B : hy_B p l e (hy_rm 0 0 w0) s m args below meth c "HyphenPatterns$Draft" b_D_hasLetter 2 (some .boolean) [] G A) (q : hy_P) (nx : hy_N) (hq : nx_D_hasLetter q = some nx) (K : hy_Nx lay_D_hasLetter p l e (hy_rm 0 0 w0) s m args below meth c 2 G A ad0 w0.1.length (hy_Q below G ad0 w0 o args s) o nx) : hy_At lay_D_hasLetter p l e (hy_rm 0 0 w0) s m args below meth c 2 G A ad0 w0.1.length (hy_Q below G ad0 w0 o args s) q := by
  unfold nx_D_hasLetter at hq
  split at hq
  · exact sk_D_hasLetter_0 hl9 hA B _ _ nx hq K
  · exact sk_D_hasLetter_2 hl9 hA B _ _ _ nx hq K
  · cases hq
theorem c_D_hasLetter {l : Launch} (hl9 : l.flags = flags0) (G : hy_G) (ad : Nat → Nat) {v0 : Nat} {w : hy_W} {o : hy_O} (h : f_D_hasLetter [.ref v0] w = some o) : hy_M l y_D_hasLetter (Cond.code y_D_hasLetter b_D_hasLetter 2 (some .boolean) :: hy_T) 0 0 G ad [.ref v0] w o := by
  obtain ⟨n, hn⟩ := hy_fx_iff.mp h
  refine hy_ofW hl9 (by decide +kernel) (Nat.le_of_ble_eq_true rfl) (fun p e s m args below meth c A hA hi B S hok ls hl => ?_)
  exact hy_loop (nk_D_hasLetter hl9 hA B) n _ hn ad s.heap [] 0 0 ls S hok hl
theorem d_D_hasEdgeWithin_0 : decode b_D_hasEdgeWithin 0 = .ok (.iconst 1, 1) := by decide +kernel
theorem d_D_hasEdgeWithin_1 : decode b_D_hasEdgeWithin 1 = .ok (.istore_n 1, 1) := by decide +kernel
theorem d_D_hasEdgeWithin_2 : decode b_D_hasEdgeWithin 2 = .ok (.iload_n 1, 1) := by decide +kernel
theorem d_D_hasEdgeWithin_3 : decode b_D_hasEdgeWithin 3 = .ok (.aload_n 0, 1) := by decide +kernel
theorem d_D_hasEdgeWithin_4 : decode b_D_hasEdgeWithin 4 = .ok (.getfield 18, 3) := by decide +kernel
theorem d_D_hasEdgeWithin_7 : decode b_D_hasEdgeWithin 7 = .ok (.iconst 1, 1) := by decide +kernel
theorem d_D_hasEdgeWithin_8 : decode b_D_hasEdgeWithin 8 = .ok (.isub, 1) := by decide +kernel
theorem d_D_hasEdgeWithin_9 : decode b_D_hasEdgeWithin 9 = .ok (.if_icmp .ge 20, 3) := by decide +kernel
theorem d_D_hasEdgeWithin_12 : decode b_D_hasEdgeWithin 12 = .ok (.aload_n 0, 1) := by decide +kernel
theorem d_D_hasEdgeWithin_13 : decode b_D_hasEdgeWithin 13 = .ok (.getfield 9, 3) := by decide +kernel
theorem d_D_hasEdgeWithin_16 : decode b_D_hasEdgeWithin 16 = .ok (.iload_n 1, 1) := by decide +kernel
theorem d_D_hasEdgeWithin_17 : decode b_D_hasEdgeWithin 17 = .ok (.iaload, 1) := by decide +kernel
theorem d_D_hasEdgeWithin_18 : decode b_D_hasEdgeWithin 18 = .ok (.ifCond .ne 5, 3) := by decide +kernel
theorem d_D_hasEdgeWithin_21 : decode b_D_hasEdgeWithin 21 = .ok (.iconst 1, 1) := by decide +kernel
theorem d_D_hasEdgeWithin_22 : decode b_D_hasEdgeWithin 22 = .ok (.ireturn, 1) := by decide +kernel
theorem d_D_hasEdgeWithin_23 : decode b_D_hasEdgeWithin 23 = .ok (.iinc 1 1, 3) := by decide +kernel
theorem d_D_hasEdgeWithin_26 : decode b_D_hasEdgeWithin 26 = .ok (.goto (-24), 3) := by decide +kernel
theorem d_D_hasEdgeWithin_29 : decode b_D_hasEdgeWithin 29 = .ok (.iconst 0, 1) := by decide +kernel
theorem d_D_hasEdgeWithin_30 : decode b_D_hasEdgeWithin 30 = .ok (.ireturn, 1) := by decide +kernel
def lay_D_hasEdgeWithin (pc : Nat) : List Nat := if pc = 0 then [0] else if pc = 2 then [0, 1] else []
noncomputable def sg_D_hasEdgeWithin_0 (v0 : Nat) (w : hy_W) : Option hy_N := some (.inl (2, [.ref v0, .int 1], w))
noncomputable def sg_D_hasEdgeWithin_2 (v0 : Nat) (v1 : Int32) (w : hy_W) : Option hy_N := (hy_gi w v0 0 2).bind fun x1 => if (x1 - 1) ≤ v1 then (some (.inr (.inl (some (.int 0)), w))) else ((hy_gr w v0 0 0).bind fun r3 => (hy_ai w r3 v1).bind fun x4 => if x4 = 0 then (some (.inr (.inl (some (.int 1)), w))) else (some (.inl (2, [.ref v0, .int (v1 + 1)], w))))
noncomputable def nx_D_hasEdgeWithin (q : hy_P) : Option hy_N := match q with
  | (0, [.ref v0], w) => sg_D_hasEdgeWithin_0 v0 w
  | (2, [.ref v0, .int v1], w) => sg_D_hasEdgeWithin_2 v0 v1 w
  | _ => none
noncomputable def f_D_hasEdgeWithin (av : List Value) (w : hy_W) : Option hy_O := hy_fx nx_D_hasEdgeWithin (0, av, w)
set_option maxHeartbeats 4000000 in
set_option maxRecDepth 100000 in
theorem sk_D_hasEdgeWithin_0 {p : Program} {l : Launch} {e : Env} {s : State} {m : MethodId} {args : Array Value} {below : List Frame} {meth : Method} {c : Code} {G : hy_G} {A : Nat → Prop} {ad0 : Nat → Nat} {w0 : hy_W} {o : hy_O} (hl9 : l.flags = flags0) (hA : hy_A G ad0 w0 s.heap.size = A) (B : hy_B p l e (hy_rm 0 0 w0) s m args below meth c "HyphenPatterns$Draft" b_D_hasEdgeWithin 2 (some .boolean) [] G A) (v0 : Nat) (w : hy_W) (nx : hy_N) (h : sg_D_hasEdgeWithin_0 v0 w = some nx) (K : hy_Nx lay_D_hasEdgeWithin p l e (hy_rm 0 0 w0) s m args below meth c 2 G A ad0 w0.1.length (hy_Q below G ad0 w0 o args s) o nx) : hy_At lay_D_hasEdgeWithin p l e (hy_rm 0 0 w0) s m args below meth c 2 G A ad0 w0.1.length (hy_Q below G ad0 w0 o args s) (0, [.ref v0], w) := by
  intro ad H locs cells slots ls S hok hl
  have hx := B.1
  have hb := B.2.1
  dsimp only at S hok
  have hl : lv_has ls 2 [(0, .ref (ad v0))] := hl
  show W p l e (hy_rm 0 0 w0) s m args below meth c H locs cells slots (hy_Q below G ad0 w0 o args s) (F0 m 0 ls [])
  have hv_v0 : v0 < w.1.length := hok (.ref v0) (List.mem_of_getElem? (i := 0) rfl) v0 rfl
  obtain ⟨a_v0, ha_v0⟩ : ∃ a, ad v0 = a := ⟨_, rfl⟩
  rw [ha_v0] at hl
  unfold sg_D_hasEdgeWithin_0 at h
  refine lv_iconst (v := 1) hx hb d_D_hasEdgeWithin_0 (by decide) ?_
  refine lv_istore_n (lv' := [(1, .int 1), (0, .ref a_v0)]) hx hb d_D_hasEdgeWithin_1 rfl hl (Nat.le_of_ble_eq_true rfl) rfl (fun ls hl => ?_)
  cases h
  exact hy_jump K S (hy_okr (by omega) (hy_oki hy_ok0)) (lv_sub hl [1, 0] rfl) (by subst ha_v0; rfl) (by subst ha_v0; rfl)
set_option maxHeartbeats 4000000 in
set_option maxRecDepth 100000 in
theorem sk_D_hasEdgeWithin_2 {p : Program} {l : Launch} {e : Env} {s : State} {m : MethodId} {args : Array Value} {below : List Frame} {meth : Method} {c : Code} {G : hy_G} {A : Nat → Prop} {ad0 : Nat → Nat} {w0 : hy_W} {o : hy_O} (hl9 : l.flags = flags0) (hA : hy_A G ad0 w0 s.heap.size = A) (B : hy_B p l e (hy_rm 0 0 w0) s m args below meth c "HyphenPatterns$Draft" b_D_hasEdgeWithin 2 (some .boolean) [] G A) (v0 : Nat) (v1 : Int32) (w : hy_W) (nx : hy_N) (h : sg_D_hasEdgeWithin_2 v0 v1 w = some nx) (K : hy_Nx lay_D_hasEdgeWithin p l e (hy_rm 0 0 w0) s m args below meth c 2 G A ad0 w0.1.length (hy_Q below G ad0 w0 o args s) o nx) : hy_At lay_D_hasEdgeWithin p l e (hy_rm 0 0 w0) s m args below meth c 2 G A ad0 w0.1.length (hy_Q below G ad0 w0 o args s) (2, [.ref v0, .int v1], w) := by
  intro ad H locs cells slots ls S hok hl
  have hx := B.1
  have hb := B.2.1
  dsimp only at S hok
  have hl : lv_has ls 2 [(0, .ref (ad v0)), (1, .int v1)] := hl
  show W p l e (hy_rm 0 0 w0) s m args below meth c H locs cells slots (hy_Q below G ad0 w0 o args s) (F0 m 2 ls [])
  have hv_v0 : v0 < w.1.length := hok (.ref v0) (List.mem_of_getElem? (i := 0) rfl) v0 rfl
  obtain ⟨a_v0, ha_v0⟩ : ∃ a, ad v0 = a := ⟨_, rfl⟩
  rw [ha_v0] at hl
  unfold sg_D_hasEdgeWithin_2 at h
  refine lv_iload_n hx hb d_D_hasEdgeWithin_2 rfl (lv_at hl 1 rfl) ?_
  refine lv_aload_n hx hb d_D_hasEdgeWithin_3 rfl (lv_at hl 0 rfl) ?_
  obtain ⟨x1, hx1, h⟩ := hy_bd h
  refine hy_geti B S ha_v0 hx1 rfl (Nat.le_of_ble_eq_true rfl) i_0 (j := 2) tw_66 (fun _ h => h) d_D_hasEdgeWithin_4 ?_
  refine lv_iconst (v := 1) hx hb d_D_hasEdgeWithin_7 (by decide) ?_
  refine lv_isub hx hb d_D_hasEdgeWithin_8 ?_
  refine lv_icmp_ge (tgt := 29) hx hb d_D_hasEdgeWithin_9 (by decide) (fun c2 => ?_) (fun c2 => ?_)
  · rw [if_pos c2] at h
    refine lv_iconst (v := 0) hx hb d_D_hasEdgeWithin_29 (by decide) ?_
    cases h
    cases K
    exact hy_zret hA B S (by decide) d_D_hasEdgeWithin_30
  · rw [if_neg c2] at h
    refine lv_aload_n hx hb d_D_hasEdgeWithin_12 rfl (lv_at hl 0 rfl) ?_
    obtain ⟨r3, hr3, h⟩ := hy_bd h
    refine hy_getr B S ha_v0 hr3 rfl (Nat.le_of_ble_eq_true rfl) i_0 (j := 0) tw_63 (fun _ h => h) d_D_hasEdgeWithin_13 (fun a_r3 ha_r3 hv_r3 => ?_)
    refine lv_iload_n hx hb d_D_hasEdgeWithin_16 rfl (lv_at hl 1 rfl) ?_
    obtain ⟨x4, hx4, h⟩ := hy_bd h
    refine hy_iald B S ha_r3 hx4 d_D_hasEdgeWithin_17 ?_
    refine lv_if_ne (tgt := 23) hx hb d_D_hasEdgeWithin_18 (by decide) (fun c5 => ?_) (fun c5 => ?_)
    · rw [if_neg c5] at h
      refine lv_iinc (v := (v1 + 1)) (lv' := [(1, .int (v1 + 1)), (0, .ref a_v0)]) hx hb d_D_hasEdgeWithin_23 hl (k := 1) rfl rfl (Nat.le_of_ble_eq_true rfl) rfl (fun ls hl => ?_)
      refine lv_goto (tgt := 2) hx hb d_D_hasEdgeWithin_26 (by decide) ?_
      cases h
      exact hy_jump K S (hy_okr (by omega) (hy_oki hy_ok0)) (lv_sub hl [1, 0] rfl) (by subst ha_v0; rfl) (by subst ha_v0; rfl)
    · rw [if_pos c5] at h
      refine lv_iconst (v := 1) hx hb d_D_hasEdgeWithin_21 (by decide) ?_
      cases h
      cases K
      exact hy_zret hA B S (by decide) d_D_hasEdgeWithin_22
theorem nk_D_hasEdgeWithin {p : Program} {l : Launch} {e : Env} {s : State} {m : MethodId} {args : Array Value} {below : List Frame} {meth : Method} {c : Code} {G : hy_G} {A : Nat → Prop} {ad0 : Nat → Nat} {w0 : hy_W} {o : hy_O} (hl9 : l.flags = flags0) (hA : hy_A G ad0 w0 s.heap.size = A) (B : hy_B p l e (hy_rm 0 0 w0) s m args below meth c "HyphenPatterns$Draft" b_D_hasEdgeWithin 2 (some .boolean) [] G A) (q : hy_P) (nx : hy_N) (hq : nx_D_hasEdgeWithin q = some nx) (K : hy_Nx lay_D_hasEdgeWithin p l e (hy_rm 0 0 w0) s m args below meth c 2 G A ad0 w0.1.length (hy_Q below G ad0 w0 o args s) o nx) : hy_At lay_D_hasEdgeWithin p l e (hy_rm 0 0 w0) s m args below meth c 2 G A ad0 w0.1.length (hy_Q below G ad0 w0 o args s) q := by
  unfold nx_D_hasEdgeWithin at hq
  split at hq
  · exact sk_D_hasEdgeWithin_0 hl9 hA B _ _ nx hq K
  · exact sk_D_hasEdgeWithin_2 hl9 hA B _ _ _ nx hq K
  · cases hq
theorem c_D_hasEdgeWithin {l : Launch} (hl9 : l.flags = flags0) (G : hy_G) (ad : Nat → Nat) {v0 : Nat} {w : hy_W} {o : hy_O} (h : f_D_hasEdgeWithin [.ref v0] w = some o) : hy_M l y_D_hasEdgeWithin (Cond.code y_D_hasEdgeWithin b_D_hasEdgeWithin 2 (some .boolean) :: hy_T) 0 0 G ad [.ref v0] w o := by
  obtain ⟨n, hn⟩ := hy_fx_iff.mp h
  refine hy_ofW hl9 (by decide +kernel) (Nat.le_of_ble_eq_true rfl) (fun p e s m args below meth c A hA hi B S hok ls hl => ?_)
  exact hy_loop (nk_D_hasEdgeWithin hl9 hA B) n _ hn ad s.heap [] 0 0 ls S hok hl
theorem d_D_readPattern_0 : decode b_D_readPattern 0 = .ok (.aload_n 0, 1) := by decide +kernel
theorem d_D_readPattern_1 : decode b_D_readPattern 1 = .ok (.invokevirtual 22, 3) := by decide +kernel
theorem d_D_readPattern_4 : decode b_D_readPattern 4 = .ok (.iconst 0, 1) := by decide +kernel
theorem d_D_readPattern_5 : decode b_D_readPattern 5 = .ok (.istore_n 2, 1) := by decide +kernel
theorem d_D_readPattern_6 : decode b_D_readPattern 6 = .ok (.iload_n 2, 1) := by decide +kernel
theorem d_D_readPattern_7 : decode b_D_readPattern 7 = .ok (.aload_n 1, 1) := by decide +kernel
theorem d_D_readPattern_8 : decode b_D_readPattern 8 = .ok (.getfield 25, 3) := by decide +kernel
theorem d_D_readPattern_11 : decode b_D_readPattern 11 = .ok (.if_icmp .ge 57, 3) := by decide +kernel
theorem d_D_readPattern_14 : decode b_D_readPattern 14 = .ok (.aload_n 1, 1) := by decide +kernel
theorem d_D_readPattern_15 : decode b_D_readPattern 15 = .ok (.getfield 28, 3) := by decide +kernel
theorem d_D_readPattern_18 : decode b_D_readPattern 18 = .ok (.iload_n 2, 1) := by decide +kernel
theorem d_D_readPattern_19 : decode b_D_readPattern 19 = .ok (.iaload, 1) := by decide +kernel
theorem d_D_readPattern_20 : decode b_D_readPattern 20 = .ok (.istore_n 3, 1) := by decide +kernel
theorem d_D_readPattern_21 : decode b_D_readPattern 21 = .ok (.iload_n 3, 1) := by decide +kernel
theorem d_D_readPattern_22 : decode b_D_readPattern 22 = .ok (.ifCond .lt 11, 3) := by decide +kernel
theorem d_D_readPattern_25 : decode b_D_readPattern 25 = .ok (.aload_n 0, 1) := by decide +kernel
theorem d_D_readPattern_26 : decode b_D_readPattern 26 = .ok (.iload_n 3, 1) := by decide +kernel
theorem d_D_readPattern_27 : decode b_D_readPattern 27 = .ok (.invokevirtual 31, 3) := by decide +kernel
theorem d_D_readPattern_30 : decode b_D_readPattern 30 = .ok (.goto 23, 3) := by decide +kernel
theorem d_D_readPattern_33 : decode b_D_readPattern 33 = .ok (.iload_n 3, 1) := by decide +kernel
theorem d_D_readPattern_34 : decode b_D_readPattern 34 = .ok (.bipush (-10), 2) := by decide +kernel
theorem d_D_readPattern_36 : decode b_D_readPattern 36 = .ok (.if_icmp .eq 16, 3) := by decide +kernel
theorem d_D_readPattern_39 : decode b_D_readPattern 39 = .ok (.aload_n 0, 1) := by decide +kernel
theorem d_D_readPattern_40 : decode b_D_readPattern 40 = .ok (.iload_n 3, 1) := by decide +kernel
theorem d_D_readPattern_41 : decode b_D_readPattern 41 = .ok (.ineg, 1) := by decide +kernel
theorem d_D_readPattern_42 : decode b_D_readPattern 42 = .ok (.invokevirtual 35, 3) := by decide +kernel
theorem d_D_readPattern_45 : decode b_D_readPattern 45 = .ok (.ifCond .eq 7, 3) := by decide +kernel
theorem d_D_readPattern_48 : decode b_D_readPattern 48 = .ok (.iconst 1, 1) := by decide +kernel
theorem d_D_readPattern_49 : decode b_D_readPattern 49 = .ok (.goto 4, 3) := by decide +kernel
theorem d_D_readPattern_52 : decode b_D_readPattern 52 = .ok (.iconst 0, 1) := by decide +kernel
theorem d_D_readPattern_53 : decode b_D_readPattern 53 = .ok (.istore 4, 2) := by decide +kernel
theorem d_D_readPattern_55 : decode b_D_readPattern 55 = .ok (.iload 4, 2) := by decide +kernel
theorem d_D_readPattern_57 : decode b_D_readPattern 57 = .ok (.ifCond .ne 5, 3) := by decide +kernel
theorem d_D_readPattern_60 : decode b_D_readPattern 60 = .ok (.iconst 0, 1) := by decide +kernel
theorem d_D_readPattern_61 : decode b_D_readPattern 61 = .ok (.ireturn, 1) := by decide +kernel
theorem d_D_readPattern_62 : decode b_D_readPattern 62 = .ok (.iinc 2 1, 3) := by decide +kernel
theorem d_D_readPattern_65 : decode b_D_readPattern 65 = .ok (.goto (-59), 3) := by decide +kernel
theorem d_D_readPattern_68 : decode b_D_readPattern 68 = .ok (.aload_n 0, 1) := by decide +kernel
theorem d_D_readPattern_69 : decode b_D_readPattern 69 = .ok (.getfield 18, 3) := by decide +kernel
theorem d_D_readPattern_72 : decode b_D_readPattern 72 = .ok (.bipush 16, 2) := by decide +kernel
theorem d_D_readPattern_74 : decode b_D_readPattern 74 = .ok (.if_icmp .gt 21, 3) := by decide +kernel
theorem d_D_readPattern_77 : decode b_D_readPattern 77 = .ok (.aload_n 0, 1) := by decide +kernel
theorem d_D_readPattern_78 : decode b_D_readPattern 78 = .ok (.invokevirtual 38, 3) := by decide +kernel
theorem d_D_readPattern_81 : decode b_D_readPattern 81 = .ok (.ifCond .eq 14, 3) := by decide +kernel
theorem d_D_readPattern_84 : decode b_D_readPattern 84 = .ok (.aload_n 0, 1) := by decide +kernel
theorem d_D_readPattern_85 : decode b_D_readPattern 85 = .ok (.invokevirtual 42, 3) := by decide +kernel
theorem d_D_readPattern_88 : decode b_D_readPattern 88 = .ok (.ifCond .ne 7, 3) := by decide +kernel
theorem d_D_readPattern_91 : decode b_D_readPattern 91 = .ok (.iconst 1, 1) := by decide +kernel
theorem d_D_readPattern_92 : decode b_D_readPattern 92 = .ok (.goto 4, 3) := by decide +kernel
theorem d_D_readPattern_95 : decode b_D_readPattern 95 = .ok (.iconst 0, 1) := by decide +kernel
theorem d_D_readPattern_96 : decode b_D_readPattern 96 = .ok (.ireturn, 1) := by decide +kernel
def lay_D_readPattern (pc : Nat) : List Nat := if pc = 0 then [0, 1] else if pc = 6 then [0, 1, 2] else if pc = 52 then [0, 1, 2] else if pc = 53 then [0, 1, 2] else if pc = 95 then [] else []
noncomputable def sg_D_readPattern_0 (v0 : Nat) (v1 : Nat) (w : hy_W) : Option hy_N := if hy_ob w v0 0 = true then hy_bv (f_D_start [.ref v0] w) fun w1 => some (.inl (6, [.ref v0, .ref v1, .int 0], w1)) else none
noncomputable def sg_D_readPattern_6 (v0 : Nat) (v1 : Nat) (v2 : Int32) (w : hy_W) : Option hy_N := (hy_gi w v1 2 3).bind fun x1 => if x1 ≤ v2 then ((hy_gi w v0 0 2).bind fun x3 => if (16 : Int32) < x3 then (some (.inl (95, [], w))) else (if hy_ob w v0 0 = true then hy_bi (f_D_hasLetter [.ref v0] w) fun x7 w5 => if x7 = 0 then (some (.inl (95, [], w5))) else (if hy_ob w5 v0 0 = true then hy_bi (f_D_hasEdgeWithin [.ref v0] w5) fun x12 w10 => if x12 = 0 then (some (.inr (.inl (some (.int 1)), w10))) else (some (.inl (95, [], w10))) else none) else none)) else ((hy_gr w v1 2 0).bind fun r15 => (hy_ai w r15 v2).bind fun x16 => if x16 < 0 then (if x16 = (-10) then (some (.inl (52, [.ref v0, .ref v1, .int v2], w))) else (if hy_ob w v0 0 = true then hy_bi (f_D_takeValue [.ref v0, .int (-x16)] w) fun x21 w19 => if x21 = 0 then (some (.inl (52, [.ref v0, .ref v1, .int v2], w19))) else (some (.inl (53, [.ref v0, .ref v1, .int v2, .int 1], w19))) else none)) else (if hy_ob w v0 0 = true then hy_bi (f_D_takeLetter [.ref v0, .int x16] w) fun x26 w24 => some (.inl (53, [.ref v0, .ref v1, .int v2, .int x26], w24)) else none))
noncomputable def sg_D_readPattern_52 (v0 : Nat) (v1 : Nat) (v2 : Int32) (w : hy_W) : Option hy_N := some (.inl (53, [.ref v0, .ref v1, .int v2, .int 0], w))
noncomputable def sg_D_readPattern_53 (v0 : Nat) (v1 : Nat) (v2 : Int32) (s0 : Int32) (w : hy_W) : Option hy_N := if s0 = 0 then (some (.inr (.inl (some (.int 0)), w))) else (some (.inl (6, [.ref v0, .ref v1, .int (v2 + 1)], w)))
noncomputable def sg_D_readPattern_95  (w : hy_W) : Option hy_N := some (.inr (.inl (some (.int 0)), w))
noncomputable def nx_D_readPattern (q : hy_P) : Option hy_N := match q with
  | (0, [.ref v0, .ref v1], w) => sg_D_readPattern_0 v0 v1 w
  | (6, [.ref v0, .ref v1, .int v2], w) => sg_D_readPattern_6 v0 v1 v2 w
  | (52, [.ref v0, .ref v1, .int v2], w) => sg_D_readPattern_52 v0 v1 v2 w
  | (53, [.ref v0, .ref v1, .int v2, .int s0], w) => sg_D_readPattern_53 v0 v1 v2 s0 w
  | (95, [], w) => sg_D_readPattern_95  w
  | _ => none
noncomputable def f_D_readPattern (av : List Value) (w : hy_W) : Option hy_O := hy_fx nx_D_readPattern (0, av, w)
set_option maxHeartbeats 4000000 in
set_option maxRecDepth 100000 in
theorem sk_D_readPattern_0 {p : Program} {l : Launch} {e : Env} {s : State} {m : MethodId} {args : Array Value} {below : List Frame} {meth : Method} {c : Code} {G : hy_G} {A : Nat → Prop} {ad0 : Nat → Nat} {w0 : hy_W} {o : hy_O} (hl9 : l.flags = flags0) (hA : hy_A G ad0 w0 s.heap.size = A) (B : hy_B p l e (hy_rm 1 21 w0) s m args below meth c "HyphenPatterns$Draft" b_D_readPattern 5 (some .boolean) [] G A) (v0 : Nat) (v1 : Nat) (w : hy_W) (nx : hy_N) (h : sg_D_readPattern_0 v0 v1 w = some nx) (K : hy_Nx lay_D_readPattern p l e (hy_rm 1 21 w0) s m args below meth c 5 G A ad0 w0.1.length (hy_Q below G ad0 w0 o args s) o nx) : hy_At lay_D_readPattern p l e (hy_rm 1 21 w0) s m args below meth c 5 G A ad0 w0.1.length (hy_Q below G ad0 w0 o args s) (0, [.ref v0, .ref v1], w) := by
  intro ad H locs cells slots ls S hok hl
  have hx := B.1
  have hb := B.2.1
  dsimp only at S hok
  have hl : lv_has ls 5 [(0, .ref (ad v0)), (1, .ref (ad v1))] := hl
  show W p l e (hy_rm 1 21 w0) s m args below meth c H locs cells slots (hy_Q below G ad0 w0 o args s) (F0 m 0 ls [])
  have hv_v0 : v0 < w.1.length := hok (.ref v0) (List.mem_of_getElem? (i := 0) rfl) v0 rfl
  obtain ⟨a_v0, ha_v0⟩ : ∃ a, ad v0 = a := ⟨_, rfl⟩
  rw [ha_v0] at hl
  have hv_v1 : v1 < w.1.length := hok (.ref v1) (List.mem_of_getElem? (i := 1) rfl) v1 rfl
  obtain ⟨a_v1, ha_v1⟩ : ∃ a, ad v1 = a := ⟨_, rfl⟩
  rw [ha_v1] at hl
  unfold sg_D_readPattern_0 at h
  refine lv_aload_n hx hb d_D_readPattern_0 rfl (lv_at hl 0 rfl) ?_
  obtain ⟨ob4, h⟩ := hy_if h
  obtain ⟨fs_ob4, hf_ob4, hg_ob4⟩ := hy_ob_spec ob4
  obtain ⟨w1, hq_w1, h⟩ := hy_bv_spec h
  refine hy_callv (hy_runV (rest := []) (As := []) (r := v0) (b := a_v0) B S rfl ha_v0 (by rfl) (c_D_start hl9 G ad hq_w1) (hy_okr (by omega) hy_ok0) tw_480 tw_3 tw_477 tw_479 sl_D_start (by decide) rfl (Nat.le_of_ble_eq_true rfl) (Nat.le_of_ble_eq_true rfl) hf_ob4 hg_ob4 rfl hl.1 (Nat.le_of_ble_eq_true rfl) d_D_readPattern_1) (fun ad2 H locs cells slots hag hl_w1 S => ?_)
  have ha_v0 : ad2 v0 = a_v0 := (hag v0 (by omega)).trans ha_v0
  have ha_v1 : ad2 v1 = a_v1 := (hag v1 (by omega)).trans ha_v1
  refine lv_iconst (v := 0) hx hb d_D_readPattern_4 (by decide) ?_
  refine lv_istore_n (lv' := [(2, .int 0), (0, .ref a_v0), (1, .ref a_v1)]) hx hb d_D_readPattern_5 rfl hl (Nat.le_of_ble_eq_true rfl) rfl (fun ls hl => ?_)
  cases h
  exact hy_jump K S (hy_okr (by omega) (hy_okr (by omega) (hy_oki hy_ok0))) (lv_sub hl [1, 2, 0] rfl) (by subst ha_v0 ha_v1; rfl) (by subst ha_v0 ha_v1; rfl)
set_option maxHeartbeats 4000000 in
set_option maxRecDepth 100000 in
theorem sk_D_readPattern_6 {p : Program} {l : Launch} {e : Env} {s : State} {m : MethodId} {args : Array Value} {below : List Frame} {meth : Method} {c : Code} {G : hy_G} {A : Nat → Prop} {ad0 : Nat → Nat} {w0 : hy_W} {o : hy_O} (hl9 : l.flags = flags0) (hA : hy_A G ad0 w0 s.heap.size = A) (B : hy_B p l e (hy_rm 1 21 w0) s m args below meth c "HyphenPatterns$Draft" b_D_readPattern 5 (some .boolean) [] G A) (v0 : Nat) (v1 : Nat) (v2 : Int32) (w : hy_W) (nx : hy_N) (h : sg_D_readPattern_6 v0 v1 v2 w = some nx) (K : hy_Nx lay_D_readPattern p l e (hy_rm 1 21 w0) s m args below meth c 5 G A ad0 w0.1.length (hy_Q below G ad0 w0 o args s) o nx) : hy_At lay_D_readPattern p l e (hy_rm 1 21 w0) s m args below meth c 5 G A ad0 w0.1.length (hy_Q below G ad0 w0 o args s) (6, [.ref v0, .ref v1, .int v2], w) := by
  intro ad H locs cells slots ls S hok hl
  have hx := B.1
  have hb := B.2.1
  dsimp only at S hok
  have hl : lv_has ls 5 [(0, .ref (ad v0)), (1, .ref (ad v1)), (2, .int v2)] := hl
  show W p l e (hy_rm 1 21 w0) s m args below meth c H locs cells slots (hy_Q below G ad0 w0 o args s) (F0 m 6 ls [])
  have hv_v0 : v0 < w.1.length := hok (.ref v0) (List.mem_of_getElem? (i := 0) rfl) v0 rfl
  obtain ⟨a_v0, ha_v0⟩ : ∃ a, ad v0 = a := ⟨_, rfl⟩
  rw [ha_v0] at hl
  have hv_v1 : v1 < w.1.length := hok (.ref v1) (List.mem_of_getElem? (i := 1) rfl) v1 rfl
  obtain ⟨a_v1, ha_v1⟩ : ∃ a, ad v1 = a := ⟨_, rfl⟩
  rw [ha_v1] at hl
  unfold sg_D_readPattern_6 at h
  refine lv_iload_n hx hb d_D_readPattern_6 rfl (lv_at hl 2 rfl) ?_
  refine lv_aload_n hx hb d_D_readPattern_7 rfl (lv_at hl 1 rfl) ?_
  obtain ⟨x1, hx1, h⟩ := hy_bd h
  refine hy_geti B S ha_v1 hx1 rfl (Nat.le_of_ble_eq_true rfl) i_2 (j := 3) tw_45 (fun _ h => h) d_D_readPattern_8 ?_
  refine lv_icmp_ge (tgt := 68) hx hb d_D_readPattern_11 (by decide) (fun c2 => ?_) (fun c2 => ?_)
  · rw [if_pos c2] at h
    refine lv_aload_n hx hb d_D_readPattern_68 rfl (lv_at hl 0 rfl) ?_
    obtain ⟨x3, hx3, h⟩ := hy_bd h
    refine hy_geti B S ha_v0 hx3 rfl (Nat.le_of_ble_eq_true rfl) i_0 (j := 2) tw_66 (fun _ h => h) d_D_readPattern_69 ?_
    refine lv_bipush (v := 16) hx hb d_D_readPattern_72 (by decide) ?_
    refine lv_icmp_gt (tgt := 95) hx hb d_D_readPattern_74 (by decide) (fun c4 => ?_) (fun c4 => ?_)
    · rw [if_pos c4] at h
      cases h
      exact hy_jump K S hy_ok0 (lv_sub hl [] rfl) (by rfl) (by rfl)
    · rw [if_neg c4] at h
      refine lv_aload_n hx hb d_D_readPattern_77 rfl (lv_at hl 0 rfl) ?_
      obtain ⟨ob8, h⟩ := hy_if h
      obtain ⟨fs_ob8, hf_ob8, hg_ob8⟩ := hy_ob_spec ob8
      obtain ⟨x7, w5, hq_w5, h⟩ := hy_bi_spec h
      refine hy_calli (hy_runV (rest := []) (As := []) (r := v0) (b := a_v0) B S rfl ha_v0 (by rfl) (c_D_hasLetter hl9 G ad hq_w5) (hy_okr (by omega) hy_ok0) tw_492 tw_3 tw_489 tw_491 sl_D_hasLetter (by decide) rfl (Nat.le_of_ble_eq_true rfl) (Nat.le_of_ble_eq_true rfl) hf_ob8 hg_ob8 rfl hl.1 (Nat.le_of_ble_eq_true rfl) d_D_readPattern_78) (fun ad6 H locs cells slots hag hl_w5 S => ?_)
      have ha_v0 : ad6 v0 = a_v0 := (hag v0 (by omega)).trans ha_v0
      have ha_v1 : ad6 v1 = a_v1 := (hag v1 (by omega)).trans ha_v1
      refine lv_if_eq (tgt := 95) hx hb d_D_readPattern_81 (by decide) (fun c9 => ?_) (fun c9 => ?_)
      · rw [if_pos c9] at h
        cases h
        exact hy_jump K S hy_ok0 (lv_sub hl [] rfl) (by rfl) (by rfl)
      · rw [if_neg c9] at h
        refine lv_aload_n hx hb d_D_readPattern_84 rfl (lv_at hl 0 rfl) ?_
        obtain ⟨ob13, h⟩ := hy_if h
        obtain ⟨fs_ob13, hf_ob13, hg_ob13⟩ := hy_ob_spec ob13
        obtain ⟨x12, w10, hq_w10, h⟩ := hy_bi_spec h
        refine hy_calli (hy_runV (rest := []) (As := []) (r := v0) (b := a_v0) B S rfl ha_v0 (by rfl) (c_D_hasEdgeWithin hl9 G ad6 hq_w10) (hy_okr (by omega) hy_ok0) tw_496 tw_3 tw_493 tw_495 sl_D_hasEdgeWithin (by decide) rfl (Nat.le_of_ble_eq_true rfl) (Nat.le_of_ble_eq_true rfl) hf_ob13 hg_ob13 rfl hl.1 (Nat.le_of_ble_eq_true rfl) d_D_readPattern_85) (fun ad11 H locs cells slots hag hl_w10 S => ?_)
        have ha_v0 : ad11 v0 = a_v0 := (hag v0 (by omega)).trans ha_v0
        have ha_v1 : ad11 v1 = a_v1 := (hag v1 (by omega)).trans ha_v1
        refine lv_if_ne (tgt := 95) hx hb d_D_readPattern_88 (by decide) (fun c14 => ?_) (fun c14 => ?_)
        · rw [if_neg c14] at h
          cases h
          exact hy_jump K S hy_ok0 (lv_sub hl [] rfl) (by rfl) (by rfl)
        · rw [if_pos c14] at h
          refine lv_iconst (v := 1) hx hb d_D_readPattern_91 (by decide) ?_
          refine lv_goto (tgt := 96) hx hb d_D_readPattern_92 (by decide) ?_
          cases h
          cases K
          exact hy_zret hA B S (by decide) d_D_readPattern_96
  · rw [if_neg c2] at h
    refine lv_aload_n hx hb d_D_readPattern_14 rfl (lv_at hl 1 rfl) ?_
    obtain ⟨r15, hr15, h⟩ := hy_bd h
    refine hy_getr B S ha_v1 hr15 rfl (Nat.le_of_ble_eq_true rfl) i_2 (j := 0) tw_40 (fun _ h => h) d_D_readPattern_15 (fun a_r15 ha_r15 hv_r15 => ?_)
    refine lv_iload_n hx hb d_D_readPattern_18 rfl (lv_at hl 2 rfl) ?_
    obtain ⟨x16, hx16, h⟩ := hy_bd h
    refine hy_iald B S ha_r15 hx16 d_D_readPattern_19 ?_
    refine lv_istore_n (lv' := [(3, .int x16), (0, .ref a_v0), (1, .ref a_v1), (2, .int v2)]) hx hb d_D_readPattern_20 rfl hl (Nat.le_of_ble_eq_true rfl) rfl (fun ls hl => ?_)
    refine lv_iload_n hx hb d_D_readPattern_21 rfl (lv_at hl 0 rfl) ?_
    refine lv_if_lt (tgt := 33) hx hb d_D_readPattern_22 (by decide) (fun c17 => ?_) (fun c17 => ?_)
    · rw [if_pos c17] at h
      refine lv_iload_n hx hb d_D_readPattern_33 rfl (lv_at hl 0 rfl) ?_
      refine lv_bipush (v := (-10)) hx hb d_D_readPattern_34 (by decide) ?_
      refine lv_icmp_eq (tgt := 52) hx hb d_D_readPattern_36 (by decide) (fun c18 => ?_) (fun c18 => ?_)
      · rw [if_pos c18] at h
        cases h
        exact hy_jump K S (hy_okr (by omega) (hy_okr (by omega) (hy_oki hy_ok0))) (lv_sub hl [1, 2, 3] rfl) (by subst ha_v0 ha_v1; rfl) (by subst ha_v0 ha_v1; rfl)
      · rw [if_neg c18] at h
        refine lv_aload_n hx hb d_D_readPattern_39 rfl (lv_at hl 1 rfl) ?_
        refine lv_iload_n hx hb d_D_readPattern_40 rfl (lv_at hl 0 rfl) ?_
        refine lv_ineg hx hb d_D_readPattern_41 ?_
        obtain ⟨ob22, h⟩ := hy_if h
        obtain ⟨fs_ob22, hf_ob22, hg_ob22⟩ := hy_ob_spec ob22
        obtain ⟨x21, w19, hq_w19, h⟩ := hy_bi_spec h
        refine hy_calli (hy_runV (rest := []) (As := [.int (-x16)]) (r := v0) (b := a_v0) B S rfl ha_v0 (by rfl) (c_D_takeValue hl9 G ad hq_w19) (hy_okr (by omega) (hy_oki hy_ok0)) tw_488 tw_3 tw_485 tw_487 sl_D_takeValue (by decide) rfl (Nat.le_of_ble_eq_true rfl) (Nat.le_of_ble_eq_true rfl) hf_ob22 hg_ob22 rfl hl.1 (Nat.le_of_ble_eq_true rfl) d_D_readPattern_42) (fun ad20 H locs cells slots hag hl_w19 S => ?_)
        have ha_v0 : ad20 v0 = a_v0 := (hag v0 (by omega)).trans ha_v0
        have ha_v1 : ad20 v1 = a_v1 := (hag v1 (by omega)).trans ha_v1
        refine lv_if_eq (tgt := 52) hx hb d_D_readPattern_45 (by decide) (fun c23 => ?_) (fun c23 => ?_)
        · rw [if_pos c23] at h
          cases h
          exact hy_jump K S (hy_okr (by omega) (hy_okr (by omega) (hy_oki hy_ok0))) (lv_sub hl [1, 2, 3] rfl) (by subst ha_v0 ha_v1; rfl) (by subst ha_v0 ha_v1; rfl)
        · rw [if_neg c23] at h
          refine lv_iconst (v := 1) hx hb d_D_readPattern_48 (by decide) ?_
          refine lv_goto (tgt := 53) hx hb d_D_readPattern_49 (by decide) ?_
          cases h
          exact hy_jump K S (hy_okr (by omega) (hy_okr (by omega) (hy_oki (hy_oki hy_ok0)))) (lv_sub hl [1, 2, 3] rfl) (by subst ha_v0 ha_v1; rfl) (by subst ha_v0 ha_v1; rfl)
    · rw [if_neg c17] at h
      refine lv_aload_n hx hb d_D_readPattern_25 rfl (lv_at hl 1 rfl) ?_
      refine lv_iload_n hx hb d_D_readPattern_26 rfl (lv_at hl 0 rfl) ?_
      obtain ⟨ob27, h⟩ := hy_if h
      obtain ⟨fs_ob27, hf_ob27, hg_ob27⟩ := hy_ob_spec ob27
      obtain ⟨x26, w24, hq_w24, h⟩ := hy_bi_spec h
      refine hy_calli (hy_runV (rest := []) (As := [.int x16]) (r := v0) (b := a_v0) B S rfl ha_v0 (by rfl) (c_D_takeLetter hl9 G ad hq_w24) (hy_okr (by omega) (hy_oki hy_ok0)) tw_484 tw_3 tw_481 tw_483 sl_D_takeLetter (by decide) rfl (Nat.le_of_ble_eq_true rfl) (Nat.le_of_ble_eq_true rfl) hf_ob27 hg_ob27 rfl hl.1 (Nat.le_of_ble_eq_true rfl) d_D_readPattern_27) (fun ad25 H locs cells slots hag hl_w24 S => ?_)
      have ha_v0 : ad25 v0 = a_v0 := (hag v0 (by omega)).trans ha_v0
      have ha_v1 : ad25 v1 = a_v1 := (hag v1 (by omega)).trans ha_v1
      refine lv_goto (tgt := 53) hx hb d_D_readPattern_30 (by decide) ?_
      cases h
      exact hy_jump K S (hy_okr (by omega) (hy_okr (by omega) (hy_oki (hy_oki hy_ok0)))) (lv_sub hl [1, 2, 3] rfl) (by subst ha_v0 ha_v1; rfl) (by subst ha_v0 ha_v1; rfl)
set_option maxHeartbeats 4000000 in
set_option maxRecDepth 100000 in
theorem sk_D_readPattern_52 {p : Program} {l : Launch} {e : Env} {s : State} {m : MethodId} {args : Array Value} {below : List Frame} {meth : Method} {c : Code} {G : hy_G} {A : Nat → Prop} {ad0 : Nat → Nat} {w0 : hy_W} {o : hy_O} (hl9 : l.flags = flags0) (hA : hy_A G ad0 w0 s.heap.size = A) (B : hy_B p l e (hy_rm 1 21 w0) s m args below meth c "HyphenPatterns$Draft" b_D_readPattern 5 (some .boolean) [] G A) (v0 : Nat) (v1 : Nat) (v2 : Int32) (w : hy_W) (nx : hy_N) (h : sg_D_readPattern_52 v0 v1 v2 w = some nx) (K : hy_Nx lay_D_readPattern p l e (hy_rm 1 21 w0) s m args below meth c 5 G A ad0 w0.1.length (hy_Q below G ad0 w0 o args s) o nx) : hy_At lay_D_readPattern p l e (hy_rm 1 21 w0) s m args below meth c 5 G A ad0 w0.1.length (hy_Q below G ad0 w0 o args s) (52, [.ref v0, .ref v1, .int v2], w) := by
  intro ad H locs cells slots ls S hok hl
  have hx := B.1
  have hb := B.2.1
  dsimp only at S hok
  have hl : lv_has ls 5 [(0, .ref (ad v0)), (1, .ref (ad v1)), (2, .int v2)] := hl
  show W p l e (hy_rm 1 21 w0) s m args below meth c H locs cells slots (hy_Q below G ad0 w0 o args s) (F0 m 52 ls [])
  have hv_v0 : v0 < w.1.length := hok (.ref v0) (List.mem_of_getElem? (i := 0) rfl) v0 rfl
  obtain ⟨a_v0, ha_v0⟩ : ∃ a, ad v0 = a := ⟨_, rfl⟩
  rw [ha_v0] at hl
  have hv_v1 : v1 < w.1.length := hok (.ref v1) (List.mem_of_getElem? (i := 1) rfl) v1 rfl
  obtain ⟨a_v1, ha_v1⟩ : ∃ a, ad v1 = a := ⟨_, rfl⟩
  rw [ha_v1] at hl
  unfold sg_D_readPattern_52 at h
  refine lv_iconst (v := 0) hx hb d_D_readPattern_52 (by decide) ?_
  cases h
  exact hy_jump K S (hy_okr (by omega) (hy_okr (by omega) (hy_oki (hy_oki hy_ok0)))) (lv_sub hl [0, 1, 2] rfl) (by subst ha_v0 ha_v1; rfl) (by subst ha_v0 ha_v1; rfl)
set_option maxHeartbeats 4000000 in
set_option maxRecDepth 100000 in
theorem sk_D_readPattern_53 {p : Program} {l : Launch} {e : Env} {s : State} {m : MethodId} {args : Array Value} {below : List Frame} {meth : Method} {c : Code} {G : hy_G} {A : Nat → Prop} {ad0 : Nat → Nat} {w0 : hy_W} {o : hy_O} (hl9 : l.flags = flags0) (hA : hy_A G ad0 w0 s.heap.size = A) (B : hy_B p l e (hy_rm 1 21 w0) s m args below meth c "HyphenPatterns$Draft" b_D_readPattern 5 (some .boolean) [] G A) (v0 : Nat) (v1 : Nat) (v2 : Int32) (s0 : Int32) (w : hy_W) (nx : hy_N) (h : sg_D_readPattern_53 v0 v1 v2 s0 w = some nx) (K : hy_Nx lay_D_readPattern p l e (hy_rm 1 21 w0) s m args below meth c 5 G A ad0 w0.1.length (hy_Q below G ad0 w0 o args s) o nx) : hy_At lay_D_readPattern p l e (hy_rm 1 21 w0) s m args below meth c 5 G A ad0 w0.1.length (hy_Q below G ad0 w0 o args s) (53, [.ref v0, .ref v1, .int v2, .int s0], w) := by
  intro ad H locs cells slots ls S hok hl
  have hx := B.1
  have hb := B.2.1
  dsimp only at S hok
  have hl : lv_has ls 5 [(0, .ref (ad v0)), (1, .ref (ad v1)), (2, .int v2)] := hl
  show W p l e (hy_rm 1 21 w0) s m args below meth c H locs cells slots (hy_Q below G ad0 w0 o args s) (F0 m 53 ls [.int s0])
  have hv_v0 : v0 < w.1.length := hok (.ref v0) (List.mem_of_getElem? (i := 0) rfl) v0 rfl
  obtain ⟨a_v0, ha_v0⟩ : ∃ a, ad v0 = a := ⟨_, rfl⟩
  rw [ha_v0] at hl
  have hv_v1 : v1 < w.1.length := hok (.ref v1) (List.mem_of_getElem? (i := 1) rfl) v1 rfl
  obtain ⟨a_v1, ha_v1⟩ : ∃ a, ad v1 = a := ⟨_, rfl⟩
  rw [ha_v1] at hl
  unfold sg_D_readPattern_53 at h
  refine lv_istore (lv' := [(4, .int s0), (0, .ref a_v0), (1, .ref a_v1), (2, .int v2)]) hx hb d_D_readPattern_53 hl (Nat.le_of_ble_eq_true rfl) rfl (fun ls hl => ?_)
  refine lv_iload hx hb d_D_readPattern_55 (lv_at hl 0 rfl) ?_
  refine lv_if_ne (tgt := 62) hx hb d_D_readPattern_57 (by decide) (fun c1 => ?_) (fun c1 => ?_)
  · rw [if_neg c1] at h
    refine lv_iinc (v := (v2 + 1)) (lv' := [(2, .int (v2 + 1)), (4, .int s0), (0, .ref a_v0), (1, .ref a_v1)]) hx hb d_D_readPattern_62 hl (k := 3) rfl rfl (Nat.le_of_ble_eq_true rfl) rfl (fun ls hl => ?_)
    refine lv_goto (tgt := 6) hx hb d_D_readPattern_65 (by decide) ?_
    cases h
    exact hy_jump K S (hy_okr (by omega) (hy_okr (by omega) (hy_oki hy_ok0))) (lv_sub hl [2, 3, 0] rfl) (by subst ha_v0 ha_v1; rfl) (by subst ha_v0 ha_v1; rfl)
  · rw [if_pos c1] at h
    refine lv_iconst (v := 0) hx hb d_D_readPattern_60 (by decide) ?_
    cases h
    cases K
    exact hy_zret hA B S (by decide) d_D_readPattern_61
set_option maxHeartbeats 4000000 in
set_option maxRecDepth 100000 in
theorem sk_D_readPattern_95 {p : Program} {l : Launch} {e : Env} {s : State} {m : MethodId} {args : Array Value} {below : List Frame} {meth : Method} {c : Code} {G : hy_G} {A : Nat → Prop} {ad0 : Nat → Nat} {w0 : hy_W} {o : hy_O} (hl9 : l.flags = flags0) (hA : hy_A G ad0 w0 s.heap.size = A) (B : hy_B p l e (hy_rm 1 21 w0) s m args below meth c "HyphenPatterns$Draft" b_D_readPattern 5 (some .boolean) [] G A)  (w : hy_W) (nx : hy_N) (h : sg_D_readPattern_95  w = some nx) (K : hy_Nx lay_D_readPattern p l e (hy_rm 1 21 w0) s m args below meth c 5 G A ad0 w0.1.length (hy_Q below G ad0 w0 o args s) o nx) : hy_At lay_D_readPattern p l e (hy_rm 1 21 w0) s m args below meth c 5 G A ad0 w0.1.length (hy_Q below G ad0 w0 o args s) (95, [], w) := by
  intro ad H locs cells slots ls S hok hl
  have hx := B.1
  have hb := B.2.1
  dsimp only at S hok
  have hl : lv_has ls 5 [] := hl
  show W p l e (hy_rm 1 21 w0) s m args below meth c H locs cells slots (hy_Q below G ad0 w0 o args s) (F0 m 95 ls [])
  unfold sg_D_readPattern_95 at h
  refine lv_iconst (v := 0) hx hb d_D_readPattern_95 (by decide) ?_
  cases h
  cases K
  exact hy_zret hA B S (by decide) d_D_readPattern_96
theorem nk_D_readPattern {p : Program} {l : Launch} {e : Env} {s : State} {m : MethodId} {args : Array Value} {below : List Frame} {meth : Method} {c : Code} {G : hy_G} {A : Nat → Prop} {ad0 : Nat → Nat} {w0 : hy_W} {o : hy_O} (hl9 : l.flags = flags0) (hA : hy_A G ad0 w0 s.heap.size = A) (B : hy_B p l e (hy_rm 1 21 w0) s m args below meth c "HyphenPatterns$Draft" b_D_readPattern 5 (some .boolean) [] G A) (q : hy_P) (nx : hy_N) (hq : nx_D_readPattern q = some nx) (K : hy_Nx lay_D_readPattern p l e (hy_rm 1 21 w0) s m args below meth c 5 G A ad0 w0.1.length (hy_Q below G ad0 w0 o args s) o nx) : hy_At lay_D_readPattern p l e (hy_rm 1 21 w0) s m args below meth c 5 G A ad0 w0.1.length (hy_Q below G ad0 w0 o args s) q := by
  unfold nx_D_readPattern at hq
  split at hq
  · exact sk_D_readPattern_0 hl9 hA B _ _ _ nx hq K
  · exact sk_D_readPattern_6 hl9 hA B _ _ _ _ nx hq K
  · exact sk_D_readPattern_52 hl9 hA B _ _ _ _ nx hq K
  · exact sk_D_readPattern_53 hl9 hA B _ _ _ _ _ nx hq K
  · exact sk_D_readPattern_95 hl9 hA B _ nx hq K
  · cases hq
theorem c_D_readPattern {l : Launch} (hl9 : l.flags = flags0) (G : hy_G) (ad : Nat → Nat) {v0 : Nat} {v1 : Nat} {w : hy_W} {o : hy_O} (h : f_D_readPattern [.ref v0, .ref v1] w = some o) : hy_M l y_D_readPattern (Cond.code y_D_readPattern b_D_readPattern 5 (some .boolean) :: hy_T) 1 21 G ad [.ref v0, .ref v1] w o := by
  obtain ⟨n, hn⟩ := hy_fx_iff.mp h
  refine hy_ofW hl9 (by decide +kernel) (Nat.le_of_ble_eq_true rfl) (fun p e s m args below meth c A hA hi B S hok ls hl => ?_)
  exact hy_loop (nk_D_readPattern hl9 hA B) n _ hn ad s.heap [] 0 0 ls S hok hl
theorem d_H_patternsInAll_0 : decode b_H_patternsInAll 0 = .ok (.iconst 0, 1) := by decide +kernel
theorem d_H_patternsInAll_1 : decode b_H_patternsInAll 1 = .ok (.istore_n 1, 1) := by decide +kernel
theorem d_H_patternsInAll_2 : decode b_H_patternsInAll 2 = .ok (.iconst 0, 1) := by decide +kernel
theorem d_H_patternsInAll_3 : decode b_H_patternsInAll 3 = .ok (.istore_n 2, 1) := by decide +kernel
theorem d_H_patternsInAll_4 : decode b_H_patternsInAll 4 = .ok (.iload_n 2, 1) := by decide +kernel
theorem d_H_patternsInAll_5 : decode b_H_patternsInAll 5 = .ok (.iconst 4, 1) := by decide +kernel
theorem d_H_patternsInAll_6 : decode b_H_patternsInAll 6 = .ok (.if_icmp .ge 24, 3) := by decide +kernel
theorem d_H_patternsInAll_9 : decode b_H_patternsInAll 9 = .ok (.iload_n 1, 1) := by decide +kernel
theorem d_H_patternsInAll_10 : decode b_H_patternsInAll 10 = .ok (.aload_n 0, 1) := by decide +kernel
theorem d_H_patternsInAll_11 : decode b_H_patternsInAll 11 = .ok (.getfield 11, 3) := by decide +kernel
theorem d_H_patternsInAll_14 : decode b_H_patternsInAll 14 = .ok (.iload_n 2, 1) := by decide +kernel
theorem d_H_patternsInAll_15 : decode b_H_patternsInAll 15 = .ok (.aaload, 1) := by decide +kernel
theorem d_H_patternsInAll_16 : decode b_H_patternsInAll 16 = .ok (.getfield 99, 3) := by decide +kernel
theorem d_H_patternsInAll_19 : decode b_H_patternsInAll 19 = .ok (.invokevirtual 121, 3) := by decide +kernel
theorem d_H_patternsInAll_22 : decode b_H_patternsInAll 22 = .ok (.iadd, 1) := by decide +kernel
theorem d_H_patternsInAll_23 : decode b_H_patternsInAll 23 = .ok (.istore_n 1, 1) := by decide +kernel
theorem d_H_patternsInAll_24 : decode b_H_patternsInAll 24 = .ok (.iinc 2 1, 3) := by decide +kernel
theorem d_H_patternsInAll_27 : decode b_H_patternsInAll 27 = .ok (.goto (-23), 3) := by decide +kernel
theorem d_H_patternsInAll_30 : decode b_H_patternsInAll 30 = .ok (.iload_n 1, 1) := by decide +kernel
theorem d_H_patternsInAll_31 : decode b_H_patternsInAll 31 = .ok (.ireturn, 1) := by decide +kernel
def lay_H_patternsInAll (pc : Nat) : List Nat := if pc = 0 then [0] else if pc = 4 then [0, 1, 2] else []
noncomputable def sg_H_patternsInAll_0 (v0 : Nat) (w : hy_W) : Option hy_N := some (.inl (4, [.ref v0, .int 0, .int 0], w))
noncomputable def sg_H_patternsInAll_4 (v0 : Nat) (v1 : Int32) (v2 : Int32) (w : hy_W) : Option hy_N := if (4 : Int32) ≤ v2 then (some (.inr (.inl (some (.int v1)), w))) else ((hy_gr w v0 5 0).bind fun r2 => (hy_ar w 2 r2 v2).bind fun r3 => (hy_gr w r3 1 3).bind fun r4 => if hy_ob w r4 7 = true then hy_bi (f_A_size [.ref r4] w) fun x7 w5 => some (.inl (4, [.ref v0, .int (v1 + x7), .int (v2 + 1)], w5)) else none)
noncomputable def nx_H_patternsInAll (q : hy_P) : Option hy_N := match q with
  | (0, [.ref v0], w) => sg_H_patternsInAll_0 v0 w
  | (4, [.ref v0, .int v1, .int v2], w) => sg_H_patternsInAll_4 v0 v1 v2 w
  | _ => none
noncomputable def f_H_patternsInAll (av : List Value) (w : hy_W) : Option hy_O := hy_fx nx_H_patternsInAll (0, av, w)
set_option maxHeartbeats 4000000 in
set_option maxRecDepth 100000 in
theorem sk_H_patternsInAll_0 {p : Program} {l : Launch} {e : Env} {s : State} {m : MethodId} {args : Array Value} {below : List Frame} {meth : Method} {c : Code} {G : hy_G} {A : Nat → Prop} {ad0 : Nat → Nat} {w0 : hy_W} {o : hy_O} (hl9 : l.flags = flags0) (hA : hy_A G ad0 w0 s.heap.size = A) (B : hy_B p l e (hy_rm 1 20 w0) s m args below meth c "HyphenPatterns" b_H_patternsInAll 3 (some .int) [] G A) (v0 : Nat) (w : hy_W) (nx : hy_N) (h : sg_H_patternsInAll_0 v0 w = some nx) (K : hy_Nx lay_H_patternsInAll p l e (hy_rm 1 20 w0) s m args below meth c 3 G A ad0 w0.1.length (hy_Q below G ad0 w0 o args s) o nx) : hy_At lay_H_patternsInAll p l e (hy_rm 1 20 w0) s m args below meth c 3 G A ad0 w0.1.length (hy_Q below G ad0 w0 o args s) (0, [.ref v0], w) := by
  intro ad H locs cells slots ls S hok hl
  have hx := B.1
  have hb := B.2.1
  dsimp only at S hok
  have hl : lv_has ls 3 [(0, .ref (ad v0))] := hl
  show W p l e (hy_rm 1 20 w0) s m args below meth c H locs cells slots (hy_Q below G ad0 w0 o args s) (F0 m 0 ls [])
  have hv_v0 : v0 < w.1.length := hok (.ref v0) (List.mem_of_getElem? (i := 0) rfl) v0 rfl
  obtain ⟨a_v0, ha_v0⟩ : ∃ a, ad v0 = a := ⟨_, rfl⟩
  rw [ha_v0] at hl
  unfold sg_H_patternsInAll_0 at h
  refine lv_iconst (v := 0) hx hb d_H_patternsInAll_0 (by decide) ?_
  refine lv_istore_n (lv' := [(1, .int 0), (0, .ref a_v0)]) hx hb d_H_patternsInAll_1 rfl hl (Nat.le_of_ble_eq_true rfl) rfl (fun ls hl => ?_)
  refine lv_iconst (v := 0) hx hb d_H_patternsInAll_2 (by decide) ?_
  refine lv_istore_n (lv' := [(2, .int 0), (1, .int 0), (0, .ref a_v0)]) hx hb d_H_patternsInAll_3 rfl hl (Nat.le_of_ble_eq_true rfl) rfl (fun ls hl => ?_)
  cases h
  exact hy_jump K S (hy_okr (by omega) (hy_oki (hy_oki hy_ok0))) (lv_sub hl [2, 1, 0] rfl) (by subst ha_v0; rfl) (by subst ha_v0; rfl)
set_option maxHeartbeats 4000000 in
set_option maxRecDepth 100000 in
theorem sk_H_patternsInAll_4 {p : Program} {l : Launch} {e : Env} {s : State} {m : MethodId} {args : Array Value} {below : List Frame} {meth : Method} {c : Code} {G : hy_G} {A : Nat → Prop} {ad0 : Nat → Nat} {w0 : hy_W} {o : hy_O} (hl9 : l.flags = flags0) (hA : hy_A G ad0 w0 s.heap.size = A) (B : hy_B p l e (hy_rm 1 20 w0) s m args below meth c "HyphenPatterns" b_H_patternsInAll 3 (some .int) [] G A) (v0 : Nat) (v1 : Int32) (v2 : Int32) (w : hy_W) (nx : hy_N) (h : sg_H_patternsInAll_4 v0 v1 v2 w = some nx) (K : hy_Nx lay_H_patternsInAll p l e (hy_rm 1 20 w0) s m args below meth c 3 G A ad0 w0.1.length (hy_Q below G ad0 w0 o args s) o nx) : hy_At lay_H_patternsInAll p l e (hy_rm 1 20 w0) s m args below meth c 3 G A ad0 w0.1.length (hy_Q below G ad0 w0 o args s) (4, [.ref v0, .int v1, .int v2], w) := by
  intro ad H locs cells slots ls S hok hl
  have hx := B.1
  have hb := B.2.1
  dsimp only at S hok
  have hl : lv_has ls 3 [(0, .ref (ad v0)), (1, .int v1), (2, .int v2)] := hl
  show W p l e (hy_rm 1 20 w0) s m args below meth c H locs cells slots (hy_Q below G ad0 w0 o args s) (F0 m 4 ls [])
  have hv_v0 : v0 < w.1.length := hok (.ref v0) (List.mem_of_getElem? (i := 0) rfl) v0 rfl
  obtain ⟨a_v0, ha_v0⟩ : ∃ a, ad v0 = a := ⟨_, rfl⟩
  rw [ha_v0] at hl
  unfold sg_H_patternsInAll_4 at h
  refine lv_iload_n hx hb d_H_patternsInAll_4 rfl (lv_at hl 2 rfl) ?_
  refine lv_iconst (v := 4) hx hb d_H_patternsInAll_5 (by decide) ?_
  refine lv_icmp_ge (tgt := 30) hx hb d_H_patternsInAll_6 (by decide) (fun c1 => ?_) (fun c1 => ?_)
  · rw [if_pos c1] at h
    refine lv_iload_n hx hb d_H_patternsInAll_30 rfl (lv_at hl 1 rfl) ?_
    cases h
    cases K
    exact hy_iret hA B S d_H_patternsInAll_31
  · rw [if_neg c1] at h
    refine lv_iload_n hx hb d_H_patternsInAll_9 rfl (lv_at hl 1 rfl) ?_
    refine lv_aload_n hx hb d_H_patternsInAll_10 rfl (lv_at hl 0 rfl) ?_
    obtain ⟨r2, hr2, h⟩ := hy_bd h
    refine hy_getr B S ha_v0 hr2 rfl (Nat.le_of_ble_eq_true rfl) i_5 (j := 0) tw_163 (fun _ h => h) d_H_patternsInAll_11 (fun a_r2 ha_r2 hv_r2 => ?_)
    refine lv_iload_n hx hb d_H_patternsInAll_14 rfl (lv_at hl 2 rfl) ?_
    obtain ⟨r3, hr3, h⟩ := hy_bd h
    refine hy_aald B S ha_r2 (Or.inl rfl) hr3 d_H_patternsInAll_15 (fun a_r3 ha_r3 hv_r3 => ?_)
    obtain ⟨r4, hr4, h⟩ := hy_bd h
    refine hy_getr B S ha_r3 hr4 rfl (Nat.le_of_ble_eq_true rfl) i_1 (j := 3) tw_134 (fun _ h => h) d_H_patternsInAll_16 (fun a_r4 ha_r4 hv_r4 => ?_)
    obtain ⟨ob8, h⟩ := hy_if h
    obtain ⟨fs_ob8, hf_ob8, hg_ob8⟩ := hy_ob_spec ob8
    obtain ⟨x7, w5, hq_w5, h⟩ := hy_bi_spec h
    refine hy_calli (hy_runV (rest := [.int v1]) (As := []) (r := r4) (b := a_r4) B S rfl ha_r4 (by rfl) (c_A_size hl9 G ad hq_w5) (hy_okr (by omega) hy_ok0) tw_197 tw_8 tw_194 tw_195 sl_A_size (by decide) rfl (Nat.le_of_ble_eq_true rfl) (Nat.le_of_ble_eq_true rfl) hf_ob8 hg_ob8 rfl hl.1 (Nat.le_of_ble_eq_true rfl) d_H_patternsInAll_19) (fun ad6 H locs cells slots hag hl_w5 S => ?_)
    have ha_v0 : ad6 v0 = a_v0 := (hag v0 (by omega)).trans ha_v0
    refine lv_iadd hx hb d_H_patternsInAll_22 ?_
    refine lv_istore_n (lv' := [(1, .int (v1 + x7)), (0, .ref a_v0), (2, .int v2)]) hx hb d_H_patternsInAll_23 rfl hl (Nat.le_of_ble_eq_true rfl) rfl (fun ls hl => ?_)
    refine lv_iinc (v := (v2 + 1)) (lv' := [(2, .int (v2 + 1)), (1, .int (v1 + x7)), (0, .ref a_v0)]) hx hb d_H_patternsInAll_24 hl (k := 2) rfl rfl (Nat.le_of_ble_eq_true rfl) rfl (fun ls hl => ?_)
    refine lv_goto (tgt := 4) hx hb d_H_patternsInAll_27 (by decide) ?_
    cases h
    exact hy_jump K S (hy_okr (by omega) (hy_oki (hy_oki hy_ok0))) (lv_sub hl [2, 1, 0] rfl) (by subst ha_v0; rfl) (by subst ha_v0; rfl)
theorem nk_H_patternsInAll {p : Program} {l : Launch} {e : Env} {s : State} {m : MethodId} {args : Array Value} {below : List Frame} {meth : Method} {c : Code} {G : hy_G} {A : Nat → Prop} {ad0 : Nat → Nat} {w0 : hy_W} {o : hy_O} (hl9 : l.flags = flags0) (hA : hy_A G ad0 w0 s.heap.size = A) (B : hy_B p l e (hy_rm 1 20 w0) s m args below meth c "HyphenPatterns" b_H_patternsInAll 3 (some .int) [] G A) (q : hy_P) (nx : hy_N) (hq : nx_H_patternsInAll q = some nx) (K : hy_Nx lay_H_patternsInAll p l e (hy_rm 1 20 w0) s m args below meth c 3 G A ad0 w0.1.length (hy_Q below G ad0 w0 o args s) o nx) : hy_At lay_H_patternsInAll p l e (hy_rm 1 20 w0) s m args below meth c 3 G A ad0 w0.1.length (hy_Q below G ad0 w0 o args s) q := by
  unfold nx_H_patternsInAll at hq
  split at hq
  · exact sk_H_patternsInAll_0 hl9 hA B _ _ nx hq K
  · exact sk_H_patternsInAll_4 hl9 hA B _ _ _ _ nx hq K
  · cases hq
theorem c_H_patternsInAll {l : Launch} (hl9 : l.flags = flags0) (G : hy_G) (ad : Nat → Nat) {v0 : Nat} {w : hy_W} {o : hy_O} (h : f_H_patternsInAll [.ref v0] w = some o) : hy_M l y_H_patternsInAll (Cond.code y_H_patternsInAll b_H_patternsInAll 3 (some .int) :: hy_T) 1 20 G ad [.ref v0] w o := by
  obtain ⟨n, hn⟩ := hy_fx_iff.mp h
  refine hy_ofW hl9 (by decide +kernel) (Nat.le_of_ble_eq_true rfl) (fun p e s m args below meth c A hA hi B S hok ls hl => ?_)
  exact hy_loop (nk_H_patternsInAll hl9 hA B) n _ hn ad s.heap [] 0 0 ls S hok hl
theorem d_J_copyI_0 : decode b_J_copyI 0 = .ok (.iload_n 1, 1) := by decide +kernel
theorem d_J_copyI_1 : decode b_J_copyI 1 = .ok (.aload_n 0, 1) := by decide +kernel
theorem d_J_copyI_2 : decode b_J_copyI 2 = .ok (.arraylength, 1) := by decide +kernel
theorem d_J_copyI_3 : decode b_J_copyI 3 = .ok (.if_icmp .ne 11, 3) := by decide +kernel
theorem d_J_copyI_6 : decode b_J_copyI 6 = .ok (.aload_n 0, 1) := by decide +kernel
theorem d_J_copyI_7 : decode b_J_copyI 7 = .ok (.invokevirtual 316, 3) := by decide +kernel
theorem d_J_copyI_10 : decode b_J_copyI 10 = .ok (.checkcast 317, 3) := by decide +kernel
theorem d_J_copyI_13 : decode b_J_copyI 13 = .ok (.areturn, 1) := by decide +kernel
theorem d_J_copyI_14 : decode b_J_copyI 14 = .ok (.iload_n 1, 1) := by decide +kernel
theorem d_J_copyI_15 : decode b_J_copyI 15 = .ok (.newarray .int, 2) := by decide +kernel
theorem d_J_copyI_17 : decode b_J_copyI 17 = .ok (.astore_n 2, 1) := by decide +kernel
theorem d_J_copyI_18 : decode b_J_copyI 18 = .ok (.aload_n 0, 1) := by decide +kernel
theorem d_J_copyI_19 : decode b_J_copyI 19 = .ok (.iconst 0, 1) := by decide +kernel
theorem d_J_copyI_20 : decode b_J_copyI 20 = .ok (.aload_n 2, 1) := by decide +kernel
theorem d_J_copyI_21 : decode b_J_copyI 21 = .ok (.iconst 0, 1) := by decide +kernel
theorem d_J_copyI_22 : decode b_J_copyI 22 = .ok (.aload_n 0, 1) := by decide +kernel
theorem d_J_copyI_23 : decode b_J_copyI 23 = .ok (.arraylength, 1) := by decide +kernel
theorem d_J_copyI_24 : decode b_J_copyI 24 = .ok (.iload_n 1, 1) := by decide +kernel
theorem d_J_copyI_25 : decode b_J_copyI 25 = .ok (.invokestatic 304, 3) := by decide +kernel
theorem d_J_copyI_28 : decode b_J_copyI 28 = .ok (.invokestatic 150, 3) := by decide +kernel
theorem d_J_copyI_31 : decode b_J_copyI 31 = .ok (.aload_n 2, 1) := by decide +kernel
theorem d_J_copyI_32 : decode b_J_copyI 32 = .ok (.areturn, 1) := by decide +kernel
def lay_J_copyI (pc : Nat) : List Nat := if pc = 0 then [0, 1] else []
noncomputable def sg_J_copyI_0 (v0 : Nat) (v1 : Int32) (w : hy_W) : Option hy_N := if v0 ≠ 1 then (hy_ln w 0 v0).bind fun n1 => if v1 = (nI n1) then ((hy_cn w v0).bind fun w8 => if hy_ar0 w8 w.1.length 0 = true then some (.inr (.inl (some (.ref w.1.length)), w8)) else none) else ((hy_na w 0 v1).bind fun w3 => if v0 ≠ 1 then (hy_ln w3 0 v0).bind fun n6 => (hy_ac w3 0 v0 w.1.length 0 0 (if v1 < (nI n6) then v1 else (nI n6))).bind fun w7 => some (.inr (.inl (some (.ref w.1.length)), w7)) else none) else none
noncomputable def nx_J_copyI (q : hy_P) : Option hy_N := match q with
  | (0, [.ref v0, .int v1], w) => sg_J_copyI_0 v0 v1 w
  | _ => none
noncomputable def f_J_copyI (av : List Value) (w : hy_W) : Option hy_O := hy_fx nx_J_copyI (0, av, w)
set_option maxHeartbeats 4000000 in
set_option maxRecDepth 100000 in
theorem sk_J_copyI_0 {p : Program} {l : Launch} {e : Env} {s : State} {m : MethodId} {args : Array Value} {below : List Frame} {meth : Method} {c : Code} {G : hy_G} {A : Nat → Prop} {ad0 : Nat → Nat} {w0 : hy_W} {o : hy_O} (hl9 : l.flags = flags0) (hA : hy_A G ad0 w0 s.heap.size = A) (B : hy_B p l e (hy_rm 1 18 w0) s m args below meth c "java/util/Arrays" b_J_copyI 3 (some (.array .int)) [] G A) (v0 : Nat) (v1 : Int32) (w : hy_W) (nx : hy_N) (h : sg_J_copyI_0 v0 v1 w = some nx) (K : hy_Nx lay_J_copyI p l e (hy_rm 1 18 w0) s m args below meth c 3 G A ad0 w0.1.length (hy_Q below G ad0 w0 o args s) o nx) : hy_At lay_J_copyI p l e (hy_rm 1 18 w0) s m args below meth c 3 G A ad0 w0.1.length (hy_Q below G ad0 w0 o args s) (0, [.ref v0, .int v1], w) := by
  intro ad H locs cells slots ls S hok hl
  have hx := B.1
  have hb := B.2.1
  dsimp only at S hok
  have hl : lv_has ls 3 [(0, .ref (ad v0)), (1, .int v1)] := hl
  show W p l e (hy_rm 1 18 w0) s m args below meth c H locs cells slots (hy_Q below G ad0 w0 o args s) (F0 m 0 ls [])
  have hv_v0 : v0 < w.1.length := hok (.ref v0) (List.mem_of_getElem? (i := 0) rfl) v0 rfl
  obtain ⟨a_v0, ha_v0⟩ : ∃ a, ad v0 = a := ⟨_, rfl⟩
  rw [ha_v0] at hl
  unfold sg_J_copyI_0 at h
  refine lv_iload_n hx hb d_J_copyI_0 rfl (lv_at hl 1 rfl) ?_
  refine lv_aload_n hx hb d_J_copyI_1 rfl (lv_at hl 0 rfl) ?_
  obtain ⟨h1n1, h⟩ := hy_if h
  obtain ⟨n1, hn1, h⟩ := hy_bd h
  refine hy_alen B S ha_v0 (t := 0) (Nat.le_of_ble_eq_true rfl) hn1 h1n1 d_J_copyI_2 ?_
  refine lv_icmp_ne (tgt := 14) hx hb d_J_copyI_3 (by decide) (fun c2 => ?_) (fun c2 => ?_)
  · rw [if_neg c2] at h
    refine lv_iload_n hx hb d_J_copyI_14 rfl (lv_at hl 1 rfl) ?_
    obtain ⟨w3, hw3, h⟩ := hy_bd h
    refine hy_newi B S hw3 d_J_copyI_15 (fun ad4 a_q5 H _ hag ha_q5 S hl_w3 => ?_)
    have ha_v0 : ad4 v0 = a_v0 := (hag v0 (by omega)).trans ha_v0
    refine lv_astore_n (lv' := [(2, .ref a_q5), (0, .ref a_v0), (1, .int v1)]) hx hb d_J_copyI_17 rfl hl (Nat.le_of_ble_eq_true rfl) rfl (fun ls hl => ?_)
    refine lv_aload_n hx hb d_J_copyI_18 rfl (lv_at hl 1 rfl) ?_
    refine lv_iconst (v := 0) hx hb d_J_copyI_19 (by decide) ?_
    refine lv_aload_n hx hb d_J_copyI_20 rfl (lv_at hl 0 rfl) ?_
    refine lv_iconst (v := 0) hx hb d_J_copyI_21 (by decide) ?_
    refine lv_aload_n hx hb d_J_copyI_22 rfl (lv_at hl 1 rfl) ?_
    obtain ⟨h1n6, h⟩ := hy_if h
    obtain ⟨n6, hn6, h⟩ := hy_bd h
    refine hy_alen B S ha_v0 (t := 0) (Nat.le_of_ble_eq_true rfl) hn6 h1n6 d_J_copyI_23 ?_
    refine lv_iload_n hx hb d_J_copyI_24 rfl (lv_at hl 2 rfl) ?_
    refine va_mmin hx hb (by rw [B.2.2.1]; exact hl.1.symm) B.2.2.2.1 (B.2.2.2.2.1 _ tw_524) (B.2.2.2.2.1 _ tw_525) (B.2.2.2.2.1 _ tw_21) (B.2.2.2.2.1 _ tw_526) (Nat.le_of_ble_eq_true rfl) (Nat.le_of_ble_eq_true rfl) (by have := S.2.2.2.2.1; omega) (by have := S.2.2.2.2.2; omega) d_J_copyI_25 ?_
    obtain ⟨w7, hw7, h⟩ := hy_bd h
    refine hy_copyi B S ha_v0 ha_q5 hw7 tw_527 tw_465 tw_464 tw_16 hl.1 (Nat.le_of_ble_eq_true rfl) (Nat.le_of_ble_eq_true rfl) d_J_copyI_28 (fun H locs S hl_w7 => ?_)
    refine lv_aload_n hx hb d_J_copyI_31 rfl (lv_at hl 0 rfl) ?_
    cases h
    cases K
    exact hy_aret hA B S (Or.inr ⟨_, rfl⟩) ha_q5 (by omega) d_J_copyI_32
  · rw [if_pos c2] at h
    refine lv_aload_n hx hb d_J_copyI_6 rfl (lv_at hl 0 rfl) ?_
    obtain ⟨w8, hw8, h⟩ := hy_bd h
    refine hy_clone B S ha_v0 hw8 tw_517 tw_518 tw_519 tw_520 tw_521 (by decide +kernel) hl.1 (Nat.le_of_ble_eq_true rfl) (Nat.le_of_ble_eq_true rfl) d_J_copyI_7 (fun ad9 a_q10 H _ hag ha_q10 S hl_w8 => ?_)
    have ha_v0 : ad9 v0 = a_v0 := (hag v0 (by omega)).trans ha_v0
    obtain ⟨ob11, h⟩ := hy_if h
    obtain ⟨fs_ob11, hf_ob11, hg_ob11⟩ := hy_ar0_spec ob11
    refine hy_castA B S ha_q10 hf_ob11 hg_ob11 (hy_nm0 B) tw_523 d_J_copyI_10 ?_
    cases h
    cases K
    exact hy_aret hA B S (Or.inr ⟨_, rfl⟩) ha_q10 (by omega) d_J_copyI_13
theorem nk_J_copyI {p : Program} {l : Launch} {e : Env} {s : State} {m : MethodId} {args : Array Value} {below : List Frame} {meth : Method} {c : Code} {G : hy_G} {A : Nat → Prop} {ad0 : Nat → Nat} {w0 : hy_W} {o : hy_O} (hl9 : l.flags = flags0) (hA : hy_A G ad0 w0 s.heap.size = A) (B : hy_B p l e (hy_rm 1 18 w0) s m args below meth c "java/util/Arrays" b_J_copyI 3 (some (.array .int)) [] G A) (q : hy_P) (nx : hy_N) (hq : nx_J_copyI q = some nx) (K : hy_Nx lay_J_copyI p l e (hy_rm 1 18 w0) s m args below meth c 3 G A ad0 w0.1.length (hy_Q below G ad0 w0 o args s) o nx) : hy_At lay_J_copyI p l e (hy_rm 1 18 w0) s m args below meth c 3 G A ad0 w0.1.length (hy_Q below G ad0 w0 o args s) q := by
  unfold nx_J_copyI at hq
  split at hq
  · exact sk_J_copyI_0 hl9 hA B _ _ _ nx hq K
  · cases hq
theorem c_J_copyI {l : Launch} (hl9 : l.flags = flags0) (G : hy_G) (ad : Nat → Nat) {v0 : Nat} {v1 : Int32} {w : hy_W} {o : hy_O} (h : f_J_copyI [.ref v0, .int v1] w = some o) : hy_M l y_J_copyI (Cond.code y_J_copyI b_J_copyI 3 (some (.array .int)) :: hy_T) 1 18 G ad [.ref v0, .int v1] w o := by
  obtain ⟨n, hn⟩ := hy_fx_iff.mp h
  refine hy_ofW hl9 (by decide +kernel) (Nat.le_of_ble_eq_true rfl) (fun p e s m args below meth c A hA hi B S hok ls hl => ?_)
  exact hy_loop (nk_J_copyI hl9 hA B) n _ hn ad s.heap [] 0 0 ls S hok hl
theorem d_U_init_0 : decode b_U_init 0 = .ok (.aload_n 0, 1) := by decide +kernel
theorem d_U_init_1 : decode b_U_init 1 = .ok (.invokespecial 1, 3) := by decide +kernel
theorem d_U_init_4 : decode b_U_init 4 = .ok (.aload_n 0, 1) := by decide +kernel
theorem d_U_init_5 : decode b_U_init 5 = .ok (.aload_n 1, 1) := by decide +kernel
theorem d_U_init_6 : decode b_U_init 6 = .ok (.putfield 7, 3) := by decide +kernel
theorem d_U_init_9 : decode b_U_init 9 = .ok (.aload_n 0, 1) := by decide +kernel
theorem d_U_init_10 : decode b_U_init 10 = .ok (.aload_n 2, 1) := by decide +kernel
theorem d_U_init_11 : decode b_U_init 11 = .ok (.putfield 13, 3) := by decide +kernel
theorem d_U_init_14 : decode b_U_init 14 = .ok (.return_, 1) := by decide +kernel
def lay_U_init (pc : Nat) : List Nat := if pc = 0 then [0, 1, 2] else []
noncomputable def sg_U_init_0 (v0 : Nat) (v1 : Nat) (v2 : Nat) (w : hy_W) : Option hy_N := (hy_pf w v0 4 0 (.ref v1)).bind fun w1 => (hy_pf w1 v0 4 1 (.ref v2)).bind fun w2 => some (.inr (.inl none, w2))
noncomputable def nx_U_init (q : hy_P) : Option hy_N := match q with
  | (0, [.ref v0, .ref v1, .ref v2], w) => sg_U_init_0 v0 v1 v2 w
  | _ => none
noncomputable def f_U_init (av : List Value) (w : hy_W) : Option hy_O := hy_fx nx_U_init (0, av, w)
set_option maxHeartbeats 4000000 in
set_option maxRecDepth 100000 in
theorem sk_U_init_0 {p : Program} {l : Launch} {e : Env} {s : State} {m : MethodId} {args : Array Value} {below : List Frame} {meth : Method} {c : Code} {G : hy_G} {A : Nat → Prop} {ad0 : Nat → Nat} {w0 : hy_W} {o : hy_O} (hl9 : l.flags = flags0) (hA : hy_A G ad0 w0 s.heap.size = A) (hi : meth.name = "<init>") (B : hy_B p l e (hy_rm 1 12 w0) s m args below meth c "HyphenPatterns$Rule" b_U_init 3 none [] G A) (v0 : Nat) (v1 : Nat) (v2 : Nat) (w : hy_W) (nx : hy_N) (h : sg_U_init_0 v0 v1 v2 w = some nx) (K : hy_Nx lay_U_init p l e (hy_rm 1 12 w0) s m args below meth c 3 G A ad0 w0.1.length (hy_Q below G ad0 w0 o args s) o nx) : hy_At lay_U_init p l e (hy_rm 1 12 w0) s m args below meth c 3 G A ad0 w0.1.length (hy_Q below G ad0 w0 o args s) (0, [.ref v0, .ref v1, .ref v2], w) := by
  intro ad H locs cells slots ls S hok hl
  have hx := B.1
  have hb := B.2.1
  dsimp only at S hok
  have hl : lv_has ls 3 [(0, .ref (ad v0)), (1, .ref (ad v1)), (2, .ref (ad v2))] := hl
  show W p l e (hy_rm 1 12 w0) s m args below meth c H locs cells slots (hy_Q below G ad0 w0 o args s) (F0 m 0 ls [])
  have hv_v0 : v0 < w.1.length := hok (.ref v0) (List.mem_of_getElem? (i := 0) rfl) v0 rfl
  obtain ⟨a_v0, ha_v0⟩ : ∃ a, ad v0 = a := ⟨_, rfl⟩
  rw [ha_v0] at hl
  have hv_v1 : v1 < w.1.length := hok (.ref v1) (List.mem_of_getElem? (i := 1) rfl) v1 rfl
  obtain ⟨a_v1, ha_v1⟩ : ∃ a, ad v1 = a := ⟨_, rfl⟩
  rw [ha_v1] at hl
  have hv_v2 : v2 < w.1.length := hok (.ref v2) (List.mem_of_getElem? (i := 2) rfl) v2 rfl
  obtain ⟨a_v2, ha_v2⟩ : ∃ a, ad v2 = a := ⟨_, rfl⟩
  rw [ha_v2] at hl
  unfold sg_U_init_0 at h
  refine lv_aload_n hx hb d_U_init_0 rfl (lv_at hl 0 rfl) ?_
  refine W.objInit hx hb B.2.2.2.1 (B.2.2.2.2.1 _ tw_531) (B.2.2.2.2.1 _ tw_29) (B.2.2.2.2.1 _ tw_30) rfl (by rw [B.2.2.1]; exact hl.1) rfl d_U_init_1 (Nat.le_of_ble_eq_true rfl) (Nat.le_of_ble_eq_true rfl) ?_
  refine W.eq (g2 := F0 m 4 ls []) rfl ?_
  refine lv_aload_n hx hb d_U_init_4 rfl (lv_at hl 0 rfl) ?_
  refine lv_aload_n hx hb d_U_init_5 rfl (lv_at hl 1 rfl) ?_
  obtain ⟨w1, hw1, h⟩ := hy_bd h
  refine hy_putF hi B S ha_v0 (by rw [hy_v_ref, ha_v1]) (hy_cvr (by omega)) hw1 rfl (Nat.le_of_ble_eq_true rfl) i_4 t_4 t_4_ok n_4 (j := 0) tw_532 (fun _ h => h) rfl rfl rfl rfl d_U_init_6 (fun H locs S hl_w1 => ?_)
  refine lv_aload_n hx hb d_U_init_9 rfl (lv_at hl 0 rfl) ?_
  refine lv_aload_n hx hb d_U_init_10 rfl (lv_at hl 2 rfl) ?_
  obtain ⟨w2, hw2, h⟩ := hy_bd h
  refine hy_putF hi B S ha_v0 (by rw [hy_v_ref, ha_v2]) (hy_cvr (by omega)) hw2 rfl (Nat.le_of_ble_eq_true rfl) i_4 t_4 t_4_ok n_4 (j := 1) tw_535 (fun _ h => h) rfl rfl rfl rfl d_U_init_11 (fun H locs S hl_w2 => ?_)
  cases h
  cases K
  exact hy_vret hA B S d_U_init_14
theorem nk_U_init {p : Program} {l : Launch} {e : Env} {s : State} {m : MethodId} {args : Array Value} {below : List Frame} {meth : Method} {c : Code} {G : hy_G} {A : Nat → Prop} {ad0 : Nat → Nat} {w0 : hy_W} {o : hy_O} (hl9 : l.flags = flags0) (hA : hy_A G ad0 w0 s.heap.size = A) (hi : meth.name = "<init>") (B : hy_B p l e (hy_rm 1 12 w0) s m args below meth c "HyphenPatterns$Rule" b_U_init 3 none [] G A) (q : hy_P) (nx : hy_N) (hq : nx_U_init q = some nx) (K : hy_Nx lay_U_init p l e (hy_rm 1 12 w0) s m args below meth c 3 G A ad0 w0.1.length (hy_Q below G ad0 w0 o args s) o nx) : hy_At lay_U_init p l e (hy_rm 1 12 w0) s m args below meth c 3 G A ad0 w0.1.length (hy_Q below G ad0 w0 o args s) q := by
  unfold nx_U_init at hq
  split at hq
  · exact sk_U_init_0 hl9 hA hi B _ _ _ _ nx hq K
  · cases hq
theorem c_U_init {l : Launch} (hl9 : l.flags = flags0) (G : hy_G) (ad : Nat → Nat) {v0 : Nat} {v1 : Nat} {v2 : Nat} {w : hy_W} {o : hy_O} (h : f_U_init [.ref v0, .ref v1, .ref v2] w = some o) : hy_M l y_U_init (Cond.code y_U_init b_U_init 3 none :: hy_T) 1 12 G ad [.ref v0, .ref v1, .ref v2] w o := by
  obtain ⟨n, hn⟩ := hy_fx_iff.mp h
  refine hy_ofW hl9 (by decide +kernel) (Nat.le_of_ble_eq_true rfl) (fun p e s m args below meth c A hA hi B S hok ls hl => ?_)
  exact hy_loop (nk_U_init hl9 hA (hi rfl) B) n _ hn ad s.heap [] 0 0 ls S hok hl
