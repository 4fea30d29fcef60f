/-! BODIES (printed by our translator): M_isPattern, M_findPattern, M_pattern -/
theorem d_M_isPattern_0 : decode b_M_isPattern 0 = .ok (.aload_n 0, 1) := by decide +kernel
theorem d_M_isPattern_1 : decode b_M_isPattern 1 = .ok (.invokevirtual 102, 3) := by decide +kernel
theorem d_M_isPattern_4 : decode b_M_isPattern 4 = .ok (.ifCond .eq 16, 3) := by decide +kernel
theorem d_M_isPattern_7 : decode b_M_isPattern 7 = .ok (.aload_n 0, 1) := by decide +kernel
theorem d_M_isPattern_8 : decode b_M_isPattern 8 = .ok (.getfield 99, 3) := by decide +kernel
theorem d_M_isPattern_11 : decode b_M_isPattern 11 = .ok (.bipush 16, 2) := by decide +kernel
theorem d_M_isPattern_13 : decode b_M_isPattern 13 = .ok (.if_icmp .gt 7, 3) := by decide +kernel
theorem d_M_isPattern_16 : decode b_M_isPattern 16 = .ok (.iconst 1, 1) := by decide +kernel
theorem d_M_isPattern_17 : decode b_M_isPattern 17 = .ok (.goto 4, 3) := by decide +kernel
theorem d_M_isPattern_20 : decode b_M_isPattern 20 = .ok (.iconst 0, 1) := by decide +kernel
theorem d_M_isPattern_21 : decode b_M_isPattern 21 = .ok (.istore_n 1, 1) := by decide +kernel
theorem d_M_isPattern_22 : decode b_M_isPattern 22 = .ok (.iconst 0, 1) := by decide +kernel
theorem d_M_isPattern_23 : decode b_M_isPattern 23 = .ok (.istore_n 2, 1) := by decide +kernel
theorem d_M_isPattern_24 : decode b_M_isPattern 24 = .ok (.iconst 0, 1) := by decide +kernel
theorem d_M_isPattern_25 : decode b_M_isPattern 25 = .ok (.istore_n 3, 1) := by decide +kernel
theorem d_M_isPattern_26 : decode b_M_isPattern 26 = .ok (.iload_n 3, 1) := by decide +kernel
theorem d_M_isPattern_27 : decode b_M_isPattern 27 = .ok (.aload_n 0, 1) := by decide +kernel
theorem d_M_isPattern_28 : decode b_M_isPattern 28 = .ok (.getfield 99, 3) := by decide +kernel
theorem d_M_isPattern_31 : decode b_M_isPattern 31 = .ok (.if_icmp .ge 61, 3) := by decide +kernel
theorem d_M_isPattern_34 : decode b_M_isPattern 34 = .ok (.iload_n 2, 1) := by decide +kernel
theorem d_M_isPattern_35 : decode b_M_isPattern 35 = .ok (.ifCond .ne 12, 3) := by decide +kernel
theorem d_M_isPattern_38 : decode b_M_isPattern 38 = .ok (.aload_n 0, 1) := by decide +kernel
theorem d_M_isPattern_39 : decode b_M_isPattern 39 = .ok (.getfield 34, 3) := by decide +kernel
theorem d_M_isPattern_42 : decode b_M_isPattern 42 = .ok (.iload_n 3, 1) := by decide +kernel
theorem d_M_isPattern_43 : decode b_M_isPattern 43 = .ok (.iaload, 1) := by decide +kernel
theorem d_M_isPattern_44 : decode b_M_isPattern 44 = .ok (.ifCond .eq 7, 3) := by decide +kernel
theorem d_M_isPattern_47 : decode b_M_isPattern 47 = .ok (.iconst 1, 1) := by decide +kernel
theorem d_M_isPattern_48 : decode b_M_isPattern 48 = .ok (.goto 4, 3) := by decide +kernel
theorem d_M_isPattern_51 : decode b_M_isPattern 51 = .ok (.iconst 0, 1) := by decide +kernel
theorem d_M_isPattern_52 : decode b_M_isPattern 52 = .ok (.istore_n 2, 1) := by decide +kernel
theorem d_M_isPattern_53 : decode b_M_isPattern 53 = .ok (.iload_n 1, 1) := by decide +kernel
theorem d_M_isPattern_54 : decode b_M_isPattern 54 = .ok (.ifCond .eq 30, 3) := by decide +kernel
theorem d_M_isPattern_57 : decode b_M_isPattern 57 = .ok (.aload_n 0, 1) := by decide +kernel
theorem d_M_isPattern_58 : decode b_M_isPattern 58 = .ok (.getfield 34, 3) := by decide +kernel
theorem d_M_isPattern_61 : decode b_M_isPattern 61 = .ok (.iload_n 3, 1) := by decide +kernel
theorem d_M_isPattern_62 : decode b_M_isPattern 62 = .ok (.iaload, 1) := by decide +kernel
theorem d_M_isPattern_63 : decode b_M_isPattern 63 = .ok (.ifCond .ne 17, 3) := by decide +kernel
theorem d_M_isPattern_66 : decode b_M_isPattern 66 = .ok (.iload_n 3, 1) := by decide +kernel
theorem d_M_isPattern_67 : decode b_M_isPattern 67 = .ok (.ifCond .eq 13, 3) := by decide +kernel
theorem d_M_isPattern_70 : decode b_M_isPattern 70 = .ok (.iload_n 3, 1) := by decide +kernel
theorem d_M_isPattern_71 : decode b_M_isPattern 71 = .ok (.aload_n 0, 1) := by decide +kernel
theorem d_M_isPattern_72 : decode b_M_isPattern 72 = .ok (.getfield 99, 3) := by decide +kernel
theorem d_M_isPattern_75 : decode b_M_isPattern 75 = .ok (.iconst 1, 1) := by decide +kernel
theorem d_M_isPattern_76 : decode b_M_isPattern 76 = .ok (.isub, 1) := by decide +kernel
theorem d_M_isPattern_77 : decode b_M_isPattern 77 = .ok (.if_icmp .ne 7, 3) := by decide +kernel
theorem d_M_isPattern_80 : decode b_M_isPattern 80 = .ok (.iconst 1, 1) := by decide +kernel
theorem d_M_isPattern_81 : decode b_M_isPattern 81 = .ok (.goto 4, 3) := by decide +kernel
theorem d_M_isPattern_84 : decode b_M_isPattern 84 = .ok (.iconst 0, 1) := by decide +kernel
theorem d_M_isPattern_85 : decode b_M_isPattern 85 = .ok (.istore_n 1, 1) := by decide +kernel
theorem d_M_isPattern_86 : decode b_M_isPattern 86 = .ok (.iinc 3 1, 3) := by decide +kernel
theorem d_M_isPattern_89 : decode b_M_isPattern 89 = .ok (.goto (-63), 3) := by decide +kernel
theorem d_M_isPattern_92 : decode b_M_isPattern 92 = .ok (.iconst 0, 1) := by decide +kernel
theorem d_M_isPattern_93 : decode b_M_isPattern 93 = .ok (.istore_n 3, 1) := by decide +kernel
theorem d_M_isPattern_94 : decode b_M_isPattern 94 = .ok (.iload_n 3, 1) := by decide +kernel
theorem d_M_isPattern_95 : decode b_M_isPattern 95 = .ok (.aload_n 0, 1) := by decide +kernel
theorem d_M_isPattern_96 : decode b_M_isPattern 96 = .ok (.getfield 99, 3) := by decide +kernel
theorem d_M_isPattern_99 : decode b_M_isPattern 99 = .ok (.if_icmp .gt 30, 3) := by decide +kernel
theorem d_M_isPattern_102 : decode b_M_isPattern 102 = .ok (.iload_n 1, 1) := by decide +kernel
theorem d_M_isPattern_103 : decode b_M_isPattern 103 = .ok (.ifCond .eq 18, 3) := by decide +kernel
theorem d_M_isPattern_106 : decode b_M_isPattern 106 = .ok (.aload_n 0, 1) := by decide +kernel
theorem d_M_isPattern_107 : decode b_M_isPattern 107 = .ok (.getfield 37, 3) := by decide +kernel
theorem d_M_isPattern_110 : decode b_M_isPattern 110 = .ok (.iload_n 3, 1) := by decide +kernel
theorem d_M_isPattern_111 : decode b_M_isPattern 111 = .ok (.iaload, 1) := by decide +kernel
theorem d_M_isPattern_112 : decode b_M_isPattern 112 = .ok (.bipush 10, 2) := by decide +kernel
theorem d_M_isPattern_114 : decode b_M_isPattern 114 = .ok (.if_icmp .eq 7, 3) := by decide +kernel
theorem d_M_isPattern_117 : decode b_M_isPattern 117 = .ok (.iconst 1, 1) := by decide +kernel
theorem d_M_isPattern_118 : decode b_M_isPattern 118 = .ok (.goto 4, 3) := by decide +kernel
theorem d_M_isPattern_121 : decode b_M_isPattern 121 = .ok (.iconst 0, 1) := by decide +kernel
theorem d_M_isPattern_122 : decode b_M_isPattern 122 = .ok (.istore_n 1, 1) := by decide +kernel
theorem d_M_isPattern_123 : decode b_M_isPattern 123 = .ok (.iinc 3 1, 3) := by decide +kernel
theorem d_M_isPattern_126 : decode b_M_isPattern 126 = .ok (.goto (-32), 3) := by decide +kernel
theorem d_M_isPattern_129 : decode b_M_isPattern 129 = .ok (.iload_n 1, 1) := by decide +kernel
theorem d_M_isPattern_130 : decode b_M_isPattern 130 = .ok (.ifCond .eq 11, 3) := by decide +kernel
theorem d_M_isPattern_133 : decode b_M_isPattern 133 = .ok (.iload_n 2, 1) := by decide +kernel
theorem d_M_isPattern_134 : decode b_M_isPattern 134 = .ok (.ifCond .eq 7, 3) := by decide +kernel
theorem d_M_isPattern_137 : decode b_M_isPattern 137 = .ok (.iconst 1, 1) := by decide +kernel
theorem d_M_isPattern_138 : decode b_M_isPattern 138 = .ok (.goto 4, 3) := by decide +kernel
theorem d_M_isPattern_141 : decode b_M_isPattern 141 = .ok (.iconst 0, 1) := by decide +kernel
theorem d_M_isPattern_142 : decode b_M_isPattern 142 = .ok (.ireturn, 1) := by decide +kernel
def lay_M_isPattern (pc : Nat) : List Nat := if pc = 0 then [0] else if pc = 20 then [0] else if pc = 21 then [0] else if pc = 26 then [0, 1, 2, 3] else if pc = 47 then [0, 1, 3] else if pc = 52 then [0, 1, 3] else if pc = 80 then [0, 2, 3] else if pc = 84 then [0, 2, 3] else if pc = 85 then [0, 2, 3] else if pc = 94 then [0, 1, 2, 3] else if pc = 121 then [0, 2, 3] else if pc = 122 then [0, 2, 3] else if pc = 141 then [] else []
noncomputable def sg_M_isPattern_0 (v0 : Nat) (w : hy_W) : Option hy_N := if hy_ob w v0 6 = true then hy_bi (f_M_readRow [.ref v0] w) fun x3 w1 => if x3 = 0 then (some (.inl (20, [.ref v0], w1))) else ((hy_gi w1 v0 6 11).bind fun x6 => if (16 : Int32) < x6 then (some (.inl (20, [.ref v0], w1))) else (some (.inl (21, [.ref v0, .int 1], w1)))) else none
noncomputable def sg_M_isPattern_20 (v0 : Nat) (w : hy_W) : Option hy_N := some (.inl (21, [.ref v0, .int 0], w))
noncomputable def sg_M_isPattern_21 (v0 : Nat) (s0 : Int32) (w : hy_W) : Option hy_N := some (.inl (26, [.ref v0, .int s0, .int 0, .int 0], w))
noncomputable def sg_M_isPattern_26 (v0 : Nat) (v1 : Int32) (v2 : Int32) (v3 : Int32) (w : hy_W) : Option hy_N := (hy_gi w v0 6 11).bind fun x1 => if x1 ≤ v3 then (some (.inl (94, [.ref v0, .int v1, .int v2, .int 0], w))) else (if v2 = 0 then ((hy_gr w v0 6 12).bind fun r4 => (hy_ai w r4 v3).bind fun x5 => if x5 = 0 then (some (.inl (52, [.ref v0, .int v1, .int v3, .int 0], w))) else (some (.inl (47, [.ref v0, .int v1, .int v3], w)))) else (some (.inl (47, [.ref v0, .int v1, .int v3], w))))
noncomputable def sg_M_isPattern_47 (v0 : Nat) (v1 : Int32) (v3 : Int32) (w : hy_W) : Option hy_N := some (.inl (52, [.ref v0, .int v1, .int v3, .int 1], w))
noncomputable def sg_M_isPattern_52 (v0 : Nat) (v1 : Int32) (v3 : Int32) (s0 : Int32) (w : hy_W) : Option hy_N := if v1 = 0 then (some (.inl (84, [.ref v0, .int s0, .int v3], w))) else ((hy_gr w v0 6 12).bind fun r2 => (hy_ai w r2 v3).bind fun x3 => if x3 = 0 then (if v3 = 0 then (some (.inl (80, [.ref v0, .int s0, .int v3], w))) else ((hy_gi w v0 6 11).bind fun x6 => if v3 = (x6 - 1) then (some (.inl (80, [.ref v0, .int s0, .int v3], w))) else (some (.inl (84, [.ref v0, .int s0, .int v3], w))))) else (some (.inl (80, [.ref v0, .int s0, .int v3], w))))
noncomputable def sg_M_isPattern_80 (v0 : Nat) (v2 : Int32) (v3 : Int32) (w : hy_W) : Option hy_N := some (.inl (85, [.ref v0, .int v2, .int v3, .int 1], w))
noncomputable def sg_M_isPattern_84 (v0 : Nat) (v2 : Int32) (v3 : Int32) (w : hy_W) : Option hy_N := some (.inl (85, [.ref v0, .int v2, .int v3, .int 0], w))
noncomputable def sg_M_isPattern_85 (v0 : Nat) (v2 : Int32) (v3 : Int32) (s0 : Int32) (w : hy_W) : Option hy_N := some (.inl (26, [.ref v0, .int s0, .int v2, .int (v3 + 1)], w))
noncomputable def sg_M_isPattern_94 (v0 : Nat) (v1 : Int32) (v2 : Int32) (v3 : Int32) (w : hy_W) : Option hy_N := (hy_gi w v0 6 11).bind fun x1 => if x1 < v3 then (if v1 = 0 then (some (.inl (141, [], w))) else (if v2 = 0 then (some (.inl (141, [], w))) else (some (.inr (.inl (some (.int 1)), w))))) else (if v1 = 0 then (some (.inl (121, [.ref v0, .int v2, .int v3], w))) else ((hy_gr w v0 6 13).bind fun r6 => (hy_ai w r6 v3).bind fun x7 => if x7 = 10 then (some (.inl (121, [.ref v0, .int v2, .int v3], w))) else (some (.inl (122, [.ref v0, .int v2, .int v3, .int 1], w)))))
noncomputable def sg_M_isPattern_121 (v0 : Nat) (v2 : Int32) (v3 : Int32) (w : hy_W) : Option hy_N := some (.inl (122, [.ref v0, .int v2, .int v3, .int 0], w))
noncomputable def sg_M_isPattern_122 (v0 : Nat) (v2 : Int32) (v3 : Int32) (s0 : Int32) (w : hy_W) : Option hy_N := some (.inl (94, [.ref v0, .int s0, .int v2, .int (v3 + 1)], w))
noncomputable def sg_M_isPattern_141  (w : hy_W) : Option hy_N := some (.inr (.inl (some (.int 0)), w))
noncomputable def nx_M_isPattern (q : hy_P) : Option hy_N := match q with
  | (0, [.ref v0], w) => sg_M_isPattern_0 v0 w
  | (20, [.ref v0], w) => sg_M_isPattern_20 v0 w
  | (21, [.ref v0, .int s0], w) => sg_M_isPattern_21 v0 s0 w
  | (26, [.ref v0, .int v1, .int v2, .int v3], w) => sg_M_isPattern_26 v0 v1 v2 v3 w
  | (47, [.ref v0, .int v1, .int v3], w) => sg_M_isPattern_47 v0 v1 v3 w
  | (52, [.ref v0, .int v1, .int v3, .int s0], w) => sg_M_isPattern_52 v0 v1 v3 s0 w
  | (80, [.ref v0, .int v2, .int v3], w) => sg_M_isPattern_80 v0 v2 v3 w
  | (84, [.ref v0, .int v2, .int v3], w) => sg_M_isPattern_84 v0 v2 v3 w
  | (85, [.ref v0, .int v2, .int v3, .int s0], w) => sg_M_isPattern_85 v0 v2 v3 s0 w
  | (94, [.ref v0, .int v1, .int v2, .int v3], w) => sg_M_isPattern_94 v0 v1 v2 v3 w
  | (121, [.ref v0, .int v2, .int v3], w) => sg_M_isPattern_121 v0 v2 v3 w
  | (122, [.ref v0, .int v2, .int v3, .int s0], w) => sg_M_isPattern_122 v0 v2 v3 s0 w
  | (141, [], w) => sg_M_isPattern_141  w
  | _ => none
noncomputable def f_M_isPattern (av : List Value) (w : hy_W) : Option hy_O := hy_fx nx_M_isPattern (0, av, w)
set_option maxHeartbeats 4000000 in
set_option maxRecDepth 100000 in
theorem sk_M_isPattern_0 {p : Program} {l : Launch} {e : Env} {s : State} {m : MethodId} {args : Array Value} {below : List Frame} {meth : Method} {c : Code} {G : hy_G} {A : Nat → Prop} {ad0 : Nat → Nat} {w0 : hy_W} {o : hy_O} (hl9 : l.flags = flags0) (hA : hy_A G ad0 w0 s.heap.size = A) (B : hy_B p l e (hy_rm 1 22 w0) s m args below meth c "HyphenPatternsModel" b_M_isPattern 4 (some .boolean) [] G A) (v0 : Nat) (w : hy_W) (nx : hy_N) (h : sg_M_isPattern_0 v0 w = some nx) (K : hy_Nx lay_M_isPattern p l e (hy_rm 1 22 w0) s m args below meth c 4 G A ad0 w0.1.length (hy_Q below G ad0 w0 o args s) o nx) : hy_At lay_M_isPattern p l e (hy_rm 1 22 w0) s m args below meth c 4 G A ad0 w0.1.length (hy_Q below G ad0 w0 o args s) (0, [.ref v0], w) := by
  intro ad H locs cells slots ls S hok hl
  have hx := B.1
  have hb := B.2.1
  dsimp only at S hok
  have hl : lv_has ls 4 [(0, .ref (ad v0))] := hl
  show W p l e (hy_rm 1 22 w0) s m args below meth c H locs cells slots (hy_Q below G ad0 w0 o args s) (F0 m 0 ls [])
  have hv_v0 : v0 < w.1.length := hok (.ref v0) (List.mem_of_getElem? (i := 0) rfl) v0 rfl
  obtain ⟨a_v0, ha_v0⟩ : ∃ a, ad v0 = a := ⟨_, rfl⟩
  rw [ha_v0] at hl
  unfold sg_M_isPattern_0 at h
  refine lv_aload_n hx hb d_M_isPattern_0 rfl (lv_at hl 0 rfl) ?_
  obtain ⟨ob4, h⟩ := hy_if h
  obtain ⟨fs_ob4, hf_ob4, hg_ob4⟩ := hy_ob_spec ob4
  obtain ⟨x3, w1, hq_w1, h⟩ := hy_bi_spec h
  refine hy_calli (hy_runV (rest := []) (As := []) (r := v0) (b := a_v0) B S rfl ha_v0 (by rfl) (c_M_readRow hl9 G ad hq_w1) (hy_okr (by omega) hy_ok0) tw_785 tw_9 tw_782 tw_784 sl_M_readRow (by decide) rfl (Nat.le_of_ble_eq_true rfl) (Nat.le_of_ble_eq_true rfl) hf_ob4 hg_ob4 rfl hl.1 (Nat.le_of_ble_eq_true rfl) d_M_isPattern_1) (fun ad2 H locs cells slots hag hl_w1 S => ?_)
  have ha_v0 : ad2 v0 = a_v0 := (hag v0 (by omega)).trans ha_v0
  refine lv_if_eq (tgt := 20) hx hb d_M_isPattern_4 (by decide) (fun c5 => ?_) (fun c5 => ?_)
  · rw [if_pos c5] at h
    cases h
    exact hy_jump K S (hy_okr (by omega) hy_ok0) (lv_sub hl [0] rfl) (by subst ha_v0; rfl) (by subst ha_v0; rfl)
  · rw [if_neg c5] at h
    refine lv_aload_n hx hb d_M_isPattern_7 rfl (lv_at hl 0 rfl) ?_
    obtain ⟨x6, hx6, h⟩ := hy_bd h
    refine hy_geti B S ha_v0 hx6 rfl (Nat.le_of_ble_eq_true rfl) i_6 (j := 11) tw_661 (fun _ h => h) d_M_isPattern_8 ?_
    refine lv_bipush (v := 16) hx hb d_M_isPattern_11 (by decide) ?_
    refine lv_icmp_gt (tgt := 20) hx hb d_M_isPattern_13 (by decide) (fun c7 => ?_) (fun c7 => ?_)
    · rw [if_pos c7] at h
      cases h
      exact hy_jump K S (hy_okr (by omega) hy_ok0) (lv_sub hl [0] rfl) (by subst ha_v0; rfl) (by subst ha_v0; rfl)
    · rw [if_neg c7] at h
      refine lv_iconst (v := 1) hx hb d_M_isPattern_16 (by decide) ?_
      refine lv_goto (tgt := 21) hx hb d_M_isPattern_17 (by decide) ?_
      cases h
      exact hy_jump K S (hy_okr (by omega) (hy_oki hy_ok0)) (lv_sub hl [0] rfl) (by subst ha_v0; rfl) (by subst ha_v0; rfl)
set_option maxHeartbeats 4000000 in
set_option maxRecDepth 100000 in
theorem sk_M_isPattern_20 {p : Program} {l : Launch} {e : Env} {s : State} {m : MethodId} {args : Array Value} {below : List Frame} {meth : Method} {c : Code} {G : hy_G} {A : Nat → Prop} {ad0 : Nat → Nat} {w0 : hy_W} {o : hy_O} (hl9 : l.flags = flags0) (hA : hy_A G ad0 w0 s.heap.size = A) (B : hy_B p l e (hy_rm 1 22 w0) s m args below meth c "HyphenPatternsModel" b_M_isPattern 4 (some .boolean) [] G A) (v0 : Nat) (w : hy_W) (nx : hy_N) (h : sg_M_isPattern_20 v0 w = some nx) (K : hy_Nx lay_M_isPattern p l e (hy_rm 1 22 w0) s m args below meth c 4 G A ad0 w0.1.length (hy_Q below G ad0 w0 o args s) o nx) : hy_At lay_M_isPattern p l e (hy_rm 1 22 w0) s m args below meth c 4 G A ad0 w0.1.length (hy_Q below G ad0 w0 o args s) (20, [.ref v0], w) := by
  intro ad H locs cells slots ls S hok hl
  have hx := B.1
  have hb := B.2.1
  dsimp only at S hok
  have hl : lv_has ls 4 [(0, .ref (ad v0))] := hl
  show W p l e (hy_rm 1 22 w0) s m args below meth c H locs cells slots (hy_Q below G ad0 w0 o args s) (F0 m 20 ls [])
  have hv_v0 : v0 < w.1.length := hok (.ref v0) (List.mem_of_getElem? (i := 0) rfl) v0 rfl
  obtain ⟨a_v0, ha_v0⟩ : ∃ a, ad v0 = a := ⟨_, rfl⟩
  rw [ha_v0] at hl
  unfold sg_M_isPattern_20 at h
  refine lv_iconst (v := 0) hx hb d_M_isPattern_20 (by decide) ?_
  cases h
  exact hy_jump K S (hy_okr (by omega) (hy_oki hy_ok0)) (lv_sub hl [0] rfl) (by subst ha_v0; rfl) (by subst ha_v0; rfl)
set_option maxHeartbeats 4000000 in
set_option maxRecDepth 100000 in
theorem sk_M_isPattern_21 {p : Program} {l : Launch} {e : Env} {s : State} {m : MethodId} {args : Array Value} {below : List Frame} {meth : Method} {c : Code} {G : hy_G} {A : Nat → Prop} {ad0 : Nat → Nat} {w0 : hy_W} {o : hy_O} (hl9 : l.flags = flags0) (hA : hy_A G ad0 w0 s.heap.size = A) (B : hy_B p l e (hy_rm 1 22 w0) s m args below meth c "HyphenPatternsModel" b_M_isPattern 4 (some .boolean) [] G A) (v0 : Nat) (s0 : Int32) (w : hy_W) (nx : hy_N) (h : sg_M_isPattern_21 v0 s0 w = some nx) (K : hy_Nx lay_M_isPattern p l e (hy_rm 1 22 w0) s m args below meth c 4 G A ad0 w0.1.length (hy_Q below G ad0 w0 o args s) o nx) : hy_At lay_M_isPattern p l e (hy_rm 1 22 w0) s m args below meth c 4 G A ad0 w0.1.length (hy_Q below G ad0 w0 o args s) (21, [.ref v0, .int s0], w) := by
  intro ad H locs cells slots ls S hok hl
  have hx := B.1
  have hb := B.2.1
  dsimp only at S hok
  have hl : lv_has ls 4 [(0, .ref (ad v0))] := hl
  show W p l e (hy_rm 1 22 w0) s m args below meth c H locs cells slots (hy_Q below G ad0 w0 o args s) (F0 m 21 ls [.int s0])
  have hv_v0 : v0 < w.1.length := hok (.ref v0) (List.mem_of_getElem? (i := 0) rfl) v0 rfl
  obtain ⟨a_v0, ha_v0⟩ : ∃ a, ad v0 = a := ⟨_, rfl⟩
  rw [ha_v0] at hl
  unfold sg_M_isPattern_21 at h
  refine lv_istore_n (lv' := [(1, .int s0), (0, .ref a_v0)]) hx hb d_M_isPattern_21 rfl hl (Nat.le_of_ble_eq_true rfl) rfl (fun ls hl => ?_)
  refine lv_iconst (v := 0) hx hb d_M_isPattern_22 (by decide) ?_
  refine lv_istore_n (lv' := [(2, .int 0), (1, .int s0), (0, .ref a_v0)]) hx hb d_M_isPattern_23 rfl hl (Nat.le_of_ble_eq_true rfl) rfl (fun ls hl => ?_)
  refine lv_iconst (v := 0) hx hb d_M_isPattern_24 (by decide) ?_
  refine lv_istore_n (lv' := [(3, .int 0), (2, .int 0), (1, .int s0), (0, .ref a_v0)]) hx hb d_M_isPattern_25 rfl hl (Nat.le_of_ble_eq_true rfl) rfl (fun ls hl => ?_)
  cases h
  exact hy_jump K S (hy_okr (by omega) (hy_oki (hy_oki (hy_oki hy_ok0)))) (lv_sub hl [3, 2, 1, 0] rfl) (by subst ha_v0; rfl) (by subst ha_v0; rfl)
set_option maxHeartbeats 4000000 in
set_option maxRecDepth 100000 in
theorem sk_M_isPattern_26 {p : Program} {l : Launch} {e : Env} {s : State} {m : MethodId} {args : Array Value} {below : List Frame} {meth : Method} {c : Code} {G : hy_G} {A : Nat → Prop} {ad0 : Nat → Nat} {w0 : hy_W} {o : hy_O} (hl9 : l.flags = flags0) (hA : hy_A G ad0 w0 s.heap.size = A) (B : hy_B p l e (hy_rm 1 22 w0) s m args below meth c "HyphenPatternsModel" b_M_isPattern 4 (some .boolean) [] G A) (v0 : Nat) (v1 : Int32) (v2 : Int32) (v3 : Int32) (w : hy_W) (nx : hy_N) (h : sg_M_isPattern_26 v0 v1 v2 v3 w = some nx) (K : hy_Nx lay_M_isPattern p l e (hy_rm 1 22 w0) s m args below meth c 4 G A ad0 w0.1.length (hy_Q below G ad0 w0 o args s) o nx) : hy_At lay_M_isPattern p l e (hy_rm 1 22 w0) s m args below meth c 4 G A ad0 w0.1.length (hy_Q below G ad0 w0 o args s) (26, [.ref v0, .int v1, .int v2, .int v3], w) := by
  intro ad H locs cells slots ls S hok hl
  have hx := B.1
  have hb := B.2.1
  dsimp only at S hok
  have hl : lv_has ls 4 [(0, .ref (ad v0)), (1, .int v1), (2, .int v2), (3, .int v3)] := hl
  show W p l e (hy_rm 1 22 w0) s m args below meth c H locs cells slots (hy_Q below G ad0 w0 o args s) (F0 m 26 ls [])
  have hv_v0 : v0 < w.1.length := hok (.ref v0) (List.mem_of_getElem? (i := 0) rfl) v0 rfl
  obtain ⟨a_v0, ha_v0⟩ : ∃ a, ad v0 = a := ⟨_, rfl⟩
  rw [ha_v0] at hl
  unfold sg_M_isPattern_26 at h
  refine lv_iload_n hx hb d_M_isPattern_26 rfl (lv_at hl 3 rfl) ?_
  refine lv_aload_n hx hb d_M_isPattern_27 rfl (lv_at hl 0 rfl) ?_
  obtain ⟨x1, hx1, h⟩ := hy_bd h
  refine hy_geti B S ha_v0 hx1 rfl (Nat.le_of_ble_eq_true rfl) i_6 (j := 11) tw_661 (fun _ h => h) d_M_isPattern_28 ?_
  refine lv_icmp_ge (tgt := 92) hx hb d_M_isPattern_31 (by decide) (fun c2 => ?_) (fun c2 => ?_)
  · rw [if_pos c2] at h
    refine lv_iconst (v := 0) hx hb d_M_isPattern_92 (by decide) ?_
    refine lv_istore_n (lv' := [(3, .int 0), (0, .ref a_v0), (1, .int v1), (2, .int v2)]) hx hb d_M_isPattern_93 rfl hl (Nat.le_of_ble_eq_true rfl) rfl (fun ls hl => ?_)
    cases h
    exact hy_jump K S (hy_okr (by omega) (hy_oki (hy_oki (hy_oki hy_ok0)))) (lv_sub hl [1, 2, 3, 0] rfl) (by subst ha_v0; rfl) (by subst ha_v0; rfl)
  · rw [if_neg c2] at h
    refine lv_iload_n hx hb d_M_isPattern_34 rfl (lv_at hl 2 rfl) ?_
    refine lv_if_ne (tgt := 47) hx hb d_M_isPattern_35 (by decide) (fun c3 => ?_) (fun c3 => ?_)
    · rw [if_neg c3] at h
      cases h
      exact hy_jump K S (hy_okr (by omega) (hy_oki (hy_oki hy_ok0))) (lv_sub hl [0, 1, 3] rfl) (by subst ha_v0; rfl) (by subst ha_v0; rfl)
    · rw [if_pos c3] at h
      refine lv_aload_n hx hb d_M_isPattern_38 rfl (lv_at hl 0 rfl) ?_
      obtain ⟨r4, hr4, h⟩ := hy_bd h
      refine hy_getr B S ha_v0 hr4 rfl (Nat.le_of_ble_eq_true rfl) i_6 (j := 12) tw_662 (fun _ h => h) d_M_isPattern_39 (fun a_r4 ha_r4 hv_r4 => ?_)
      refine lv_iload_n hx hb d_M_isPattern_42 rfl (lv_at hl 3 rfl) ?_
      obtain ⟨x5, hx5, h⟩ := hy_bd h
      refine hy_iald B S ha_r4 hx5 d_M_isPattern_43 ?_
      refine lv_if_eq (tgt := 51) hx hb d_M_isPattern_44 (by decide) (fun c6 => ?_) (fun c6 => ?_)
      · rw [if_pos c6] at h
        refine lv_iconst (v := 0) hx hb d_M_isPattern_51 (by decide) ?_
        cases h
        exact hy_jump K S (hy_okr (by omega) (hy_oki (hy_oki (hy_oki hy_ok0)))) (lv_sub hl [0, 1, 3] rfl) (by subst ha_v0; rfl) (by subst ha_v0; rfl)
      · rw [if_neg c6] at h
        cases h
        exact hy_jump K S (hy_okr (by omega) (hy_oki (hy_oki hy_ok0))) (lv_sub hl [0, 1, 3] rfl) (by subst ha_v0; rfl) (by subst ha_v0; rfl)
set_option maxHeartbeats 4000000 in
set_option maxRecDepth 100000 in
theorem sk_M_isPattern_47 {p : Program} {l : Launch} {e : Env} {s : State} {m : MethodId} {args : Array Value} {below : List Frame} {meth : Method} {c : Code} {G : hy_G} {A : Nat → Prop} {ad0 : Nat → Nat} {w0 : hy_W} {o : hy_O} (hl9 : l.flags = flags0) (hA : hy_A G ad0 w0 s.heap.size = A) (B : hy_B p l e (hy_rm 1 22 w0) s m args below meth c "HyphenPatternsModel" b_M_isPattern 4 (some .boolean) [] G A) (v0 : Nat) (v1 : Int32) (v3 : Int32) (w : hy_W) (nx : hy_N) (h : sg_M_isPattern_47 v0 v1 v3 w = some nx) (K : hy_Nx lay_M_isPattern p l e (hy_rm 1 22 w0) s m args below meth c 4 G A ad0 w0.1.length (hy_Q below G ad0 w0 o args s) o nx) : hy_At lay_M_isPattern p l e (hy_rm 1 22 w0) s m args below meth c 4 G A ad0 w0.1.length (hy_Q below G ad0 w0 o args s) (47, [.ref v0, .int v1, .int v3], w) := by
  intro ad H locs cells slots ls S hok hl
  have hx := B.1
  have hb := B.2.1
  dsimp only at S hok
  have hl : lv_has ls 4 [(0, .ref (ad v0)), (1, .int v1), (3, .int v3)] := hl
  show W p l e (hy_rm 1 22 w0) s m args below meth c H locs cells slots (hy_Q below G ad0 w0 o args s) (F0 m 47 ls [])
  have hv_v0 : v0 < w.1.length := hok (.ref v0) (List.mem_of_getElem? (i := 0) rfl) v0 rfl
  obtain ⟨a_v0, ha_v0⟩ : ∃ a, ad v0 = a := ⟨_, rfl⟩
  rw [ha_v0] at hl
  unfold sg_M_isPattern_47 at h
  refine lv_iconst (v := 1) hx hb d_M_isPattern_47 (by decide) ?_
  refine lv_goto (tgt := 52) hx hb d_M_isPattern_48 (by decide) ?_
  cases h
  exact hy_jump K S (hy_okr (by omega) (hy_oki (hy_oki (hy_oki hy_ok0)))) (lv_sub hl [0, 1, 2] rfl) (by subst ha_v0; rfl) (by subst ha_v0; rfl)
set_option maxHeartbeats 4000000 in
set_option maxRecDepth 100000 in
theorem sk_M_isPattern_52 {p : Program} {l : Launch} {e : Env} {s : State} {m : MethodId} {args : Array Value} {below : List Frame} {meth : Method} {c : Code} {G : hy_G} {A : Nat → Prop} {ad0 : Nat → Nat} {w0 : hy_W} {o : hy_O} (hl9 : l.flags = flags0) (hA : hy_A G ad0 w0 s.heap.size = A) (B : hy_B p l e (hy_rm 1 22 w0) s m args below meth c "HyphenPatternsModel" b_M_isPattern 4 (some .boolean) [] G A) (v0 : Nat) (v1 : Int32) (v3 : Int32) (s0 : Int32) (w : hy_W) (nx : hy_N) (h : sg_M_isPattern_52 v0 v1 v3 s0 w = some nx) (K : hy_Nx lay_M_isPattern p l e (hy_rm 1 22 w0) s m args below meth c 4 G A ad0 w0.1.length (hy_Q below G ad0 w0 o args s) o nx) : hy_At lay_M_isPattern p l e (hy_rm 1 22 w0) s m args below meth c 4 G A ad0 w0.1.length (hy_Q below G ad0 w0 o args s) (52, [.ref v0, .int v1, .int v3, .int s0], w) := by
  intro ad H locs cells slots ls S hok hl
  have hx := B.1
  have hb := B.2.1
  dsimp only at S hok
  have hl : lv_has ls 4 [(0, .ref (ad v0)), (1, .int v1), (3, .int v3)] := hl
  show W p l e (hy_rm 1 22 w0) s m args below meth c H locs cells slots (hy_Q below G ad0 w0 o args s) (F0 m 52 ls [.int s0])
  have hv_v0 : v0 < w.1.length := hok (.ref v0) (List.mem_of_getElem? (i := 0) rfl) v0 rfl
  obtain ⟨a_v0, ha_v0⟩ : ∃ a, ad v0 = a := ⟨_, rfl⟩
  rw [ha_v0] at hl
  unfold sg_M_isPattern_52 at h
  refine lv_istore_n (lv' := [(2, .int s0), (0, .ref a_v0), (1, .int v1), (3, .int v3)]) hx hb d_M_isPattern_52 rfl hl (Nat.le_of_ble_eq_true rfl) rfl (fun ls hl => ?_)
  refine lv_iload_n hx hb d_M_isPattern_53 rfl (lv_at hl 2 rfl) ?_
  refine lv_if_eq (tgt := 84) hx hb d_M_isPattern_54 (by decide) (fun c1 => ?_) (fun c1 => ?_)
  · rw [if_pos c1] at h
    cases h
    exact hy_jump K S (hy_okr (by omega) (hy_oki (hy_oki hy_ok0))) (lv_sub hl [1, 0, 3] rfl) (by subst ha_v0; rfl) (by subst ha_v0; rfl)
  · rw [if_neg c1] at h
    refine lv_aload_n hx hb d_M_isPattern_57 rfl (lv_at hl 1 rfl) ?_
    obtain ⟨r2, hr2, h⟩ := hy_bd h
    refine hy_getr B S ha_v0 hr2 rfl (Nat.le_of_ble_eq_true rfl) i_6 (j := 12) tw_662 (fun _ h => h) d_M_isPattern_58 (fun a_r2 ha_r2 hv_r2 => ?_)
    refine lv_iload_n hx hb d_M_isPattern_61 rfl (lv_at hl 3 rfl) ?_
    obtain ⟨x3, hx3, h⟩ := hy_bd h
    refine hy_iald B S ha_r2 hx3 d_M_isPattern_62 ?_
    refine lv_if_ne (tgt := 80) hx hb d_M_isPattern_63 (by decide) (fun c4 => ?_) (fun c4 => ?_)
    · rw [if_neg c4] at h
      cases h
      exact hy_jump K S (hy_okr (by omega) (hy_oki (hy_oki hy_ok0))) (lv_sub hl [1, 0, 3] rfl) (by subst ha_v0; rfl) (by subst ha_v0; rfl)
    · rw [if_pos c4] at h
      refine lv_iload_n hx hb d_M_isPattern_66 rfl (lv_at hl 3 rfl) ?_
      refine lv_if_eq (tgt := 80) hx hb d_M_isPattern_67 (by decide) (fun c5 => ?_) (fun c5 => ?_)
      · rw [if_pos c5] at h
        cases h
        exact hy_jump K S (hy_okr (by omega) (hy_oki (hy_oki hy_ok0))) (lv_sub hl [1, 0, 3] rfl) (by subst ha_v0; rfl) (by subst ha_v0; rfl)
      · rw [if_neg c5] at h
        refine lv_iload_n hx hb d_M_isPattern_70 rfl (lv_at hl 3 rfl) ?_
        refine lv_aload_n hx hb d_M_isPattern_71 rfl (lv_at hl 1 rfl) ?_
        obtain ⟨x6, hx6, h⟩ := hy_bd h
        refine hy_geti B S ha_v0 hx6 rfl (Nat.le_of_ble_eq_true rfl) i_6 (j := 11) tw_661 (fun _ h => h) d_M_isPattern_72 ?_
        refine lv_iconst (v := 1) hx hb d_M_isPattern_75 (by decide) ?_
        refine lv_isub hx hb d_M_isPattern_76 ?_
        refine lv_icmp_ne (tgt := 84) hx hb d_M_isPattern_77 (by decide) (fun c7 => ?_) (fun c7 => ?_)
        · rw [if_neg c7] at h
          cases h
          exact hy_jump K S (hy_okr (by omega) (hy_oki (hy_oki hy_ok0))) (lv_sub hl [1, 0, 3] rfl) (by subst ha_v0; rfl) (by subst ha_v0; rfl)
        · rw [if_pos c7] at h
          cases h
          exact hy_jump K S (hy_okr (by omega) (hy_oki (hy_oki hy_ok0))) (lv_sub hl [1, 0, 3] rfl) (by subst ha_v0; rfl) (by subst ha_v0; rfl)
set_option maxHeartbeats 4000000 in
set_option maxRecDepth 100000 in
theorem sk_M_isPattern_80 {p : Program} {l : Launch} {e : Env} {s : State} {m : MethodId} {args : Array Value} {below : List Frame} {meth : Method} {c : Code} {G : hy_G} {A : Nat → Prop} {ad0 : Nat → Nat} {w0 : hy_W} {o : hy_O} (hl9 : l.flags = flags0) (hA : hy_A G ad0 w0 s.heap.size = A) (B : hy_B p l e (hy_rm 1 22 w0) s m args below meth c "HyphenPatternsModel" b_M_isPattern 4 (some .boolean) [] G A) (v0 : Nat) (v2 : Int32) (v3 : Int32) (w : hy_W) (nx : hy_N) (h : sg_M_isPattern_80 v0 v2 v3 w = some nx) (K : hy_Nx lay_M_isPattern p l e (hy_rm 1 22 w0) s m args below meth c 4 G A ad0 w0.1.length (hy_Q below G ad0 w0 o args s) o nx) : hy_At lay_M_isPattern p l e (hy_rm 1 22 w0) s m args below meth c 4 G A ad0 w0.1.length (hy_Q below G ad0 w0 o args s) (80, [.ref v0, .int v2, .int v3], w) := by
  intro ad H locs cells slots ls S hok hl
  have hx := B.1
  have hb := B.2.1
  dsimp only at S hok
  have hl : lv_has ls 4 [(0, .ref (ad v0)), (2, .int v2), (3, .int v3)] := hl
  show W p l e (hy_rm 1 22 w0) s m args below meth c H locs cells slots (hy_Q below G ad0 w0 o args s) (F0 m 80 ls [])
  have hv_v0 : v0 < w.1.length := hok (.ref v0) (List.mem_of_getElem? (i := 0) rfl) v0 rfl
  obtain ⟨a_v0, ha_v0⟩ : ∃ a, ad v0 = a := ⟨_, rfl⟩
  rw [ha_v0] at hl
  unfold sg_M_isPattern_80 at h
  refine lv_iconst (v := 1) hx hb d_M_isPattern_80 (by decide) ?_
  refine lv_goto (tgt := 85) hx hb d_M_isPattern_81 (by decide) ?_
  cases h
  exact hy_jump K S (hy_okr (by omega) (hy_oki (hy_oki (hy_oki hy_ok0)))) (lv_sub hl [0, 1, 2] rfl) (by subst ha_v0; rfl) (by subst ha_v0; rfl)
set_option maxHeartbeats 4000000 in
set_option maxRecDepth 100000 in
theorem sk_M_isPattern_84 {p : Program} {l : Launch} {e : Env} {s : State} {m : MethodId} {args : Array Value} {below : List Frame} {meth : Method} {c : Code} {G : hy_G} {A : Nat → Prop} {ad0 : Nat → Nat} {w0 : hy_W} {o : hy_O} (hl9 : l.flags = flags0) (hA : hy_A G ad0 w0 s.heap.size = A) (B : hy_B p l e (hy_rm 1 22 w0) s m args below meth c "HyphenPatternsModel" b_M_isPattern 4 (some .boolean) [] G A) (v0 : Nat) (v2 : Int32) (v3 : Int32) (w : hy_W) (nx : hy_N) (h : sg_M_isPattern_84 v0 v2 v3 w = some nx) (K : hy_Nx lay_M_isPattern p l e (hy_rm 1 22 w0) s m args below meth c 4 G A ad0 w0.1.length (hy_Q below G ad0 w0 o args s) o nx) : hy_At lay_M_isPattern p l e (hy_rm 1 22 w0) s m args below meth c 4 G A ad0 w0.1.length (hy_Q below G ad0 w0 o args s) (84, [.ref v0, .int v2, .int v3], w) := by
  intro ad H locs cells slots ls S hok hl
  have hx := B.1
  have hb := B.2.1
  dsimp only at S hok
  have hl : lv_has ls 4 [(0, .ref (ad v0)), (2, .int v2), (3, .int v3)] := hl
  show W p l e (hy_rm 1 22 w0) s m args below meth c H locs cells slots (hy_Q below G ad0 w0 o args s) (F0 m 84 ls [])
  have hv_v0 : v0 < w.1.length := hok (.ref v0) (List.mem_of_getElem? (i := 0) rfl) v0 rfl
  obtain ⟨a_v0, ha_v0⟩ : ∃ a, ad v0 = a := ⟨_, rfl⟩
  rw [ha_v0] at hl
  unfold sg_M_isPattern_84 at h
  refine lv_iconst (v := 0) hx hb d_M_isPattern_84 (by decide) ?_
  cases h
  exact hy_jump K S (hy_okr (by omega) (hy_oki (hy_oki (hy_oki hy_ok0)))) (lv_sub hl [0, 1, 2] rfl) (by subst ha_v0; rfl) (by subst ha_v0; rfl)
set_option maxHeartbeats 4000000 in
set_option maxRecDepth 100000 in
theorem sk_M_isPattern_85 {p : Program} {l : Launch} {e : Env} {s : State} {m : MethodId} {args : Array Value} {below : List Frame} {meth : Method} {c : Code} {G : hy_G} {A : Nat → Prop} {ad0 : Nat → Nat} {w0 : hy_W} {o : hy_O} (hl9 : l.flags = flags0) (hA : hy_A G ad0 w0 s.heap.size = A) (B : hy_B p l e (hy_rm 1 22 w0) s m args below meth c "HyphenPatternsModel" b_M_isPattern 4 (some .boolean) [] G A) (v0 : Nat) (v2 : Int32) (v3 : Int32) (s0 : Int32) (w : hy_W) (nx : hy_N) (h : sg_M_isPattern_85 v0 v2 v3 s0 w = some nx) (K : hy_Nx lay_M_isPattern p l e (hy_rm 1 22 w0) s m args below meth c 4 G A ad0 w0.1.length (hy_Q below G ad0 w0 o args s) o nx) : hy_At lay_M_isPattern p l e (hy_rm 1 22 w0) s m args below meth c 4 G A ad0 w0.1.length (hy_Q below G ad0 w0 o args s) (85, [.ref v0, .int v2, .int v3, .int s0], w) := by
  intro ad H locs cells slots ls S hok hl
  have hx := B.1
  have hb := B.2.1
  dsimp only at S hok
  have hl : lv_has ls 4 [(0, .ref (ad v0)), (2, .int v2), (3, .int v3)] := hl
  show W p l e (hy_rm 1 22 w0) s m args below meth c H locs cells slots (hy_Q below G ad0 w0 o args s) (F0 m 85 ls [.int s0])
  have hv_v0 : v0 < w.1.length := hok (.ref v0) (List.mem_of_getElem? (i := 0) rfl) v0 rfl
  obtain ⟨a_v0, ha_v0⟩ : ∃ a, ad v0 = a := ⟨_, rfl⟩
  rw [ha_v0] at hl
  unfold sg_M_isPattern_85 at h
  refine lv_istore_n (lv' := [(1, .int s0), (0, .ref a_v0), (2, .int v2), (3, .int v3)]) hx hb d_M_isPattern_85 rfl hl (Nat.le_of_ble_eq_true rfl) rfl (fun ls hl => ?_)
  refine lv_iinc (v := (v3 + 1)) (lv' := [(3, .int (v3 + 1)), (1, .int s0), (0, .ref a_v0), (2, .int v2)]) hx hb d_M_isPattern_86 hl (k := 3) rfl rfl (Nat.le_of_ble_eq_true rfl) rfl (fun ls hl => ?_)
  refine lv_goto (tgt := 26) hx hb d_M_isPattern_89 (by decide) ?_
  cases h
  exact hy_jump K S (hy_okr (by omega) (hy_oki (hy_oki (hy_oki hy_ok0)))) (lv_sub hl [2, 1, 3, 0] rfl) (by subst ha_v0; rfl) (by subst ha_v0; rfl)
set_option maxHeartbeats 4000000 in
set_option maxRecDepth 100000 in
theorem sk_M_isPattern_94 {p : Program} {l : Launch} {e : Env} {s : State} {m : MethodId} {args : Array Value} {below : List Frame} {meth : Method} {c : Code} {G : hy_G} {A : Nat → Prop} {ad0 : Nat → Nat} {w0 : hy_W} {o : hy_O} (hl9 : l.flags = flags0) (hA : hy_A G ad0 w0 s.heap.size = A) (B : hy_B p l e (hy_rm 1 22 w0) s m args below meth c "HyphenPatternsModel" b_M_isPattern 4 (some .boolean) [] G A) (v0 : Nat) (v1 : Int32) (v2 : Int32) (v3 : Int32) (w : hy_W) (nx : hy_N) (h : sg_M_isPattern_94 v0 v1 v2 v3 w = some nx) (K : hy_Nx lay_M_isPattern p l e (hy_rm 1 22 w0) s m args below meth c 4 G A ad0 w0.1.length (hy_Q below G ad0 w0 o args s) o nx) : hy_At lay_M_isPattern p l e (hy_rm 1 22 w0) s m args below meth c 4 G A ad0 w0.1.length (hy_Q below G ad0 w0 o args s) (94, [.ref v0, .int v1, .int v2, .int v3], w) := by
  intro ad H locs cells slots ls S hok hl
  have hx := B.1
  have hb := B.2.1
  dsimp only at S hok
  have hl : lv_has ls 4 [(0, .ref (ad v0)), (1, .int v1), (2, .int v2), (3, .int v3)] := hl
  show W p l e (hy_rm 1 22 w0) s m args below meth c H locs cells slots (hy_Q below G ad0 w0 o args s) (F0 m 94 ls [])
  have hv_v0 : v0 < w.1.length := hok (.ref v0) (List.mem_of_getElem? (i := 0) rfl) v0 rfl
  obtain ⟨a_v0, ha_v0⟩ : ∃ a, ad v0 = a := ⟨_, rfl⟩
  rw [ha_v0] at hl
  unfold sg_M_isPattern_94 at h
  refine lv_iload_n hx hb d_M_isPattern_94 rfl (lv_at hl 3 rfl) ?_
  refine lv_aload_n hx hb d_M_isPattern_95 rfl (lv_at hl 0 rfl) ?_
  obtain ⟨x1, hx1, h⟩ := hy_bd h
  refine hy_geti B S ha_v0 hx1 rfl (Nat.le_of_ble_eq_true rfl) i_6 (j := 11) tw_661 (fun _ h => h) d_M_isPattern_96 ?_
  refine lv_icmp_gt (tgt := 129) hx hb d_M_isPattern_99 (by decide) (fun c2 => ?_) (fun c2 => ?_)
  · rw [if_pos c2] at h
    refine lv_iload_n hx hb d_M_isPattern_129 rfl (lv_at hl 1 rfl) ?_
    refine lv_if_eq (tgt := 141) hx hb d_M_isPattern_130 (by decide) (fun c3 => ?_) (fun c3 => ?_)
    · rw [if_pos c3] at h
      cases h
      exact hy_jump K S hy_ok0 (lv_sub hl [] rfl) (by rfl) (by rfl)
    · rw [if_neg c3] at h
      refine lv_iload_n hx hb d_M_isPattern_133 rfl (lv_at hl 2 rfl) ?_
      refine lv_if_eq (tgt := 141) hx hb d_M_isPattern_134 (by decide) (fun c4 => ?_) (fun c4 => ?_)
      · rw [if_pos c4] at h
        cases h
        exact hy_jump K S hy_ok0 (lv_sub hl [] rfl) (by rfl) (by rfl)
      · rw [if_neg c4] at h
        refine lv_iconst (v := 1) hx hb d_M_isPattern_137 (by decide) ?_
        refine lv_goto (tgt := 142) hx hb d_M_isPattern_138 (by decide) ?_
        cases h
        cases K
        exact hy_zret hA B S (by decide) d_M_isPattern_142
  · rw [if_neg c2] at h
    refine lv_iload_n hx hb d_M_isPattern_102 rfl (lv_at hl 1 rfl) ?_
    refine lv_if_eq (tgt := 121) hx hb d_M_isPattern_103 (by decide) (fun c5 => ?_) (fun c5 => ?_)
    · rw [if_pos c5] at h
      cases h
      exact hy_jump K S (hy_okr (by omega) (hy_oki (hy_oki hy_ok0))) (lv_sub hl [0, 2, 3] rfl) (by subst ha_v0; rfl) (by subst ha_v0; rfl)
    · rw [if_neg c5] at h
      refine lv_aload_n hx hb d_M_isPattern_106 rfl (lv_at hl 0 rfl) ?_
      obtain ⟨r6, hr6, h⟩ := hy_bd h
      refine hy_getr B S ha_v0 hr6 rfl (Nat.le_of_ble_eq_true rfl) i_6 (j := 13) tw_663 (fun _ h => h) d_M_isPattern_107 (fun a_r6 ha_r6 hv_r6 => ?_)
      refine lv_iload_n hx hb d_M_isPattern_110 rfl (lv_at hl 3 rfl) ?_
      obtain ⟨x7, hx7, h⟩ := hy_bd h
      refine hy_iald B S ha_r6 hx7 d_M_isPattern_111 ?_
      refine lv_bipush (v := 10) hx hb d_M_isPattern_112 (by decide) ?_
      refine lv_icmp_eq (tgt := 121) hx hb d_M_isPattern_114 (by decide) (fun c8 => ?_) (fun c8 => ?_)
      · rw [if_pos c8] at h
        cases h
        exact hy_jump K S (hy_okr (by omega) (hy_oki (hy_oki hy_ok0))) (lv_sub hl [0, 2, 3] rfl) (by subst ha_v0; rfl) (by subst ha_v0; rfl)
      · rw [if_neg c8] at h
        refine lv_iconst (v := 1) hx hb d_M_isPattern_117 (by decide) ?_
        refine lv_goto (tgt := 122) hx hb d_M_isPattern_118 (by decide) ?_
        cases h
        exact hy_jump K S (hy_okr (by omega) (hy_oki (hy_oki (hy_oki hy_ok0)))) (lv_sub hl [0, 2, 3] rfl) (by subst ha_v0; rfl) (by subst ha_v0; rfl)
set_option maxHeartbeats 4000000 in
set_option maxRecDepth 100000 in
theorem sk_M_isPattern_121 {p : Program} {l : Launch} {e : Env} {s : State} {m : MethodId} {args : Array Value} {below : List Frame} {meth : Method} {c : Code} {G : hy_G} {A : Nat → Prop} {ad0 : Nat → Nat} {w0 : hy_W} {o : hy_O} (hl9 : l.flags = flags0) (hA : hy_A G ad0 w0 s.heap.size = A) (B : hy_B p l e (hy_rm 1 22 w0) s m args below meth c "HyphenPatternsModel" b_M_isPattern 4 (some .boolean) [] G A) (v0 : Nat) (v2 : Int32) (v3 : Int32) (w : hy_W) (nx : hy_N) (h : sg_M_isPattern_121 v0 v2 v3 w = some nx) (K : hy_Nx lay_M_isPattern p l e (hy_rm 1 22 w0) s m args below meth c 4 G A ad0 w0.1.length (hy_Q below G ad0 w0 o args s) o nx) : hy_At lay_M_isPattern p l e (hy_rm 1 22 w0) s m args below meth c 4 G A ad0 w0.1.length (hy_Q below G ad0 w0 o args s) (121, [.ref v0, .int v2, .int v3], w) := by
  intro ad H locs cells slots ls S hok hl
  have hx := B.1
  have hb := B.2.1
  dsimp only at S hok
  have hl : lv_has ls 4 [(0, .ref (ad v0)), (2, .int v2), (3, .int v3)] := hl
  show W p l e (hy_rm 1 22 w0) s m args below meth c H locs cells slots (hy_Q below G ad0 w0 o args s) (F0 m 121 ls [])
  have hv_v0 : v0 < w.1.length := hok (.ref v0) (List.mem_of_getElem? (i := 0) rfl) v0 rfl
  obtain ⟨a_v0, ha_v0⟩ : ∃ a, ad v0 = a := ⟨_, rfl⟩
  rw [ha_v0] at hl
  unfold sg_M_isPattern_121 at h
  refine lv_iconst (v := 0) hx hb d_M_isPattern_121 (by decide) ?_
  cases h
  exact hy_jump K S (hy_okr (by omega) (hy_oki (hy_oki (hy_oki hy_ok0)))) (lv_sub hl [0, 1, 2] rfl) (by subst ha_v0; rfl) (by subst ha_v0; rfl)
set_option maxHeartbeats 4000000 in
set_option maxRecDepth 100000 in
theorem sk_M_isPattern_122 {p : Program} {l : Launch} {e : Env} {s : State} {m : MethodId} {args : Array Value} {below : List Frame} {meth : Method} {c : Code} {G : hy_G} {A : Nat → Prop} {ad0 : Nat → Nat} {w0 : hy_W} {o : hy_O} (hl9 : l.flags = flags0) (hA : hy_A G ad0 w0 s.heap.size = A) (B : hy_B p l e (hy_rm 1 22 w0) s m args below meth c "HyphenPatternsModel" b_M_isPattern 4 (some .boolean) [] G A) (v0 : Nat) (v2 : Int32) (v3 : Int32) (s0 : Int32) (w : hy_W) (nx : hy_N) (h : sg_M_isPattern_122 v0 v2 v3 s0 w = some nx) (K : hy_Nx lay_M_isPattern p l e (hy_rm 1 22 w0) s m args below meth c 4 G A ad0 w0.1.length (hy_Q below G ad0 w0 o args s) o nx) : hy_At lay_M_isPattern p l e (hy_rm 1 22 w0) s m args below meth c 4 G A ad0 w0.1.length (hy_Q below G ad0 w0 o args s) (122, [.ref v0, .int v2, .int v3, .int s0], w) := by
  intro ad H locs cells slots ls S hok hl
  have hx := B.1
  have hb := B.2.1
  dsimp only at S hok
  have hl : lv_has ls 4 [(0, .ref (ad v0)), (2, .int v2), (3, .int v3)] := hl
  show W p l e (hy_rm 1 22 w0) s m args below meth c H locs cells slots (hy_Q below G ad0 w0 o args s) (F0 m 122 ls [.int s0])
  have hv_v0 : v0 < w.1.length := hok (.ref v0) (List.mem_of_getElem? (i := 0) rfl) v0 rfl
  obtain ⟨a_v0, ha_v0⟩ : ∃ a, ad v0 = a := ⟨_, rfl⟩
  rw [ha_v0] at hl
  unfold sg_M_isPattern_122 at h
  refine lv_istore_n (lv' := [(1, .int s0), (0, .ref a_v0), (2, .int v2), (3, .int v3)]) hx hb d_M_isPattern_122 rfl hl (Nat.le_of_ble_eq_true rfl) rfl (fun ls hl => ?_)
  refine lv_iinc (v := (v3 + 1)) (lv' := [(3, .int (v3 + 1)), (1, .int s0), (0, .ref a_v0), (2, .int v2)]) hx hb d_M_isPattern_123 hl (k := 3) rfl rfl (Nat.le_of_ble_eq_true rfl) rfl (fun ls hl => ?_)
  refine lv_goto (tgt := 94) hx hb d_M_isPattern_126 (by decide) ?_
  cases h
  exact hy_jump K S (hy_okr (by omega) (hy_oki (hy_oki (hy_oki hy_ok0)))) (lv_sub hl [2, 1, 3, 0] rfl) (by subst ha_v0; rfl) (by subst ha_v0; rfl)
set_option maxHeartbeats 4000000 in
set_option maxRecDepth 100000 in
theorem sk_M_isPattern_141 {p : Program} {l : Launch} {e : Env} {s : State} {m : MethodId} {args : Array Value} {below : List Frame} {meth : Method} {c : Code} {G : hy_G} {A : Nat → Prop} {ad0 : Nat → Nat} {w0 : hy_W} {o : hy_O} (hl9 : l.flags = flags0) (hA : hy_A G ad0 w0 s.heap.size = A) (B : hy_B p l e (hy_rm 1 22 w0) s m args below meth c "HyphenPatternsModel" b_M_isPattern 4 (some .boolean) [] G A)  (w : hy_W) (nx : hy_N) (h : sg_M_isPattern_141  w = some nx) (K : hy_Nx lay_M_isPattern p l e (hy_rm 1 22 w0) s m args below meth c 4 G A ad0 w0.1.length (hy_Q below G ad0 w0 o args s) o nx) : hy_At lay_M_isPattern p l e (hy_rm 1 22 w0) s m args below meth c 4 G A ad0 w0.1.length (hy_Q below G ad0 w0 o args s) (141, [], w) := by
  intro ad H locs cells slots ls S hok hl
  have hx := B.1
  have hb := B.2.1
  dsimp only at S hok
  have hl : lv_has ls 4 [] := hl
  show W p l e (hy_rm 1 22 w0) s m args below meth c H locs cells slots (hy_Q below G ad0 w0 o args s) (F0 m 141 ls [])
  unfold sg_M_isPattern_141 at h
  refine lv_iconst (v := 0) hx hb d_M_isPattern_141 (by decide) ?_
  cases h
  cases K
  exact hy_zret hA B S (by decide) d_M_isPattern_142
theorem nk_M_isPattern {p : Program} {l : Launch} {e : Env} {s : State} {m : MethodId} {args : Array Value} {below : List Frame} {meth : Method} {c : Code} {G : hy_G} {A : Nat → Prop} {ad0 : Nat → Nat} {w0 : hy_W} {o : hy_O} (hl9 : l.flags = flags0) (hA : hy_A G ad0 w0 s.heap.size = A) (B : hy_B p l e (hy_rm 1 22 w0) s m args below meth c "HyphenPatternsModel" b_M_isPattern 4 (some .boolean) [] G A) (q : hy_P) (nx : hy_N) (hq : nx_M_isPattern q = some nx) (K : hy_Nx lay_M_isPattern p l e (hy_rm 1 22 w0) s m args below meth c 4 G A ad0 w0.1.length (hy_Q below G ad0 w0 o args s) o nx) : hy_At lay_M_isPattern p l e (hy_rm 1 22 w0) s m args below meth c 4 G A ad0 w0.1.length (hy_Q below G ad0 w0 o args s) q := by
  unfold nx_M_isPattern at hq
  split at hq
  · exact sk_M_isPattern_0 hl9 hA B _ _ nx hq K
  · exact sk_M_isPattern_20 hl9 hA B _ _ nx hq K
  · exact sk_M_isPattern_21 hl9 hA B _ _ _ nx hq K
  · exact sk_M_isPattern_26 hl9 hA B _ _ _ _ _ nx hq K
  · exact sk_M_isPattern_47 hl9 hA B _ _ _ _ nx hq K
  · exact sk_M_isPattern_52 hl9 hA B _ _ _ _ _ nx hq K
  · exact sk_M_isPattern_80 hl9 hA B _ _ _ _ nx hq K
  · exact sk_M_isPattern_84 hl9 hA B _ _ _ _ nx hq K
  · exact sk_M_isPattern_85 hl9 hA B _ _ _ _ _ nx hq K
  · exact sk_M_isPattern_94 hl9 hA B _ _ _ _ _ nx hq K
  · exact sk_M_isPattern_121 hl9 hA B _ _ _ _ nx hq K
  · exact sk_M_isPattern_122 hl9 hA B _ _ _ _ _ nx hq K
  · exact sk_M_isPattern_141 hl9 hA B _ nx hq K
  · cases hq
theorem c_M_isPattern {l : Launch} (hl9 : l.flags = flags0) (G : hy_G) (ad : Nat → Nat) {v0 : Nat} {w : hy_W} {o : hy_O} (h : f_M_isPattern [.ref v0] w = some o) : hy_M l y_M_isPattern (Cond.code y_M_isPattern b_M_isPattern 4 (some .boolean) :: hy_T) 1 22 G ad [.ref v0] w o := by
  obtain ⟨n, hn⟩ := hy_fx_iff.mp h
  refine hy_ofW hl9 (by decide +kernel) (Nat.le_of_ble_eq_true rfl) (fun p e s m args below meth c A hA hi B S hok ls hl => ?_)
  exact hy_loop (nk_M_isPattern hl9 hA B) n _ hn ad s.heap [] 0 0 ls S hok hl
theorem d_M_findPattern_0 : decode b_M_findPattern 0 = .ok (.iconst (-1), 1) := by decide +kernel
theorem d_M_findPattern_1 : decode b_M_findPattern 1 = .ok (.istore_n 1, 1) := by decide +kernel
theorem d_M_findPattern_2 : decode b_M_findPattern 2 = .ok (.iconst 0, 1) := by decide +kernel
theorem d_M_findPattern_3 : decode b_M_findPattern 3 = .ok (.istore_n 2, 1) := by decide +kernel
theorem d_M_findPattern_4 : decode b_M_findPattern 4 = .ok (.iload_n 2, 1) := by decide +kernel
theorem d_M_findPattern_5 : decode b_M_findPattern 5 = .ok (.aload_n 0, 1) := by decide +kernel
theorem d_M_findPattern_6 : decode b_M_findPattern 6 = .ok (.getfield 106, 3) := by decide +kernel
theorem d_M_findPattern_9 : decode b_M_findPattern 9 = .ok (.if_icmp .ge 101, 3) := by decide +kernel
theorem d_M_findPattern_12 : decode b_M_findPattern 12 = .ok (.aload_n 0, 1) := by decide +kernel
theorem d_M_findPattern_13 : decode b_M_findPattern 13 = .ok (.getfield 40, 3) := by decide +kernel
theorem d_M_findPattern_16 : decode b_M_findPattern 16 = .ok (.iload_n 2, 1) := by decide +kernel
theorem d_M_findPattern_17 : decode b_M_findPattern 17 = .ok (.iaload, 1) := by decide +kernel
theorem d_M_findPattern_18 : decode b_M_findPattern 18 = .ok (.aload_n 0, 1) := by decide +kernel
theorem d_M_findPattern_19 : decode b_M_findPattern 19 = .ok (.getfield 76, 3) := by decide +kernel
theorem d_M_findPattern_22 : decode b_M_findPattern 22 = .ok (.if_icmp .ne 20, 3) := by decide +kernel
theorem d_M_findPattern_25 : decode b_M_findPattern 25 = .ok (.aload_n 0, 1) := by decide +kernel
theorem d_M_findPattern_26 : decode b_M_findPattern 26 = .ok (.getfield 43, 3) := by decide +kernel
theorem d_M_findPattern_29 : decode b_M_findPattern 29 = .ok (.iload_n 2, 1) := by decide +kernel
theorem d_M_findPattern_30 : decode b_M_findPattern 30 = .ok (.iaload, 1) := by decide +kernel
theorem d_M_findPattern_31 : decode b_M_findPattern 31 = .ok (.aload_n 0, 1) := by decide +kernel
theorem d_M_findPattern_32 : decode b_M_findPattern 32 = .ok (.getfield 99, 3) := by decide +kernel
theorem d_M_findPattern_35 : decode b_M_findPattern 35 = .ok (.if_icmp .ne 7, 3) := by decide +kernel
theorem d_M_findPattern_38 : decode b_M_findPattern 38 = .ok (.iconst 1, 1) := by decide +kernel
theorem d_M_findPattern_39 : decode b_M_findPattern 39 = .ok (.goto 4, 3) := by decide +kernel
theorem d_M_findPattern_42 : decode b_M_findPattern 42 = .ok (.iconst 0, 1) := by decide +kernel
theorem d_M_findPattern_43 : decode b_M_findPattern 43 = .ok (.istore_n 3, 1) := by decide +kernel
theorem d_M_findPattern_44 : decode b_M_findPattern 44 = .ok (.iconst 0, 1) := by decide +kernel
theorem d_M_findPattern_45 : decode b_M_findPattern 45 = .ok (.istore 4, 2) := by decide +kernel
theorem d_M_findPattern_47 : decode b_M_findPattern 47 = .ok (.iload 4, 2) := by decide +kernel
theorem d_M_findPattern_49 : decode b_M_findPattern 49 = .ok (.aload_n 0, 1) := by decide +kernel
theorem d_M_findPattern_50 : decode b_M_findPattern 50 = .ok (.getfield 99, 3) := by decide +kernel
theorem d_M_findPattern_53 : decode b_M_findPattern 53 = .ok (.if_icmp .ge 41, 3) := by decide +kernel
theorem d_M_findPattern_56 : decode b_M_findPattern 56 = .ok (.iload_n 3, 1) := by decide +kernel
theorem d_M_findPattern_57 : decode b_M_findPattern 57 = .ok (.ifCond .eq 37, 3) := by decide +kernel
theorem d_M_findPattern_60 : decode b_M_findPattern 60 = .ok (.aload_n 0, 1) := by decide +kernel
theorem d_M_findPattern_61 : decode b_M_findPattern 61 = .ok (.getfield 46, 3) := by decide +kernel
theorem d_M_findPattern_64 : decode b_M_findPattern 64 = .ok (.bipush 16, 2) := by decide +kernel
theorem d_M_findPattern_66 : decode b_M_findPattern 66 = .ok (.iload_n 2, 1) := by decide +kernel
theorem d_M_findPattern_67 : decode b_M_findPattern 67 = .ok (.imul, 1) := by decide +kernel
theorem d_M_findPattern_68 : decode b_M_findPattern 68 = .ok (.iload 4, 2) := by decide +kernel
theorem d_M_findPattern_70 : decode b_M_findPattern 70 = .ok (.iadd, 1) := by decide +kernel
theorem d_M_findPattern_71 : decode b_M_findPattern 71 = .ok (.iaload, 1) := by decide +kernel
theorem d_M_findPattern_72 : decode b_M_findPattern 72 = .ok (.aload_n 0, 1) := by decide +kernel
theorem d_M_findPattern_73 : decode b_M_findPattern 73 = .ok (.getfield 34, 3) := by decide +kernel
theorem d_M_findPattern_76 : decode b_M_findPattern 76 = .ok (.iload 4, 2) := by decide +kernel
theorem d_M_findPattern_78 : decode b_M_findPattern 78 = .ok (.iaload, 1) := by decide +kernel
theorem d_M_findPattern_79 : decode b_M_findPattern 79 = .ok (.if_icmp .ne 7, 3) := by decide +kernel
theorem d_M_findPattern_82 : decode b_M_findPattern 82 = .ok (.iconst 1, 1) := by decide +kernel
theorem d_M_findPattern_83 : decode b_M_findPattern 83 = .ok (.goto 4, 3) := by decide +kernel
theorem d_M_findPattern_86 : decode b_M_findPattern 86 = .ok (.iconst 0, 1) := by decide +kernel
theorem d_M_findPattern_87 : decode b_M_findPattern 87 = .ok (.istore_n 3, 1) := by decide +kernel
theorem d_M_findPattern_88 : decode b_M_findPattern 88 = .ok (.iinc 4 1, 3) := by decide +kernel
theorem d_M_findPattern_91 : decode b_M_findPattern 91 = .ok (.goto (-44), 3) := by decide +kernel
theorem d_M_findPattern_94 : decode b_M_findPattern 94 = .ok (.iload_n 3, 1) := by decide +kernel
theorem d_M_findPattern_95 : decode b_M_findPattern 95 = .ok (.ifCond .eq 7, 3) := by decide +kernel
theorem d_M_findPattern_98 : decode b_M_findPattern 98 = .ok (.iload_n 2, 1) := by decide +kernel
theorem d_M_findPattern_99 : decode b_M_findPattern 99 = .ok (.goto 4, 3) := by decide +kernel
theorem d_M_findPattern_102 : decode b_M_findPattern 102 = .ok (.iload_n 1, 1) := by decide +kernel
theorem d_M_findPattern_103 : decode b_M_findPattern 103 = .ok (.istore_n 1, 1) := by decide +kernel
theorem d_M_findPattern_104 : decode b_M_findPattern 104 = .ok (.iinc 2 1, 3) := by decide +kernel
theorem d_M_findPattern_107 : decode b_M_findPattern 107 = .ok (.goto (-103), 3) := by decide +kernel
theorem d_M_findPattern_110 : decode b_M_findPattern 110 = .ok (.iload_n 1, 1) := by decide +kernel
theorem d_M_findPattern_111 : decode b_M_findPattern 111 = .ok (.ireturn, 1) := by decide +kernel
def lay_M_findPattern (pc : Nat) : List Nat := if pc = 0 then [0] else if pc = 4 then [0, 1, 2] else if pc = 42 then [0, 1, 2] else if pc = 43 then [0, 1, 2] else if pc = 47 then [0, 1, 2, 3, 4] else if pc = 87 then [0, 1, 2, 4] else if pc = 94 then [0, 1, 2, 3] else if pc = 103 then [0, 2] else []
noncomputable def sg_M_findPattern_0 (v0 : Nat) (w : hy_W) : Option hy_N := some (.inl (4, [.ref v0, .int (-1), .int 0], w))
noncomputable def sg_M_findPattern_4 (v0 : Nat) (v1 : Int32) (v2 : Int32) (w : hy_W) : Option hy_N := (hy_gi w v0 6 14).bind fun x1 => if x1 ≤ v2 then (some (.inr (.inl (some (.int v1)), w))) else ((hy_gr w v0 6 15).bind fun r3 => (hy_ai w r3 v2).bind fun x4 => (hy_gi w v0 6 1).bind fun x5 => if x4 = x5 then ((hy_gr w v0 6 16).bind fun r7 => (hy_ai w r7 v2).bind fun x8 => (hy_gi w v0 6 11).bind fun x9 => if x8 = x9 then (some (.inl (43, [.ref v0, .int v1, .int v2, .int 1], w))) else (some (.inl (42, [.ref v0, .int v1, .int v2], w)))) else (some (.inl (42, [.ref v0, .int v1, .int v2], w))))
noncomputable def sg_M_findPattern_42 (v0 : Nat) (v1 : Int32) (v2 : Int32) (w : hy_W) : Option hy_N := some (.inl (43, [.ref v0, .int v1, .int v2, .int 0], w))
noncomputable def sg_M_findPattern_43 (v0 : Nat) (v1 : Int32) (v2 : Int32) (s0 : Int32) (w : hy_W) : Option hy_N := some (.inl (47, [.ref v0, .int v1, .int v2, .int s0, .int 0], w))
noncomputable def sg_M_findPattern_47 (v0 : Nat) (v1 : Int32) (v2 : Int32) (v3 : Int32) (v4 : Int32) (w : hy_W) : Option hy_N := (hy_gi w v0 6 11).bind fun x1 => if x1 ≤ v4 then (some (.inl (94, [.ref v0, .int v1, .int v2, .int v3], w))) else (if v3 = 0 then (some (.inl (94, [.ref v0, .int v1, .int v2, .int v3], w))) else ((hy_gr w v0 6 17).bind fun r4 => (hy_ai w r4 ((16 * v2) + v4)).bind fun x5 => (hy_gr w v0 6 12).bind fun r6 => (hy_ai w r6 v4).bind fun x7 => if x5 = x7 then (some (.inl (87, [.ref v0, .int v1, .int v2, .int v4, .int 1], w))) else (some (.inl (87, [.ref v0, .int v1, .int v2, .int v4, .int 0], w)))))
noncomputable def sg_M_findPattern_87 (v0 : Nat) (v1 : Int32) (v2 : Int32) (v4 : Int32) (s0 : Int32) (w : hy_W) : Option hy_N := some (.inl (47, [.ref v0, .int v1, .int v2, .int s0, .int (v4 + 1)], w))
noncomputable def sg_M_findPattern_94 (v0 : Nat) (v1 : Int32) (v2 : Int32) (v3 : Int32) (w : hy_W) : Option hy_N := if v3 = 0 then (some (.inl (103, [.ref v0, .int v2, .int v1], w))) else (some (.inl (103, [.ref v0, .int v2, .int v2], w)))
noncomputable def sg_M_findPattern_103 (v0 : Nat) (v2 : Int32) (s0 : Int32) (w : hy_W) : Option hy_N := some (.inl (4, [.ref v0, .int s0, .int (v2 + 1)], w))
noncomputable def nx_M_findPattern (q : hy_P) : Option hy_N := match q with
  | (0, [.ref v0], w) => sg_M_findPattern_0 v0 w
  | (4, [.ref v0, .int v1, .int v2], w) => sg_M_findPattern_4 v0 v1 v2 w
  | (42, [.ref v0, .int v1, .int v2], w) => sg_M_findPattern_42 v0 v1 v2 w
  | (43, [.ref v0, .int v1, .int v2, .int s0], w) => sg_M_findPattern_43 v0 v1 v2 s0 w
  | (47, [.ref v0, .int v1, .int v2, .int v3, .int v4], w) => sg_M_findPattern_47 v0 v1 v2 v3 v4 w
  | (87, [.ref v0, .int v1, .int v2, .int v4, .int s0], w) => sg_M_findPattern_87 v0 v1 v2 v4 s0 w
  | (94, [.ref v0, .int v1, .int v2, .int v3], w) => sg_M_findPattern_94 v0 v1 v2 v3 w
  | (103, [.ref v0, .int v2, .int s0], w) => sg_M_findPattern_103 v0 v2 s0 w
  | _ => none
noncomputable def f_M_findPattern (av : List Value) (w : hy_W) : Option hy_O := hy_fx nx_M_findPattern (0, av, w)
set_option maxHeartbeats 4000000 in
set_option maxRecDepth 100000 in
theorem sk_M_findPattern_0 {p : Program} {l : Launch} {e : Env} {s : State} {m : MethodId} {args : Array Value} {below : List Frame} {meth : Method} {c : Code} {G : hy_G} {A : Nat → Prop} {ad0 : Nat → Nat} {w0 : hy_W} {o : hy_O} (hl9 : l.flags = flags0) (hA : hy_A G ad0 w0 s.heap.size = A) (B : hy_B p l e (hy_rm 0 0 w0) s m args below meth c "HyphenPatternsModel" b_M_findPattern 5 (some .int) [] G A) (v0 : Nat) (w : hy_W) (nx : hy_N) (h : sg_M_findPattern_0 v0 w = some nx) (K : hy_Nx lay_M_findPattern p l e (hy_rm 0 0 w0) s m args below meth c 5 G A ad0 w0.1.length (hy_Q below G ad0 w0 o args s) o nx) : hy_At lay_M_findPattern p l e (hy_rm 0 0 w0) s m args below meth c 5 G A ad0 w0.1.length (hy_Q below G ad0 w0 o args s) (0, [.ref v0], w) := by
  intro ad H locs cells slots ls S hok hl
  have hx := B.1
  have hb := B.2.1
  dsimp only at S hok
  have hl : lv_has ls 5 [(0, .ref (ad v0))] := hl
  show W p l e (hy_rm 0 0 w0) s m args below meth c H locs cells slots (hy_Q below G ad0 w0 o args s) (F0 m 0 ls [])
  have hv_v0 : v0 < w.1.length := hok (.ref v0) (List.mem_of_getElem? (i := 0) rfl) v0 rfl
  obtain ⟨a_v0, ha_v0⟩ : ∃ a, ad v0 = a := ⟨_, rfl⟩
  rw [ha_v0] at hl
  unfold sg_M_findPattern_0 at h
  refine lv_iconst (v := (-1)) hx hb d_M_findPattern_0 (by decide) ?_
  refine lv_istore_n (lv' := [(1, .int (-1)), (0, .ref a_v0)]) hx hb d_M_findPattern_1 rfl hl (Nat.le_of_ble_eq_true rfl) rfl (fun ls hl => ?_)
  refine lv_iconst (v := 0) hx hb d_M_findPattern_2 (by decide) ?_
  refine lv_istore_n (lv' := [(2, .int 0), (1, .int (-1)), (0, .ref a_v0)]) hx hb d_M_findPattern_3 rfl hl (Nat.le_of_ble_eq_true rfl) rfl (fun ls hl => ?_)
  cases h
  exact hy_jump K S (hy_okr (by omega) (hy_oki (hy_oki hy_ok0))) (lv_sub hl [2, 1, 0] rfl) (by subst ha_v0; rfl) (by subst ha_v0; rfl)
set_option maxHeartbeats 4000000 in
set_option maxRecDepth 100000 in
theorem sk_M_findPattern_4 {p : Program} {l : Launch} {e : Env} {s : State} {m : MethodId} {args : Array Value} {below : List Frame} {meth : Method} {c : Code} {G : hy_G} {A : Nat → Prop} {ad0 : Nat → Nat} {w0 : hy_W} {o : hy_O} (hl9 : l.flags = flags0) (hA : hy_A G ad0 w0 s.heap.size = A) (B : hy_B p l e (hy_rm 0 0 w0) s m args below meth c "HyphenPatternsModel" b_M_findPattern 5 (some .int) [] G A) (v0 : Nat) (v1 : Int32) (v2 : Int32) (w : hy_W) (nx : hy_N) (h : sg_M_findPattern_4 v0 v1 v2 w = some nx) (K : hy_Nx lay_M_findPattern p l e (hy_rm 0 0 w0) s m args below meth c 5 G A ad0 w0.1.length (hy_Q below G ad0 w0 o args s) o nx) : hy_At lay_M_findPattern p l e (hy_rm 0 0 w0) s m args below meth c 5 G A ad0 w0.1.length (hy_Q below G ad0 w0 o args s) (4, [.ref v0, .int v1, .int v2], w) := by
  intro ad H locs cells slots ls S hok hl
  have hx := B.1
  have hb := B.2.1
  dsimp only at S hok
  have hl : lv_has ls 5 [(0, .ref (ad v0)), (1, .int v1), (2, .int v2)] := hl
  show W p l e (hy_rm 0 0 w0) s m args below meth c H locs cells slots (hy_Q below G ad0 w0 o args s) (F0 m 4 ls [])
  have hv_v0 : v0 < w.1.length := hok (.ref v0) (List.mem_of_getElem? (i := 0) rfl) v0 rfl
  obtain ⟨a_v0, ha_v0⟩ : ∃ a, ad v0 = a := ⟨_, rfl⟩
  rw [ha_v0] at hl
  unfold sg_M_findPattern_4 at h
  refine lv_iload_n hx hb d_M_findPattern_4 rfl (lv_at hl 2 rfl) ?_
  refine lv_aload_n hx hb d_M_findPattern_5 rfl (lv_at hl 0 rfl) ?_
  obtain ⟨x1, hx1, h⟩ := hy_bd h
  refine hy_geti B S ha_v0 hx1 rfl (Nat.le_of_ble_eq_true rfl) i_6 (j := 14) tw_664 (fun _ h => h) d_M_findPattern_6 ?_
  refine lv_icmp_ge (tgt := 110) hx hb d_M_findPattern_9 (by decide) (fun c2 => ?_) (fun c2 => ?_)
  · rw [if_pos c2] at h
    refine lv_iload_n hx hb d_M_findPattern_110 rfl (lv_at hl 1 rfl) ?_
    cases h
    cases K
    exact hy_iret hA B S d_M_findPattern_111
  · rw [if_neg c2] at h
    refine lv_aload_n hx hb d_M_findPattern_12 rfl (lv_at hl 0 rfl) ?_
    obtain ⟨r3, hr3, h⟩ := hy_bd h
    refine hy_getr B S ha_v0 hr3 rfl (Nat.le_of_ble_eq_true rfl) i_6 (j := 15) tw_665 (fun _ h => h) d_M_findPattern_13 (fun a_r3 ha_r3 hv_r3 => ?_)
    refine lv_iload_n hx hb d_M_findPattern_16 rfl (lv_at hl 2 rfl) ?_
    obtain ⟨x4, hx4, h⟩ := hy_bd h
    refine hy_iald B S ha_r3 hx4 d_M_findPattern_17 ?_
    refine lv_aload_n hx hb d_M_findPattern_18 rfl (lv_at hl 0 rfl) ?_
    obtain ⟨x5, hx5, h⟩ := hy_bd h
    refine hy_geti B S ha_v0 hx5 rfl (Nat.le_of_ble_eq_true rfl) i_6 (j := 1) tw_651 (fun _ h => h) d_M_findPattern_19 ?_
    refine lv_icmp_ne (tgt := 42) hx hb d_M_findPattern_22 (by decide) (fun c6 => ?_) (fun c6 => ?_)
    · rw [if_neg c6] at h
      cases h
      exact hy_jump K S (hy_okr (by omega) (hy_oki (hy_oki hy_ok0))) (lv_sub hl [0, 1, 2] rfl) (by subst ha_v0; rfl) (by subst ha_v0; rfl)
    · rw [if_pos c6] at h
      refine lv_aload_n hx hb d_M_findPattern_25 rfl (lv_at hl 0 rfl) ?_
      obtain ⟨r7, hr7, h⟩ := hy_bd h
      refine hy_getr B S ha_v0 hr7 rfl (Nat.le_of_ble_eq_true rfl) i_6 (j := 16) tw_666 (fun _ h => h) d_M_findPattern_26 (fun a_r7 ha_r7 hv_r7 => ?_)
      refine lv_iload_n hx hb d_M_findPattern_29 rfl (lv_at hl 2 rfl) ?_
      obtain ⟨x8, hx8, h⟩ := hy_bd h
      refine hy_iald B S ha_r7 hx8 d_M_findPattern_30 ?_
      refine lv_aload_n hx hb d_M_findPattern_31 rfl (lv_at hl 0 rfl) ?_
      obtain ⟨x9, hx9, h⟩ := hy_bd h
      refine hy_geti B S ha_v0 hx9 rfl (Nat.le_of_ble_eq_true rfl) i_6 (j := 11) tw_661 (fun _ h => h) d_M_findPattern_32 ?_
      refine lv_icmp_ne (tgt := 42) hx hb d_M_findPattern_35 (by decide) (fun c10 => ?_) (fun c10 => ?_)
      · rw [if_neg c10] at h
        cases h
        exact hy_jump K S (hy_okr (by omega) (hy_oki (hy_oki hy_ok0))) (lv_sub hl [0, 1, 2] rfl) (by subst ha_v0; rfl) (by subst ha_v0; rfl)
      · rw [if_pos c10] at h
        refine lv_iconst (v := 1) hx hb d_M_findPattern_38 (by decide) ?_
        refine lv_goto (tgt := 43) hx hb d_M_findPattern_39 (by decide) ?_
        cases h
        exact hy_jump K S (hy_okr (by omega) (hy_oki (hy_oki (hy_oki hy_ok0)))) (lv_sub hl [0, 1, 2] rfl) (by subst ha_v0; rfl) (by subst ha_v0; rfl)
set_option maxHeartbeats 4000000 in
set_option maxRecDepth 100000 in
theorem sk_M_findPattern_42 {p : Program} {l : Launch} {e : Env} {s : State} {m : MethodId} {args : Array Value} {below : List Frame} {meth : Method} {c : Code} {G : hy_G} {A : Nat → Prop} {ad0 : Nat → Nat} {w0 : hy_W} {o : hy_O} (hl9 : l.flags = flags0) (hA : hy_A G ad0 w0 s.heap.size = A) (B : hy_B p l e (hy_rm 0 0 w0) s m args below meth c "HyphenPatternsModel" b_M_findPattern 5 (some .int) [] G A) (v0 : Nat) (v1 : Int32) (v2 : Int32) (w : hy_W) (nx : hy_N) (h : sg_M_findPattern_42 v0 v1 v2 w = some nx) (K : hy_Nx lay_M_findPattern p l e (hy_rm 0 0 w0) s m args below meth c 5 G A ad0 w0.1.length (hy_Q below G ad0 w0 o args s) o nx) : hy_At lay_M_findPattern p l e (hy_rm 0 0 w0) s m args below meth c 5 G A ad0 w0.1.length (hy_Q below G ad0 w0 o args s) (42, [.ref v0, .int v1, .int v2], w) := by
  intro ad H locs cells slots ls S hok hl
  have hx := B.1
  have hb := B.2.1
  dsimp only at S hok
  have hl : lv_has ls 5 [(0, .ref (ad v0)), (1, .int v1), (2, .int v2)] := hl
  show W p l e (hy_rm 0 0 w0) s m args below meth c H locs cells slots (hy_Q below G ad0 w0 o args s) (F0 m 42 ls [])
  have hv_v0 : v0 < w.1.length := hok (.ref v0) (List.mem_of_getElem? (i := 0) rfl) v0 rfl
  obtain ⟨a_v0, ha_v0⟩ : ∃ a, ad v0 = a := ⟨_, rfl⟩
  rw [ha_v0] at hl
  unfold sg_M_findPattern_42 at h
  refine lv_iconst (v := 0) hx hb d_M_findPattern_42 (by decide) ?_
  cases h
  exact hy_jump K S (hy_okr (by omega) (hy_oki (hy_oki (hy_oki hy_ok0)))) (lv_sub hl [0, 1, 2] rfl) (by subst ha_v0; rfl) (by subst ha_v0; rfl)
set_option maxHeartbeats 4000000 in
set_option maxRecDepth 100000 in
theorem sk_M_findPattern_43 {p : Program} {l : Launch} {e : Env} {s : State} {m : MethodId} {args : Array Value} {below : List Frame} {meth : Method} {c : Code} {G : hy_G} {A : Nat → Prop} {ad0 : Nat → Nat} {w0 : hy_W} {o : hy_O} (hl9 : l.flags = flags0) (hA : hy_A G ad0 w0 s.heap.size = A) (B : hy_B p l e (hy_rm 0 0 w0) s m args below meth c "HyphenPatternsModel" b_M_findPattern 5 (some .int) [] G A) (v0 : Nat) (v1 : Int32) (v2 : Int32) (s0 : Int32) (w : hy_W) (nx : hy_N) (h : sg_M_findPattern_43 v0 v1 v2 s0 w = some nx) (K : hy_Nx lay_M_findPattern p l e (hy_rm 0 0 w0) s m args below meth c 5 G A ad0 w0.1.length (hy_Q below G ad0 w0 o args s) o nx) : hy_At lay_M_findPattern p l e (hy_rm 0 0 w0) s m args below meth c 5 G A ad0 w0.1.length (hy_Q below G ad0 w0 o args s) (43, [.ref v0, .int v1, .int v2, .int s0], w) := by
  intro ad H locs cells slots ls S hok hl
  have hx := B.1
  have hb := B.2.1
  dsimp only at S hok
  have hl : lv_has ls 5 [(0, .ref (ad v0)), (1, .int v1), (2, .int v2)] := hl
  show W p l e (hy_rm 0 0 w0) s m args below meth c H locs cells slots (hy_Q below G ad0 w0 o args s) (F0 m 43 ls [.int s0])
  have hv_v0 : v0 < w.1.length := hok (.ref v0) (List.mem_of_getElem? (i := 0) rfl) v0 rfl
  obtain ⟨a_v0, ha_v0⟩ : ∃ a, ad v0 = a := ⟨_, rfl⟩
  rw [ha_v0] at hl
  unfold sg_M_findPattern_43 at h
  refine lv_istore_n (lv' := [(3, .int s0), (0, .ref a_v0), (1, .int v1), (2, .int v2)]) hx hb d_M_findPattern_43 rfl hl (Nat.le_of_ble_eq_true rfl) rfl (fun ls hl => ?_)
  refine lv_iconst (v := 0) hx hb d_M_findPattern_44 (by decide) ?_
  refine lv_istore (lv' := [(4, .int 0), (3, .int s0), (0, .ref a_v0), (1, .int v1), (2, .int v2)]) hx hb d_M_findPattern_45 hl (Nat.le_of_ble_eq_true rfl) rfl (fun ls hl => ?_)
  cases h
  exact hy_jump K S (hy_okr (by omega) (hy_oki (hy_oki (hy_oki (hy_oki hy_ok0))))) (lv_sub hl [2, 3, 4, 1, 0] rfl) (by subst ha_v0; rfl) (by subst ha_v0; rfl)
set_option maxHeartbeats 4000000 in
set_option maxRecDepth 100000 in
theorem sk_M_findPattern_47 {p : Program} {l : Launch} {e : Env} {s : State} {m : MethodId} {args : Array Value} {below : List Frame} {meth : Method} {c : Code} {G : hy_G} {A : Nat → Prop} {ad0 : Nat → Nat} {w0 : hy_W} {o : hy_O} (hl9 : l.flags = flags0) (hA : hy_A G ad0 w0 s.heap.size = A) (B : hy_B p l e (hy_rm 0 0 w0) s m args below meth c "HyphenPatternsModel" b_M_findPattern 5 (some .int) [] G A) (v0 : Nat) (v1 : Int32) (v2 : Int32) (v3 : Int32) (v4 : Int32) (w : hy_W) (nx : hy_N) (h : sg_M_findPattern_47 v0 v1 v2 v3 v4 w = some nx) (K : hy_Nx lay_M_findPattern p l e (hy_rm 0 0 w0) s m args below meth c 5 G A ad0 w0.1.length (hy_Q below G ad0 w0 o args s) o nx) : hy_At lay_M_findPattern p l e (hy_rm 0 0 w0) s m args below meth c 5 G A ad0 w0.1.length (hy_Q below G ad0 w0 o args s) (47, [.ref v0, .int v1, .int v2, .int v3, .int v4], w) := by
  intro ad H locs cells slots ls S hok hl
  have hx := B.1
  have hb := B.2.1
  dsimp only at S hok
  have hl : lv_has ls 5 [(0, .ref (ad v0)), (1, .int v1), (2, .int v2), (3, .int v3), (4, .int v4)] := hl
  show W p l e (hy_rm 0 0 w0) s m args below meth c H locs cells slots (hy_Q below G ad0 w0 o args s) (F0 m 47 ls [])
  have hv_v0 : v0 < w.1.length := hok (.ref v0) (List.mem_of_getElem? (i := 0) rfl) v0 rfl
  obtain ⟨a_v0, ha_v0⟩ : ∃ a, ad v0 = a := ⟨_, rfl⟩
  rw [ha_v0] at hl
  unfold sg_M_findPattern_47 at h
  refine lv_iload hx hb d_M_findPattern_47 (lv_at hl 4 rfl) ?_
  refine lv_aload_n hx hb d_M_findPattern_49 rfl (lv_at hl 0 rfl) ?_
  obtain ⟨x1, hx1, h⟩ := hy_bd h
  refine hy_geti B S ha_v0 hx1 rfl (Nat.le_of_ble_eq_true rfl) i_6 (j := 11) tw_661 (fun _ h => h) d_M_findPattern_50 ?_
  refine lv_icmp_ge (tgt := 94) hx hb d_M_findPattern_53 (by decide) (fun c2 => ?_) (fun c2 => ?_)
  · rw [if_pos c2] at h
    cases h
    exact hy_jump K S (hy_okr (by omega) (hy_oki (hy_oki (hy_oki hy_ok0)))) (lv_sub hl [0, 1, 2, 3] rfl) (by subst ha_v0; rfl) (by subst ha_v0; rfl)
  · rw [if_neg c2] at h
    refine lv_iload_n hx hb d_M_findPattern_56 rfl (lv_at hl 3 rfl) ?_
    refine lv_if_eq (tgt := 94) hx hb d_M_findPattern_57 (by decide) (fun c3 => ?_) (fun c3 => ?_)
    · rw [if_pos c3] at h
      cases h
      exact hy_jump K S (hy_okr (by omega) (hy_oki (hy_oki (hy_oki hy_ok0)))) (lv_sub hl [0, 1, 2, 3] rfl) (by subst ha_v0; rfl) (by subst ha_v0; rfl)
    · rw [if_neg c3] at h
      refine lv_aload_n hx hb d_M_findPattern_60 rfl (lv_at hl 0 rfl) ?_
      obtain ⟨r4, hr4, h⟩ := hy_bd h
      refine hy_getr B S ha_v0 hr4 rfl (Nat.le_of_ble_eq_true rfl) i_6 (j := 17) tw_667 (fun _ h => h) d_M_findPattern_61 (fun a_r4 ha_r4 hv_r4 => ?_)
      refine lv_bipush (v := 16) hx hb d_M_findPattern_64 (by decide) ?_
      refine lv_iload_n hx hb d_M_findPattern_66 rfl (lv_at hl 2 rfl) ?_
      refine lv_imul hx hb d_M_findPattern_67 ?_
      refine lv_iload hx hb d_M_findPattern_68 (lv_at hl 4 rfl) ?_
      refine lv_iadd hx hb d_M_findPattern_70 ?_
      obtain ⟨x5, hx5, h⟩ := hy_bd h
      refine hy_iald B S ha_r4 hx5 d_M_findPattern_71 ?_
      refine lv_aload_n hx hb d_M_findPattern_72 rfl (lv_at hl 0 rfl) ?_
      obtain ⟨r6, hr6, h⟩ := hy_bd h
      refine hy_getr B S ha_v0 hr6 rfl (Nat.le_of_ble_eq_true rfl) i_6 (j := 12) tw_662 (fun _ h => h) d_M_findPattern_73 (fun a_r6 ha_r6 hv_r6 => ?_)
      refine lv_iload hx hb d_M_findPattern_76 (lv_at hl 4 rfl) ?_
      obtain ⟨x7, hx7, h⟩ := hy_bd h
      refine hy_iald B S ha_r6 hx7 d_M_findPattern_78 ?_
      refine lv_icmp_ne (tgt := 86) hx hb d_M_findPattern_79 (by decide) (fun c8 => ?_) (fun c8 => ?_)
      · rw [if_neg c8] at h
        refine lv_iconst (v := 0) hx hb d_M_findPattern_86 (by decide) ?_
        cases h
        exact hy_jump K S (hy_okr (by omega) (hy_oki (hy_oki (hy_oki (hy_oki hy_ok0))))) (lv_sub hl [0, 1, 2, 4] rfl) (by subst ha_v0; rfl) (by subst ha_v0; rfl)
      · rw [if_pos c8] at h
        refine lv_iconst (v := 1) hx hb d_M_findPattern_82 (by decide) ?_
        refine lv_goto (tgt := 87) hx hb d_M_findPattern_83 (by decide) ?_
        cases h
        exact hy_jump K S (hy_okr (by omega) (hy_oki (hy_oki (hy_oki (hy_oki hy_ok0))))) (lv_sub hl [0, 1, 2, 4] rfl) (by subst ha_v0; rfl) (by subst ha_v0; rfl)
set_option maxHeartbeats 4000000 in
set_option maxRecDepth 100000 in
theorem sk_M_findPattern_87 {p : Program} {l : Launch} {e : Env} {s : State} {m : MethodId} {args : Array Value} {below : List Frame} {meth : Method} {c : Code} {G : hy_G} {A : Nat → Prop} {ad0 : Nat → Nat} {w0 : hy_W} {o : hy_O} (hl9 : l.flags = flags0) (hA : hy_A G ad0 w0 s.heap.size = A) (B : hy_B p l e (hy_rm 0 0 w0) s m args below meth c "HyphenPatternsModel" b_M_findPattern 5 (some .int) [] G A) (v0 : Nat) (v1 : Int32) (v2 : Int32) (v4 : Int32) (s0 : Int32) (w : hy_W) (nx : hy_N) (h : sg_M_findPattern_87 v0 v1 v2 v4 s0 w = some nx) (K : hy_Nx lay_M_findPattern p l e (hy_rm 0 0 w0) s m args below meth c 5 G A ad0 w0.1.length (hy_Q below G ad0 w0 o args s) o nx) : hy_At lay_M_findPattern p l e (hy_rm 0 0 w0) s m args below meth c 5 G A ad0 w0.1.length (hy_Q below G ad0 w0 o args s) (87, [.ref v0, .int v1, .int v2, .int v4, .int s0], w) := by
  intro ad H locs cells slots ls S hok hl
  have hx := B.1
  have hb := B.2.1
  dsimp only at S hok
  have hl : lv_has ls 5 [(0, .ref (ad v0)), (1, .int v1), (2, .int v2), (4, .int v4)] := hl
  show W p l e (hy_rm 0 0 w0) s m args below meth c H locs cells slots (hy_Q below G ad0 w0 o args s) (F0 m 87 ls [.int s0])
  have hv_v0 : v0 < w.1.length := hok (.ref v0) (List.mem_of_getElem? (i := 0) rfl) v0 rfl
  obtain ⟨a_v0, ha_v0⟩ : ∃ a, ad v0 = a := ⟨_, rfl⟩
  rw [ha_v0] at hl
  unfold sg_M_findPattern_87 at h
  refine lv_istore_n (lv' := [(3, .int s0), (0, .ref a_v0), (1, .int v1), (2, .int v2), (4, .int v4)]) hx hb d_M_findPattern_87 rfl hl (Nat.le_of_ble_eq_true rfl) rfl (fun ls hl => ?_)
  refine lv_iinc (v := (v4 + 1)) (lv' := [(4, .int (v4 + 1)), (3, .int s0), (0, .ref a_v0), (1, .int v1), (2, .int v2)]) hx hb d_M_findPattern_88 hl (k := 4) rfl rfl (Nat.le_of_ble_eq_true rfl) rfl (fun ls hl => ?_)
  refine lv_goto (tgt := 47) hx hb d_M_findPattern_91 (by decide) ?_
  cases h
  exact hy_jump K S (hy_okr (by omega) (hy_oki (hy_oki (hy_oki (hy_oki hy_ok0))))) (lv_sub hl [2, 3, 4, 1, 0] rfl) (by subst ha_v0; rfl) (by subst ha_v0; rfl)
set_option maxHeartbeats 4000000 in
set_option maxRecDepth 100000 in
theorem sk_M_findPattern_94 {p : Program} {l : Launch} {e : Env} {s : State} {m : MethodId} {args : Array Value} {below : List Frame} {meth : Method} {c : Code} {G : hy_G} {A : Nat → Prop} {ad0 : Nat → Nat} {w0 : hy_W} {o : hy_O} (hl9 : l.flags = flags0) (hA : hy_A G ad0 w0 s.heap.size = A) (B : hy_B p l e (hy_rm 0 0 w0) s m args below meth c "HyphenPatternsModel" b_M_findPattern 5 (some .int) [] G A) (v0 : Nat) (v1 : Int32) (v2 : Int32) (v3 : Int32) (w : hy_W) (nx : hy_N) (h : sg_M_findPattern_94 v0 v1 v2 v3 w = some nx) (K : hy_Nx lay_M_findPattern p l e (hy_rm 0 0 w0) s m args below meth c 5 G A ad0 w0.1.length (hy_Q below G ad0 w0 o args s) o nx) : hy_At lay_M_findPattern p l e (hy_rm 0 0 w0) s m args below meth c 5 G A ad0 w0.1.length (hy_Q below G ad0 w0 o args s) (94, [.ref v0, .int v1, .int v2, .int v3], w) := by
  intro ad H locs cells slots ls S hok hl
  have hx := B.1
  have hb := B.2.1
  dsimp only at S hok
  have hl : lv_has ls 5 [(0, .ref (ad v0)), (1, .int v1), (2, .int v2), (3, .int v3)] := hl
  show W p l e (hy_rm 0 0 w0) s m args below meth c H locs cells slots (hy_Q below G ad0 w0 o args s) (F0 m 94 ls [])
  have hv_v0 : v0 < w.1.length := hok (.ref v0) (List.mem_of_getElem? (i := 0) rfl) v0 rfl
  obtain ⟨a_v0, ha_v0⟩ : ∃ a, ad v0 = a := ⟨_, rfl⟩
  rw [ha_v0] at hl
  unfold sg_M_findPattern_94 at h
  refine lv_iload_n hx hb d_M_findPattern_94 rfl (lv_at hl 3 rfl) ?_
  refine lv_if_eq (tgt := 102) hx hb d_M_findPattern_95 (by decide) (fun c1 => ?_) (fun c1 => ?_)
  · rw [if_pos c1] at h
    refine lv_iload_n hx hb d_M_findPattern_102 rfl (lv_at hl 1 rfl) ?_
    cases h
    exact hy_jump K S (hy_okr (by omega) (hy_oki (hy_oki hy_ok0))) (lv_sub hl [0, 2] rfl) (by subst ha_v0; rfl) (by subst ha_v0; rfl)
  · rw [if_neg c1] at h
    refine lv_iload_n hx hb d_M_findPattern_98 rfl (lv_at hl 2 rfl) ?_
    refine lv_goto (tgt := 103) hx hb d_M_findPattern_99 (by decide) ?_
    cases h
    exact hy_jump K S (hy_okr (by omega) (hy_oki (hy_oki hy_ok0))) (lv_sub hl [0, 2] rfl) (by subst ha_v0; rfl) (by subst ha_v0; rfl)
set_option maxHeartbeats 4000000 in
set_option maxRecDepth 100000 in
theorem sk_M_findPattern_103 {p : Program} {l : Launch} {e : Env} {s : State} {m : MethodId} {args : Array Value} {below : List Frame} {meth : Method} {c : Code} {G : hy_G} {A : Nat → Prop} {ad0 : Nat → Nat} {w0 : hy_W} {o : hy_O} (hl9 : l.flags = flags0) (hA : hy_A G ad0 w0 s.heap.size = A) (B : hy_B p l e (hy_rm 0 0 w0) s m args below meth c "HyphenPatternsModel" b_M_findPattern 5 (some .int) [] G A) (v0 : Nat) (v2 : Int32) (s0 : Int32) (w : hy_W) (nx : hy_N) (h : sg_M_findPattern_103 v0 v2 s0 w = some nx) (K : hy_Nx lay_M_findPattern p l e (hy_rm 0 0 w0) s m args below meth c 5 G A ad0 w0.1.length (hy_Q below G ad0 w0 o args s) o nx) : hy_At lay_M_findPattern p l e (hy_rm 0 0 w0) s m args below meth c 5 G A ad0 w0.1.length (hy_Q below G ad0 w0 o args s) (103, [.ref v0, .int v2, .int s0], w) := by
  intro ad H locs cells slots ls S hok hl
  have hx := B.1
  have hb := B.2.1
  dsimp only at S hok
  have hl : lv_has ls 5 [(0, .ref (ad v0)), (2, .int v2)] := hl
  show W p l e (hy_rm 0 0 w0) s m args below meth c H locs cells slots (hy_Q below G ad0 w0 o args s) (F0 m 103 ls [.int s0])
  have hv_v0 : v0 < w.1.length := hok (.ref v0) (List.mem_of_getElem? (i := 0) rfl) v0 rfl
  obtain ⟨a_v0, ha_v0⟩ : ∃ a, ad v0 = a := ⟨_, rfl⟩
  rw [ha_v0] at hl
  unfold sg_M_findPattern_103 at h
  refine lv_istore_n (lv' := [(1, .int s0), (0, .ref a_v0), (2, .int v2)]) hx hb d_M_findPattern_103 rfl hl (Nat.le_of_ble_eq_true rfl) rfl (fun ls hl => ?_)
  refine lv_iinc (v := (v2 + 1)) (lv' := [(2, .int (v2 + 1)), (1, .int s0), (0, .ref a_v0)]) hx hb d_M_findPattern_104 hl (k := 2) rfl rfl (Nat.le_of_ble_eq_true rfl) rfl (fun ls hl => ?_)
  refine lv_goto (tgt := 4) hx hb d_M_findPattern_107 (by decide) ?_
  cases h
  exact hy_jump K S (hy_okr (by omega) (hy_oki (hy_oki hy_ok0))) (lv_sub hl [2, 1, 0] rfl) (by subst ha_v0; rfl) (by subst ha_v0; rfl)
theorem nk_M_findPattern {p : Program} {l : Launch} {e : Env} {s : State} {m : MethodId} {args : Array Value} {below : List Frame} {meth : Method} {c : Code} {G : hy_G} {A : Nat → Prop} {ad0 : Nat → Nat} {w0 : hy_W} {o : hy_O} (hl9 : l.flags = flags0) (hA : hy_A G ad0 w0 s.heap.size = A) (B : hy_B p l e (hy_rm 0 0 w0) s m args below meth c "HyphenPatternsModel" b_M_findPattern 5 (some .int) [] G A) (q : hy_P) (nx : hy_N) (hq : nx_M_findPattern q = some nx) (K : hy_Nx lay_M_findPattern p l e (hy_rm 0 0 w0) s m args below meth c 5 G A ad0 w0.1.length (hy_Q below G ad0 w0 o args s) o nx) : hy_At lay_M_findPattern p l e (hy_rm 0 0 w0) s m args below meth c 5 G A ad0 w0.1.length (hy_Q below G ad0 w0 o args s) q := by
  unfold nx_M_findPattern at hq
  split at hq
  · exact sk_M_findPattern_0 hl9 hA B _ _ nx hq K
  · exact sk_M_findPattern_4 hl9 hA B _ _ _ _ nx hq K
  · exact sk_M_findPattern_42 hl9 hA B _ _ _ _ nx hq K
  · exact sk_M_findPattern_43 hl9 hA B _ _ _ _ _ nx hq K
  · exact sk_M_findPattern_47 hl9 hA B _ _ _ _ _ _ nx hq K
  · exact sk_M_findPattern_87 hl9 hA B _ _ _ _ _ _ nx hq K
  · exact sk_M_findPattern_94 hl9 hA B _ _ _ _ _ nx hq K
  · exact sk_M_findPattern_103 hl9 hA B _ _ _ _ nx hq K
  · cases hq
theorem c_M_findPattern {l : Launch} (hl9 : l.flags = flags0) (G : hy_G) (ad : Nat → Nat) {v0 : Nat} {w : hy_W} {o : hy_O} (h : f_M_findPattern [.ref v0] w = some o) : hy_M l y_M_findPattern (Cond.code y_M_findPattern b_M_findPattern 5 (some .int) :: hy_T) 0 0 G ad [.ref v0] w o := by
  obtain ⟨n, hn⟩ := hy_fx_iff.mp h
  refine hy_ofW hl9 (by decide +kernel) (Nat.le_of_ble_eq_true rfl) (fun p e s m args below meth c A hA hi B S hok ls hl => ?_)
  exact hy_loop (nk_M_findPattern hl9 hA B) n _ hn ad s.heap [] 0 0 ls S hok hl
theorem d_M_pattern_0 : decode b_M_pattern 0 = .ok (.aload_n 0, 1) := by decide +kernel
theorem d_M_pattern_1 : decode b_M_pattern 1 = .ok (.invokevirtual 109, 3) := by decide +kernel
theorem d_M_pattern_4 : decode b_M_pattern 4 = .ok (.istore_n 1, 1) := by decide +kernel
theorem d_M_pattern_5 : decode b_M_pattern 5 = .ok (.iload_n 1, 1) := by decide +kernel
theorem d_M_pattern_6 : decode b_M_pattern 6 = .ok (.ifCond .eq 10, 3) := by decide +kernel
theorem d_M_pattern_9 : decode b_M_pattern 9 = .ok (.aload_n 0, 1) := by decide +kernel
theorem d_M_pattern_10 : decode b_M_pattern 10 = .ok (.invokevirtual 112, 3) := by decide +kernel
theorem d_M_pattern_13 : decode b_M_pattern 13 = .ok (.goto 4, 3) := by decide +kernel
theorem d_M_pattern_16 : decode b_M_pattern 16 = .ok (.iconst (-1), 1) := by decide +kernel
theorem d_M_pattern_17 : decode b_M_pattern 17 = .ok (.istore_n 2, 1) := by decide +kernel
theorem d_M_pattern_18 : decode b_M_pattern 18 = .ok (.aload_n 0, 1) := by decide +kernel
theorem d_M_pattern_19 : decode b_M_pattern 19 = .ok (.iload_n 1, 1) := by decide +kernel
theorem d_M_pattern_20 : decode b_M_pattern 20 = .ok (.ifCond .ne 7, 3) := by decide +kernel
theorem d_M_pattern_23 : decode b_M_pattern 23 = .ok (.iconst 1, 1) := by decide +kernel
theorem d_M_pattern_24 : decode b_M_pattern 24 = .ok (.goto 22, 3) := by decide +kernel
theorem d_M_pattern_27 : decode b_M_pattern 27 = .ok (.iload_n 2, 1) := by decide +kernel
theorem d_M_pattern_28 : decode b_M_pattern 28 = .ok (.ifCond .ge 17, 3) := by decide +kernel
theorem d_M_pattern_31 : decode b_M_pattern 31 = .ok (.aload_n 0, 1) := by decide +kernel
theorem d_M_pattern_32 : decode b_M_pattern 32 = .ok (.getfield 106, 3) := by decide +kernel
theorem d_M_pattern_35 : decode b_M_pattern 35 = .ok (.sipush 300, 3) := by decide +kernel
theorem d_M_pattern_38 : decode b_M_pattern 38 = .ok (.if_icmp .ne 7, 3) := by decide +kernel
theorem d_M_pattern_41 : decode b_M_pattern 41 = .ok (.iconst 2, 1) := by decide +kernel
theorem d_M_pattern_42 : decode b_M_pattern 42 = .ok (.goto 4, 3) := by decide +kernel
theorem d_M_pattern_45 : decode b_M_pattern 45 = .ok (.iconst 0, 1) := by decide +kernel
theorem d_M_pattern_46 : decode b_M_pattern 46 = .ok (.invokevirtual 72, 3) := by decide +kernel
theorem d_M_pattern_49 : decode b_M_pattern 49 = .ok (.ifCond .eq 5, 3) := by decide +kernel
theorem d_M_pattern_52 : decode b_M_pattern 52 = .ok (.iconst 0, 1) := by decide +kernel
theorem d_M_pattern_53 : decode b_M_pattern 53 = .ok (.ireturn, 1) := by decide +kernel
theorem d_M_pattern_54 : decode b_M_pattern 54 = .ok (.iload_n 2, 1) := by decide +kernel
theorem d_M_pattern_55 : decode b_M_pattern 55 = .ok (.ifCond .ge 18, 3) := by decide +kernel
theorem d_M_pattern_58 : decode b_M_pattern 58 = .ok (.aload_n 0, 1) := by decide +kernel
theorem d_M_pattern_59 : decode b_M_pattern 59 = .ok (.getfield 106, 3) := by decide +kernel
theorem d_M_pattern_62 : decode b_M_pattern 62 = .ok (.istore_n 2, 1) := by decide +kernel
theorem d_M_pattern_63 : decode b_M_pattern 63 = .ok (.aload_n 0, 1) := by decide +kernel
theorem d_M_pattern_64 : decode b_M_pattern 64 = .ok (.dup, 1) := by decide +kernel
theorem d_M_pattern_65 : decode b_M_pattern 65 = .ok (.getfield 106, 3) := by decide +kernel
theorem d_M_pattern_68 : decode b_M_pattern 68 = .ok (.iconst 1, 1) := by decide +kernel
theorem d_M_pattern_69 : decode b_M_pattern 69 = .ok (.iadd, 1) := by decide +kernel
theorem d_M_pattern_70 : decode b_M_pattern 70 = .ok (.putfield 106, 3) := by decide +kernel
theorem d_M_pattern_73 : decode b_M_pattern 73 = .ok (.aload_n 0, 1) := by decide +kernel
theorem d_M_pattern_74 : decode b_M_pattern 74 = .ok (.getfield 40, 3) := by decide +kernel
theorem d_M_pattern_77 : decode b_M_pattern 77 = .ok (.iload_n 2, 1) := by decide +kernel
theorem d_M_pattern_78 : decode b_M_pattern 78 = .ok (.aload_n 0, 1) := by decide +kernel
theorem d_M_pattern_79 : decode b_M_pattern 79 = .ok (.getfield 76, 3) := by decide +kernel
theorem d_M_pattern_82 : decode b_M_pattern 82 = .ok (.iastore, 1) := by decide +kernel
theorem d_M_pattern_83 : decode b_M_pattern 83 = .ok (.aload_n 0, 1) := by decide +kernel
theorem d_M_pattern_84 : decode b_M_pattern 84 = .ok (.getfield 43, 3) := by decide +kernel
theorem d_M_pattern_87 : decode b_M_pattern 87 = .ok (.iload_n 2, 1) := by decide +kernel
theorem d_M_pattern_88 : decode b_M_pattern 88 = .ok (.aload_n 0, 1) := by decide +kernel
theorem d_M_pattern_89 : decode b_M_pattern 89 = .ok (.getfield 99, 3) := by decide +kernel
theorem d_M_pattern_92 : decode b_M_pattern 92 = .ok (.iastore, 1) := by decide +kernel
theorem d_M_pattern_93 : decode b_M_pattern 93 = .ok (.iconst 0, 1) := by decide +kernel
theorem d_M_pattern_94 : decode b_M_pattern 94 = .ok (.istore_n 3, 1) := by decide +kernel
theorem d_M_pattern_95 : decode b_M_pattern 95 = .ok (.iload_n 3, 1) := by decide +kernel
theorem d_M_pattern_96 : decode b_M_pattern 96 = .ok (.aload_n 0, 1) := by decide +kernel
theorem d_M_pattern_97 : decode b_M_pattern 97 = .ok (.getfield 99, 3) := by decide +kernel
theorem d_M_pattern_100 : decode b_M_pattern 100 = .ok (.if_icmp .ge 26, 3) := by decide +kernel
theorem d_M_pattern_103 : decode b_M_pattern 103 = .ok (.aload_n 0, 1) := by decide +kernel
theorem d_M_pattern_104 : decode b_M_pattern 104 = .ok (.getfield 46, 3) := by decide +kernel
theorem d_M_pattern_107 : decode b_M_pattern 107 = .ok (.bipush 16, 2) := by decide +kernel
theorem d_M_pattern_109 : decode b_M_pattern 109 = .ok (.iload_n 2, 1) := by decide +kernel
theorem d_M_pattern_110 : decode b_M_pattern 110 = .ok (.imul, 1) := by decide +kernel
theorem d_M_pattern_111 : decode b_M_pattern 111 = .ok (.iload_n 3, 1) := by decide +kernel
theorem d_M_pattern_112 : decode b_M_pattern 112 = .ok (.iadd, 1) := by decide +kernel
theorem d_M_pattern_113 : decode b_M_pattern 113 = .ok (.aload_n 0, 1) := by decide +kernel
theorem d_M_pattern_114 : decode b_M_pattern 114 = .ok (.getfield 34, 3) := by decide +kernel
theorem d_M_pattern_117 : decode b_M_pattern 117 = .ok (.iload_n 3, 1) := by decide +kernel
theorem d_M_pattern_118 : decode b_M_pattern 118 = .ok (.iaload, 1) := by decide +kernel
theorem d_M_pattern_119 : decode b_M_pattern 119 = .ok (.iastore, 1) := by decide +kernel
theorem d_M_pattern_120 : decode b_M_pattern 120 = .ok (.iinc 3 1, 3) := by decide +kernel
theorem d_M_pattern_123 : decode b_M_pattern 123 = .ok (.goto (-28), 3) := by decide +kernel
theorem d_M_pattern_126 : decode b_M_pattern 126 = .ok (.iconst 0, 1) := by decide +kernel
theorem d_M_pattern_127 : decode b_M_pattern 127 = .ok (.istore_n 3, 1) := by decide +kernel
theorem d_M_pattern_128 : decode b_M_pattern 128 = .ok (.iload_n 3, 1) := by decide +kernel
theorem d_M_pattern_129 : decode b_M_pattern 129 = .ok (.aload_n 0, 1) := by decide +kernel
theorem d_M_pattern_130 : decode b_M_pattern 130 = .ok (.getfield 99, 3) := by decide +kernel
theorem d_M_pattern_133 : decode b_M_pattern 133 = .ok (.if_icmp .gt 26, 3) := by decide +kernel
theorem d_M_pattern_136 : decode b_M_pattern 136 = .ok (.aload_n 0, 1) := by decide +kernel
theorem d_M_pattern_137 : decode b_M_pattern 137 = .ok (.getfield 49, 3) := by decide +kernel
theorem d_M_pattern_140 : decode b_M_pattern 140 = .ok (.bipush 17, 2) := by decide +kernel
theorem d_M_pattern_142 : decode b_M_pattern 142 = .ok (.iload_n 2, 1) := by decide +kernel
theorem d_M_pattern_143 : decode b_M_pattern 143 = .ok (.imul, 1) := by decide +kernel
theorem d_M_pattern_144 : decode b_M_pattern 144 = .ok (.iload_n 3, 1) := by decide +kernel
theorem d_M_pattern_145 : decode b_M_pattern 145 = .ok (.iadd, 1) := by decide +kernel
theorem d_M_pattern_146 : decode b_M_pattern 146 = .ok (.aload_n 0, 1) := by decide +kernel
theorem d_M_pattern_147 : decode b_M_pattern 147 = .ok (.getfield 37, 3) := by decide +kernel
theorem d_M_pattern_150 : decode b_M_pattern 150 = .ok (.iload_n 3, 1) := by decide +kernel
theorem d_M_pattern_151 : decode b_M_pattern 151 = .ok (.iaload, 1) := by decide +kernel
theorem d_M_pattern_152 : decode b_M_pattern 152 = .ok (.iastore, 1) := by decide +kernel
theorem d_M_pattern_153 : decode b_M_pattern 153 = .ok (.iinc 3 1, 3) := by decide +kernel
theorem d_M_pattern_156 : decode b_M_pattern 156 = .ok (.goto (-28), 3) := by decide +kernel
theorem d_M_pattern_159 : decode b_M_pattern 159 = .ok (.aload_n 0, 1) := by decide +kernel
theorem d_M_pattern_160 : decode b_M_pattern 160 = .ok (.iconst 0, 1) := by decide +kernel
theorem d_M_pattern_161 : decode b_M_pattern 161 = .ok (.putfield 96, 3) := by decide +kernel
theorem d_M_pattern_164 : decode b_M_pattern 164 = .ok (.aload_n 0, 1) := by decide +kernel
theorem d_M_pattern_165 : decode b_M_pattern 165 = .ok (.getfield 99, 3) := by decide +kernel
theorem d_M_pattern_168 : decode b_M_pattern 168 = .ok (.ireturn, 1) := by decide +kernel
def lay_M_pattern (pc : Nat) : List Nat := if pc = 0 then [0] else if pc = 17 then [0, 1] else if pc = 45 then [0, 2] else if pc = 46 then [0, 2] else if pc = 73 then [0, 2] else if pc = 95 then [0, 2, 3] else if pc = 128 then [0, 2, 3] else []
noncomputable def sg_M_pattern_0 (v0 : Nat) (w : hy_W) : Option hy_N := if hy_ob w v0 6 = true then hy_bi (f_M_isPattern [.ref v0] w) fun x3 w1 => if x3 = 0 then (some (.inl (17, [.ref v0, .int x3, .int (-1)], w1))) else (if hy_ob w1 v0 6 = true then hy_bi (f_M_findPattern [.ref v0] w1) fun x8 w6 => some (.inl (17, [.ref v0, .int x3, .int x8], w6)) else none) else none
noncomputable def sg_M_pattern_17 (v0 : Nat) (v1 : Int32) (s0 : Int32) (w : hy_W) : Option hy_N := if v1 = 0 then (some (.inl (46, [.ref v0, .int s0, .int 1, .ref v0], w))) else (if (0 : Int32) ≤ s0 then (some (.inl (45, [.ref v0, .int s0, .ref v0], w))) else ((hy_gi w v0 6 14).bind fun x3 => if x3 = 300 then (some (.inl (46, [.ref v0, .int s0, .int 2, .ref v0], w))) else (some (.inl (45, [.ref v0, .int s0, .ref v0], w)))))
noncomputable def sg_M_pattern_45 (v0 : Nat) (v2 : Int32) (s0 : Nat) (w : hy_W) : Option hy_N := some (.inl (46, [.ref v0, .int v2, .int 0, .ref s0], w))
noncomputable def sg_M_pattern_46 (v0 : Nat) (v2 : Int32) (s0 : Int32) (s1 : Nat) (w : hy_W) : Option hy_N := if hy_ob w s1 6 = true then hy_bi (f_M_refused [.ref s1, .int s0] w) fun x3 w1 => if x3 = 0 then (if (0 : Int32) ≤ v2 then (some (.inl (73, [.ref v0, .int v2], w1))) else ((hy_gi w1 v0 6 14).bind fun x7 => (hy_gi w1 v0 6 14).bind fun x8 => (hy_pf w1 v0 6 14 (.int (x8 + 1))).bind fun w9 => some (.inl (73, [.ref v0, .int x7], w9)))) else (some (.inr (.inl (some (.int 0)), w1))) else none
noncomputable def sg_M_pattern_73 (v0 : Nat) (v2 : Int32) (w : hy_W) : Option hy_N := (hy_gr w v0 6 15).bind fun r1 => (hy_gi w v0 6 1).bind fun x2 => (hy_pa w 0 r1 v2 (.int x2)).bind fun w3 => (hy_gr w3 v0 6 16).bind fun r4 => (hy_gi w3 v0 6 11).bind fun x5 => (hy_pa w3 0 r4 v2 (.int x5)).bind fun w6 => some (.inl (95, [.ref v0, .int v2, .int 0], w6))
noncomputable def sg_M_pattern_95 (v0 : Nat) (v2 : Int32) (v3 : Int32) (w : hy_W) : Option hy_N := (hy_gi w v0 6 11).bind fun x1 => if x1 ≤ v3 then (some (.inl (128, [.ref v0, .int v2, .int 0], w))) else ((hy_gr w v0 6 17).bind fun r3 => (hy_gr w v0 6 12).bind fun r4 => (hy_ai w r4 v3).bind fun x5 => (hy_pa w 0 r3 ((16 * v2) + v3) (.int x5)).bind fun w6 => some (.inl (95, [.ref v0, .int v2, .int (v3 + 1)], w6)))
noncomputable def sg_M_pattern_128 (v0 : Nat) (v2 : Int32) (v3 : Int32) (w : hy_W) : Option hy_N := (hy_gi w v0 6 11).bind fun x1 => if x1 < v3 then ((hy_pf w v0 6 8 (.int 0)).bind fun w3 => (hy_gi w3 v0 6 11).bind fun x4 => some (.inr (.inl (some (.int x4)), w3))) else ((hy_gr w v0 6 18).bind fun r5 => (hy_gr w v0 6 13).bind fun r6 => (hy_ai w r6 v3).bind fun x7 => (hy_pa w 0 r5 ((17 * v2) + v3) (.int x7)).bind fun w8 => some (.inl (128, [.ref v0, .int v2, .int (v3 + 1)], w8)))
noncomputable def nx_M_pattern (q : hy_P) : Option hy_N := match q with
  | (0, [.ref v0], w) => sg_M_pattern_0 v0 w
  | (17, [.ref v0, .int v1, .int s0], w) => sg_M_pattern_17 v0 v1 s0 w
  | (45, [.ref v0, .int v2, .ref s0], w) => sg_M_pattern_45 v0 v2 s0 w
  | (46, [.ref v0, .int v2, .int s0, .ref s1], w) => sg_M_pattern_46 v0 v2 s0 s1 w
  | (73, [.ref v0, .int v2], w) => sg_M_pattern_73 v0 v2 w
  | (95, [.ref v0, .int v2, .int v3], w) => sg_M_pattern_95 v0 v2 v3 w
  | (128, [.ref v0, .int v2, .int v3], w) => sg_M_pattern_128 v0 v2 v3 w
  | _ => none
noncomputable def f_M_pattern (av : List Value) (w : hy_W) : Option hy_O := hy_fx nx_M_pattern (0, av, w)
set_option maxHeartbeats 4000000 in
set_option maxRecDepth 100000 in
theorem sk_M_pattern_0 {p : Program} {l : Launch} {e : Env} {s : State} {m : MethodId} {args : Array Value} {below : List Frame} {meth : Method} {c : Code} {G : hy_G} {A : Nat → Prop} {ad0 : Nat → Nat} {w0 : hy_W} {o : hy_O} (hl9 : l.flags = flags0) (hA : hy_A G ad0 w0 s.heap.size = A) (B : hy_B p l e (hy_rm 2 45 w0) s m args below meth c "HyphenPatternsModel" b_M_pattern 4 (some .int) [] G A) (v0 : Nat) (w : hy_W) (nx : hy_N) (h : sg_M_pattern_0 v0 w = some nx) (K : hy_Nx lay_M_pattern p l e (hy_rm 2 45 w0) s m args below meth c 4 G A ad0 w0.1.length (hy_Q below G ad0 w0 o args s) o nx) : hy_At lay_M_pattern p l e (hy_rm 2 45 w0) s m args below meth c 4 G A ad0 w0.1.length (hy_Q below G ad0 w0 o args s) (0, [.ref v0], w) := by
  intro ad H locs cells slots ls S hok hl
  have hx := B.1
  have hb := B.2.1
  dsimp only at S hok
  have hl : lv_has ls 4 [(0, .ref (ad v0))] := hl
  show W p l e (hy_rm 2 45 w0) s m args below meth c H locs cells slots (hy_Q below G ad0 w0 o args s) (F0 m 0 ls [])
  have hv_v0 : v0 < w.1.length := hok (.ref v0) (List.mem_of_getElem? (i := 0) rfl) v0 rfl
  obtain ⟨a_v0, ha_v0⟩ : ∃ a, ad v0 = a := ⟨_, rfl⟩
  rw [ha_v0] at hl
  unfold sg_M_pattern_0 at h
  refine lv_aload_n hx hb d_M_pattern_0 rfl (lv_at hl 0 rfl) ?_
  obtain ⟨ob4, h⟩ := hy_if h
  obtain ⟨fs_ob4, hf_ob4, hg_ob4⟩ := hy_ob_spec ob4
  obtain ⟨x3, w1, hq_w1, h⟩ := hy_bi_spec h
  refine hy_calli (hy_runV (rest := []) (As := []) (r := v0) (b := a_v0) B S rfl ha_v0 (by rfl) (c_M_isPattern hl9 G ad hq_w1) (hy_okr (by omega) hy_ok0) tw_781 tw_9 tw_778 tw_780 sl_M_isPattern (by decide) rfl (Nat.le_of_ble_eq_true rfl) (Nat.le_of_ble_eq_true rfl) hf_ob4 hg_ob4 rfl hl.1 (Nat.le_of_ble_eq_true rfl) d_M_pattern_1) (fun ad2 H locs cells slots hag hl_w1 S => ?_)
  have ha_v0 : ad2 v0 = a_v0 := (hag v0 (by omega)).trans ha_v0
  refine lv_istore_n (lv' := [(1, .int x3), (0, .ref a_v0)]) hx hb d_M_pattern_4 rfl hl (Nat.le_of_ble_eq_true rfl) rfl (fun ls hl => ?_)
  refine lv_iload_n hx hb d_M_pattern_5 rfl (lv_at hl 0 rfl) ?_
  refine lv_if_eq (tgt := 16) hx hb d_M_pattern_6 (by decide) (fun c5 => ?_) (fun c5 => ?_)
  · rw [if_pos c5] at h
    refine lv_iconst (v := (-1)) hx hb d_M_pattern_16 (by decide) ?_
    cases h
    exact hy_jump K S (hy_okr (by omega) (hy_oki (hy_oki hy_ok0))) (lv_sub hl [1, 0] rfl) (by subst ha_v0; rfl) (by subst ha_v0; rfl)
  · rw [if_neg c5] at h
    refine lv_aload_n hx hb d_M_pattern_9 rfl (lv_at hl 1 rfl) ?_
    obtain ⟨ob9, h⟩ := hy_if h
    obtain ⟨fs_ob9, hf_ob9, hg_ob9⟩ := hy_ob_spec ob9
    obtain ⟨x8, w6, hq_w6, h⟩ := hy_bi_spec h
    refine hy_calli (hy_runV (rest := []) (As := []) (r := v0) (b := a_v0) B S rfl ha_v0 (by rfl) (c_M_findPattern hl9 G ad2 hq_w6) (hy_okr (by omega) hy_ok0) tw_789 tw_9 tw_786 tw_788 sl_M_findPattern (by decide) rfl (Nat.le_of_ble_eq_true rfl) (Nat.le_of_ble_eq_true rfl) hf_ob9 hg_ob9 rfl hl.1 (Nat.le_of_ble_eq_true rfl) d_M_pattern_10) (fun ad7 H locs cells slots hag hl_w6 S => ?_)
    have ha_v0 : ad7 v0 = a_v0 := (hag v0 (by omega)).trans ha_v0
    refine lv_goto (tgt := 17) hx hb d_M_pattern_13 (by decide) ?_
    cases h
    exact hy_jump K S (hy_okr (by omega) (hy_oki (hy_oki hy_ok0))) (lv_sub hl [1, 0] rfl) (by subst ha_v0; rfl) (by subst ha_v0; rfl)
set_option maxHeartbeats 4000000 in
set_option maxRecDepth 100000 in
theorem sk_M_pattern_17 {p : Program} {l : Launch} {e : Env} {s : State} {m : MethodId} {args : Array Value} {below : List Frame} {meth : Method} {c : Code} {G : hy_G} {A : Nat → Prop} {ad0 : Nat → Nat} {w0 : hy_W} {o : hy_O} (hl9 : l.flags = flags0) (hA : hy_A G ad0 w0 s.heap.size = A) (B : hy_B p l e (hy_rm 2 45 w0) s m args below meth c "HyphenPatternsModel" b_M_pattern 4 (some .int) [] G A) (v0 : Nat) (v1 : Int32) (s0 : Int32) (w : hy_W) (nx : hy_N) (h : sg_M_pattern_17 v0 v1 s0 w = some nx) (K : hy_Nx lay_M_pattern p l e (hy_rm 2 45 w0) s m args below meth c 4 G A ad0 w0.1.length (hy_Q below G ad0 w0 o args s) o nx) : hy_At lay_M_pattern p l e (hy_rm 2 45 w0) s m args below meth c 4 G A ad0 w0.1.length (hy_Q below G ad0 w0 o args s) (17, [.ref v0, .int v1, .int s0], w) := by
  intro ad H locs cells slots ls S hok hl
  have hx := B.1
  have hb := B.2.1
  dsimp only at S hok
  have hl : lv_has ls 4 [(0, .ref (ad v0)), (1, .int v1)] := hl
  show W p l e (hy_rm 2 45 w0) s m args below meth c H locs cells slots (hy_Q below G ad0 w0 o args s) (F0 m 17 ls [.int s0])
  have hv_v0 : v0 < w.1.length := hok (.ref v0) (List.mem_of_getElem? (i := 0) rfl) v0 rfl
  obtain ⟨a_v0, ha_v0⟩ : ∃ a, ad v0 = a := ⟨_, rfl⟩
  rw [ha_v0] at hl
  unfold sg_M_pattern_17 at h
  refine lv_istore_n (lv' := [(2, .int s0), (0, .ref a_v0), (1, .int v1)]) hx hb d_M_pattern_17 rfl hl (Nat.le_of_ble_eq_true rfl) rfl (fun ls hl => ?_)
  refine lv_aload_n hx hb d_M_pattern_18 rfl (lv_at hl 1 rfl) ?_
  refine lv_iload_n hx hb d_M_pattern_19 rfl (lv_at hl 2 rfl) ?_
  refine lv_if_ne (tgt := 27) hx hb d_M_pattern_20 (by decide) (fun c1 => ?_) (fun c1 => ?_)
  · rw [if_neg c1] at h
    refine lv_iload_n hx hb d_M_pattern_27 rfl (lv_at hl 0 rfl) ?_
    refine lv_if_ge (tgt := 45) hx hb d_M_pattern_28 (by decide) (fun c2 => ?_) (fun c2 => ?_)
    · rw [if_pos c2] at h
      cases h
      exact hy_jump K S (hy_okr (by omega) (hy_oki (hy_okr (by omega) hy_ok0))) (lv_sub hl [1, 0] rfl) (by subst ha_v0; rfl) (by subst ha_v0; rfl)
    · rw [if_neg c2] at h
      refine lv_aload_n hx hb d_M_pattern_31 rfl (lv_at hl 1 rfl) ?_
      obtain ⟨x3, hx3, h⟩ := hy_bd h
      refine hy_geti B S ha_v0 hx3 rfl (Nat.le_of_ble_eq_true rfl) i_6 (j := 14) tw_664 (fun _ h => h) d_M_pattern_32 ?_
      refine lv_sipush (v := 300) hx hb d_M_pattern_35 (by decide) ?_
      refine lv_icmp_ne (tgt := 45) hx hb d_M_pattern_38 (by decide) (fun c4 => ?_) (fun c4 => ?_)
      · rw [if_neg c4] at h
        cases h
        exact hy_jump K S (hy_okr (by omega) (hy_oki (hy_okr (by omega) hy_ok0))) (lv_sub hl [1, 0] rfl) (by subst ha_v0; rfl) (by subst ha_v0; rfl)
      · rw [if_pos c4] at h
        refine lv_iconst (v := 2) hx hb d_M_pattern_41 (by decide) ?_
        refine lv_goto (tgt := 46) hx hb d_M_pattern_42 (by decide) ?_
        cases h
        exact hy_jump K S (hy_okr (by omega) (hy_oki (hy_oki (hy_okr (by omega) hy_ok0)))) (lv_sub hl [1, 0] rfl) (by subst ha_v0; rfl) (by subst ha_v0; rfl)
  · rw [if_pos c1] at h
    refine lv_iconst (v := 1) hx hb d_M_pattern_23 (by decide) ?_
    refine lv_goto (tgt := 46) hx hb d_M_pattern_24 (by decide) ?_
    cases h
    exact hy_jump K S (hy_okr (by omega) (hy_oki (hy_oki (hy_okr (by omega) hy_ok0)))) (lv_sub hl [1, 0] rfl) (by subst ha_v0; rfl) (by subst ha_v0; rfl)
set_option maxHeartbeats 4000000 in
set_option maxRecDepth 100000 in
theorem sk_M_pattern_45 {p : Program} {l : Launch} {e : Env} {s : State} {m : MethodId} {args : Array Value} {below : List Frame} {meth : Method} {c : Code} {G : hy_G} {A : Nat → Prop} {ad0 : Nat → Nat} {w0 : hy_W} {o : hy_O} (hl9 : l.flags = flags0) (hA : hy_A G ad0 w0 s.heap.size = A) (B : hy_B p l e (hy_rm 2 45 w0) s m args below meth c "HyphenPatternsModel" b_M_pattern 4 (some .int) [] G A) (v0 : Nat) (v2 : Int32) (s0 : Nat) (w : hy_W) (nx : hy_N) (h : sg_M_pattern_45 v0 v2 s0 w = some nx) (K : hy_Nx lay_M_pattern p l e (hy_rm 2 45 w0) s m args below meth c 4 G A ad0 w0.1.length (hy_Q below G ad0 w0 o args s) o nx) : hy_At lay_M_pattern p l e (hy_rm 2 45 w0) s m args below meth c 4 G A ad0 w0.1.length (hy_Q below G ad0 w0 o args s) (45, [.ref v0, .int v2, .ref s0], w) := by
  intro ad H locs cells slots ls S hok hl
  have hx := B.1
  have hb := B.2.1
  dsimp only at S hok
  have hl : lv_has ls 4 [(0, .ref (ad v0)), (2, .int v2)] := hl
  show W p l e (hy_rm 2 45 w0) s m args below meth c H locs cells slots (hy_Q below G ad0 w0 o args s) (F0 m 45 ls [.ref (ad s0)])
  have hv_v0 : v0 < w.1.length := hok (.ref v0) (List.mem_of_getElem? (i := 0) rfl) v0 rfl
  obtain ⟨a_v0, ha_v0⟩ : ∃ a, ad v0 = a := ⟨_, rfl⟩
  rw [ha_v0] at hl
  have hv_s0 : s0 < w.1.length := hok (.ref s0) (List.mem_of_getElem? (i := 2) rfl) s0 rfl
  obtain ⟨a_s0, ha_s0⟩ : ∃ a, ad s0 = a := ⟨_, rfl⟩
  rw [ha_s0]
  unfold sg_M_pattern_45 at h
  refine lv_iconst (v := 0) hx hb d_M_pattern_45 (by decide) ?_
  cases h
  exact hy_jump K S (hy_okr (by omega) (hy_oki (hy_oki (hy_okr (by omega) hy_ok0)))) (lv_sub hl [0, 1] rfl) (by subst ha_v0 ha_s0; rfl) (by subst ha_v0 ha_s0; rfl)
set_option maxHeartbeats 4000000 in
set_option maxRecDepth 100000 in
theorem sk_M_pattern_46 {p : Program} {l : Launch} {e : Env} {s : State} {m : MethodId} {args : Array Value} {below : List Frame} {meth : Method} {c : Code} {G : hy_G} {A : Nat → Prop} {ad0 : Nat → Nat} {w0 : hy_W} {o : hy_O} (hl9 : l.flags = flags0) (hA : hy_A G ad0 w0 s.heap.size = A) (B : hy_B p l e (hy_rm 2 45 w0) s m args below meth c "HyphenPatternsModel" b_M_pattern 4 (some .int) [] G A) (v0 : Nat) (v2 : Int32) (s0 : Int32) (s1 : Nat) (w : hy_W) (nx : hy_N) (h : sg_M_pattern_46 v0 v2 s0 s1 w = some nx) (K : hy_Nx lay_M_pattern p l e (hy_rm 2 45 w0) s m args below meth c 4 G A ad0 w0.1.length (hy_Q below G ad0 w0 o args s) o nx) : hy_At lay_M_pattern p l e (hy_rm 2 45 w0) s m args below meth c 4 G A ad0 w0.1.length (hy_Q below G ad0 w0 o args s) (46, [.ref v0, .int v2, .int s0, .ref s1], w) := by
  intro ad H locs cells slots ls S hok hl
  have hx := B.1
  have hb := B.2.1
  dsimp only at S hok
  have hl : lv_has ls 4 [(0, .ref (ad v0)), (2, .int v2)] := hl
  show W p l e (hy_rm 2 45 w0) s m args below meth c H locs cells slots (hy_Q below G ad0 w0 o args s) (F0 m 46 ls [.int s0, .ref (ad s1)])
  have hv_v0 : v0 < w.1.length := hok (.ref v0) (List.mem_of_getElem? (i := 0) rfl) v0 rfl
  obtain ⟨a_v0, ha_v0⟩ : ∃ a, ad v0 = a := ⟨_, rfl⟩
  rw [ha_v0] at hl
  have hv_s1 : s1 < w.1.length := hok (.ref s1) (List.mem_of_getElem? (i := 3) rfl) s1 rfl
  obtain ⟨a_s1, ha_s1⟩ : ∃ a, ad s1 = a := ⟨_, rfl⟩
  rw [ha_s1]
  unfold sg_M_pattern_46 at h
  obtain ⟨ob4, h⟩ := hy_if h
  obtain ⟨fs_ob4, hf_ob4, hg_ob4⟩ := hy_ob_spec ob4
  obtain ⟨x3, w1, hq_w1, h⟩ := hy_bi_spec h
  refine hy_calli (hy_runV (rest := []) (As := [.int s0]) (r := s1) (b := a_s1) B S rfl ha_s1 (by rfl) (c_M_refused hl9 G ad hq_w1) (hy_okr (by omega) (hy_oki hy_ok0)) tw_740 tw_9 tw_737 tw_739 sl_M_refused (by decide) rfl (Nat.le_of_ble_eq_true rfl) (Nat.le_of_ble_eq_true rfl) hf_ob4 hg_ob4 rfl hl.1 (Nat.le_of_ble_eq_true rfl) d_M_pattern_46) (fun ad2 H locs cells slots hag hl_w1 S => ?_)
  have ha_v0 : ad2 v0 = a_v0 := (hag v0 (by omega)).trans ha_v0
  refine lv_if_eq (tgt := 54) hx hb d_M_pattern_49 (by decide) (fun c5 => ?_) (fun c5 => ?_)
  · rw [if_pos c5] at h
    refine lv_iload_n hx hb d_M_pattern_54 rfl (lv_at hl 1 rfl) ?_
    refine lv_if_ge (tgt := 73) hx hb d_M_pattern_55 (by decide) (fun c6 => ?_) (fun c6 => ?_)
    · rw [if_pos c6] at h
      cases h
      exact hy_jump K S (hy_okr (by omega) (hy_oki hy_ok0)) (lv_sub hl [0, 1] rfl) (by subst ha_v0; rfl) (by subst ha_v0; rfl)
    · rw [if_neg c6] at h
      refine lv_aload_n hx hb d_M_pattern_58 rfl (lv_at hl 0 rfl) ?_
      obtain ⟨x7, hx7, h⟩ := hy_bd h
      refine hy_geti B S ha_v0 hx7 rfl (Nat.le_of_ble_eq_true rfl) i_6 (j := 14) tw_664 (fun _ h => h) d_M_pattern_59 ?_
      refine lv_istore_n (lv' := [(2, .int x7), (0, .ref a_v0)]) hx hb d_M_pattern_62 rfl hl (Nat.le_of_ble_eq_true rfl) rfl (fun ls hl => ?_)
      refine lv_aload_n hx hb d_M_pattern_63 rfl (lv_at hl 1 rfl) ?_
      refine lv_dup hx hb d_M_pattern_64 rfl ?_
      obtain ⟨x8, hx8, h⟩ := hy_bd h
      refine hy_geti B S ha_v0 hx8 rfl (Nat.le_of_ble_eq_true rfl) i_6 (j := 14) tw_664 (fun _ h => h) d_M_pattern_65 ?_
      refine lv_iconst (v := 1) hx hb d_M_pattern_68 (by decide) ?_
      refine lv_iadd hx hb d_M_pattern_69 ?_
      obtain ⟨w9, hw9, h⟩ := hy_bd h
      refine hy_put B S ha_v0 rfl hy_cvi hw9 rfl (Nat.le_of_ble_eq_true rfl) i_6 t_6 t_6_ok n_6 (j := 14) tw_664 (fun _ h => h) rfl rfl rfl d_M_pattern_70 (fun H locs S hl_w9 => ?_)
      cases h
      exact hy_jump K S (hy_okr (by omega) (hy_oki hy_ok0)) (lv_sub hl [1, 0] rfl) (by subst ha_v0; rfl) (by subst ha_v0; rfl)
  · rw [if_neg c5] at h
    refine lv_iconst (v := 0) hx hb d_M_pattern_52 (by decide) ?_
    cases h
    cases K
    exact hy_iret hA B S d_M_pattern_53
set_option maxHeartbeats 4000000 in
set_option maxRecDepth 100000 in
theorem sk_M_pattern_73 {p : Program} {l : Launch} {e : Env} {s : State} {m : MethodId} {args : Array Value} {below : List Frame} {meth : Method} {c : Code} {G : hy_G} {A : Nat → Prop} {ad0 : Nat → Nat} {w0 : hy_W} {o : hy_O} (hl9 : l.flags = flags0) (hA : hy_A G ad0 w0 s.heap.size = A) (B : hy_B p l e (hy_rm 2 45 w0) s m args below meth c "HyphenPatternsModel" b_M_pattern 4 (some .int) [] G A) (v0 : Nat) (v2 : Int32) (w : hy_W) (nx : hy_N) (h : sg_M_pattern_73 v0 v2 w = some nx) (K : hy_Nx lay_M_pattern p l e (hy_rm 2 45 w0) s m args below meth c 4 G A ad0 w0.1.length (hy_Q below G ad0 w0 o args s) o nx) : hy_At lay_M_pattern p l e (hy_rm 2 45 w0) s m args below meth c 4 G A ad0 w0.1.length (hy_Q below G ad0 w0 o args s) (73, [.ref v0, .int v2], w) := by
  intro ad H locs cells slots ls S hok hl
  have hx := B.1
  have hb := B.2.1
  dsimp only at S hok
  have hl : lv_has ls 4 [(0, .ref (ad v0)), (2, .int v2)] := hl
  show W p l e (hy_rm 2 45 w0) s m args below meth c H locs cells slots (hy_Q below G ad0 w0 o args s) (F0 m 73 ls [])
  have hv_v0 : v0 < w.1.length := hok (.ref v0) (List.mem_of_getElem? (i := 0) rfl) v0 rfl
  obtain ⟨a_v0, ha_v0⟩ : ∃ a, ad v0 = a := ⟨_, rfl⟩
  rw [ha_v0] at hl
  unfold sg_M_pattern_73 at h
  refine lv_aload_n hx hb d_M_pattern_73 rfl (lv_at hl 0 rfl) ?_
  obtain ⟨r1, hr1, h⟩ := hy_bd h
  refine hy_getr B S ha_v0 hr1 rfl (Nat.le_of_ble_eq_true rfl) i_6 (j := 15) tw_665 (fun _ h => h) d_M_pattern_74 (fun a_r1 ha_r1 hv_r1 => ?_)
  refine lv_iload_n hx hb d_M_pattern_77 rfl (lv_at hl 1 rfl) ?_
  refine lv_aload_n hx hb d_M_pattern_78 rfl (lv_at hl 0 rfl) ?_
  obtain ⟨x2, hx2, h⟩ := hy_bd h
  refine hy_geti B S ha_v0 hx2 rfl (Nat.le_of_ble_eq_true rfl) i_6 (j := 1) tw_651 (fun _ h => h) d_M_pattern_79 ?_
  obtain ⟨w3, hw3, h⟩ := hy_bd h
  refine hy_iast B S ha_r1 hw3 d_M_pattern_82 (fun H locs S hl_w3 => ?_)
  refine lv_aload_n hx hb d_M_pattern_83 rfl (lv_at hl 0 rfl) ?_
  obtain ⟨r4, hr4, h⟩ := hy_bd h
  refine hy_getr B S ha_v0 hr4 rfl (Nat.le_of_ble_eq_true rfl) i_6 (j := 16) tw_666 (fun _ h => h) d_M_pattern_84 (fun a_r4 ha_r4 hv_r4 => ?_)
  refine lv_iload_n hx hb d_M_pattern_87 rfl (lv_at hl 1 rfl) ?_
  refine lv_aload_n hx hb d_M_pattern_88 rfl (lv_at hl 0 rfl) ?_
  obtain ⟨x5, hx5, h⟩ := hy_bd h
  refine hy_geti B S ha_v0 hx5 rfl (Nat.le_of_ble_eq_true rfl) i_6 (j := 11) tw_661 (fun _ h => h) d_M_pattern_89 ?_
  obtain ⟨w6, hw6, h⟩ := hy_bd h
  refine hy_iast B S ha_r4 hw6 d_M_pattern_92 (fun H locs S hl_w6 => ?_)
  refine lv_iconst (v := 0) hx hb d_M_pattern_93 (by decide) ?_
  refine lv_istore_n (lv' := [(3, .int 0), (0, .ref a_v0), (2, .int v2)]) hx hb d_M_pattern_94 rfl hl (Nat.le_of_ble_eq_true rfl) rfl (fun ls hl => ?_)
  cases h
  exact hy_jump K S (hy_okr (by omega) (hy_oki (hy_oki hy_ok0))) (lv_sub hl [1, 2, 0] rfl) (by subst ha_v0; rfl) (by subst ha_v0; rfl)
set_option maxHeartbeats 4000000 in
set_option maxRecDepth 100000 in
theorem sk_M_pattern_95 {p : Program} {l : Launch} {e : Env} {s : State} {m : MethodId} {args : Array Value} {below : List Frame} {meth : Method} {c : Code} {G : hy_G} {A : Nat → Prop} {ad0 : Nat → Nat} {w0 : hy_W} {o : hy_O} (hl9 : l.flags = flags0) (hA : hy_A G ad0 w0 s.heap.size = A) (B : hy_B p l e (hy_rm 2 45 w0) s m args below meth c "HyphenPatternsModel" b_M_pattern 4 (some .int) [] G A) (v0 : Nat) (v2 : Int32) (v3 : Int32) (w : hy_W) (nx : hy_N) (h : sg_M_pattern_95 v0 v2 v3 w = some nx) (K : hy_Nx lay_M_pattern p l e (hy_rm 2 45 w0) s m args below meth c 4 G A ad0 w0.1.length (hy_Q below G ad0 w0 o args s) o nx) : hy_At lay_M_pattern p l e (hy_rm 2 45 w0) s m args below meth c 4 G A ad0 w0.1.length (hy_Q below G ad0 w0 o args s) (95, [.ref v0, .int v2, .int v3], w) := by
  intro ad H locs cells slots ls S hok hl
  have hx := B.1
  have hb := B.2.1
  dsimp only at S hok
  have hl : lv_has ls 4 [(0, .ref (ad v0)), (2, .int v2), (3, .int v3)] := hl
  show W p l e (hy_rm 2 45 w0) s m args below meth c H locs cells slots (hy_Q below G ad0 w0 o args s) (F0 m 95 ls [])
  have hv_v0 : v0 < w.1.length := hok (.ref v0) (List.mem_of_getElem? (i := 0) rfl) v0 rfl
  obtain ⟨a_v0, ha_v0⟩ : ∃ a, ad v0 = a := ⟨_, rfl⟩
  rw [ha_v0] at hl
  unfold sg_M_pattern_95 at h
  refine lv_iload_n hx hb d_M_pattern_95 rfl (lv_at hl 2 rfl) ?_
  refine lv_aload_n hx hb d_M_pattern_96 rfl (lv_at hl 0 rfl) ?_
  obtain ⟨x1, hx1, h⟩ := hy_bd h
  refine hy_geti B S ha_v0 hx1 rfl (Nat.le_of_ble_eq_true rfl) i_6 (j := 11) tw_661 (fun _ h => h) d_M_pattern_97 ?_
  refine lv_icmp_ge (tgt := 126) hx hb d_M_pattern_100 (by decide) (fun c2 => ?_) (fun c2 => ?_)
  · rw [if_pos c2] at h
    refine lv_iconst (v := 0) hx hb d_M_pattern_126 (by decide) ?_
    refine lv_istore_n (lv' := [(3, .int 0), (0, .ref a_v0), (2, .int v2)]) hx hb d_M_pattern_127 rfl hl (Nat.le_of_ble_eq_true rfl) rfl (fun ls hl => ?_)
    cases h
    exact hy_jump K S (hy_okr (by omega) (hy_oki (hy_oki hy_ok0))) (lv_sub hl [1, 2, 0] rfl) (by subst ha_v0; rfl) (by subst ha_v0; rfl)
  · rw [if_neg c2] at h
    refine lv_aload_n hx hb d_M_pattern_103 rfl (lv_at hl 0 rfl) ?_
    obtain ⟨r3, hr3, h⟩ := hy_bd h
    refine hy_getr B S ha_v0 hr3 rfl (Nat.le_of_ble_eq_true rfl) i_6 (j := 17) tw_667 (fun _ h => h) d_M_pattern_104 (fun a_r3 ha_r3 hv_r3 => ?_)
    refine lv_bipush (v := 16) hx hb d_M_pattern_107 (by decide) ?_
    refine lv_iload_n hx hb d_M_pattern_109 rfl (lv_at hl 1 rfl) ?_
    refine lv_imul hx hb d_M_pattern_110 ?_
    refine lv_iload_n hx hb d_M_pattern_111 rfl (lv_at hl 2 rfl) ?_
    refine lv_iadd hx hb d_M_pattern_112 ?_
    refine lv_aload_n hx hb d_M_pattern_113 rfl (lv_at hl 0 rfl) ?_
    obtain ⟨r4, hr4, h⟩ := hy_bd h
    refine hy_getr B S ha_v0 hr4 rfl (Nat.le_of_ble_eq_true rfl) i_6 (j := 12) tw_662 (fun _ h => h) d_M_pattern_114 (fun a_r4 ha_r4 hv_r4 => ?_)
    refine lv_iload_n hx hb d_M_pattern_117 rfl (lv_at hl 2 rfl) ?_
    obtain ⟨x5, hx5, h⟩ := hy_bd h
    refine hy_iald B S ha_r4 hx5 d_M_pattern_118 ?_
    obtain ⟨w6, hw6, h⟩ := hy_bd h
    refine hy_iast B S ha_r3 hw6 d_M_pattern_119 (fun H locs S hl_w6 => ?_)
    refine lv_iinc (v := (v3 + 1)) (lv' := [(3, .int (v3 + 1)), (0, .ref a_v0), (2, .int v2)]) hx hb d_M_pattern_120 hl (k := 2) rfl rfl (Nat.le_of_ble_eq_true rfl) rfl (fun ls hl => ?_)
    refine lv_goto (tgt := 95) hx hb d_M_pattern_123 (by decide) ?_
    cases h
    exact hy_jump K S (hy_okr (by omega) (hy_oki (hy_oki hy_ok0))) (lv_sub hl [1, 2, 0] rfl) (by subst ha_v0; rfl) (by subst ha_v0; rfl)
set_option maxHeartbeats 4000000 in
set_option maxRecDepth 100000 in
theorem sk_M_pattern_128 {p : Program} {l : Launch} {e : Env} {s : State} {m : MethodId} {args : Array Value} {below : List Frame} {meth : Method} {c : Code} {G : hy_G} {A : Nat → Prop} {ad0 : Nat → Nat} {w0 : hy_W} {o : hy_O} (hl9 : l.flags = flags0) (hA : hy_A G ad0 w0 s.heap.size = A) (B : hy_B p l e (hy_rm 2 45 w0) s m args below meth c "HyphenPatternsModel" b_M_pattern 4 (some .int) [] G A) (v0 : Nat) (v2 : Int32) (v3 : Int32) (w : hy_W) (nx : hy_N) (h : sg_M_pattern_128 v0 v2 v3 w = some nx) (K : hy_Nx lay_M_pattern p l e (hy_rm 2 45 w0) s m args below meth c 4 G A ad0 w0.1.length (hy_Q below G ad0 w0 o args s) o nx) : hy_At lay_M_pattern p l e (hy_rm 2 45 w0) s m args below meth c 4 G A ad0 w0.1.length (hy_Q below G ad0 w0 o args s) (128, [.ref v0, .int v2, .int v3], w) := by
  intro ad H locs cells slots ls S hok hl
  have hx := B.1
  have hb := B.2.1
  dsimp only at S hok
  have hl : lv_has ls 4 [(0, .ref (ad v0)), (2, .int v2), (3, .int v3)] := hl
  show W p l e (hy_rm 2 45 w0) s m args below meth c H locs cells slots (hy_Q below G ad0 w0 o args s) (F0 m 128 ls [])
  have hv_v0 : v0 < w.1.length := hok (.ref v0) (List.mem_of_getElem? (i := 0) rfl) v0 rfl
  obtain ⟨a_v0, ha_v0⟩ : ∃ a, ad v0 = a := ⟨_, rfl⟩
  rw [ha_v0] at hl
  unfold sg_M_pattern_128 at h
  refine lv_iload_n hx hb d_M_pattern_128 rfl (lv_at hl 2 rfl) ?_
  refine lv_aload_n hx hb d_M_pattern_129 rfl (lv_at hl 0 rfl) ?_
  obtain ⟨x1, hx1, h⟩ := hy_bd h
  refine hy_geti B S ha_v0 hx1 rfl (Nat.le_of_ble_eq_true rfl) i_6 (j := 11) tw_661 (fun _ h => h) d_M_pattern_130 ?_
  refine lv_icmp_gt (tgt := 159) hx hb d_M_pattern_133 (by decide) (fun c2 => ?_) (fun c2 => ?_)
  · rw [if_pos c2] at h
    refine lv_aload_n hx hb d_M_pattern_159 rfl (lv_at hl 0 rfl) ?_
    refine lv_iconst (v := 0) hx hb d_M_pattern_160 (by decide) ?_
    obtain ⟨w3, hw3, h⟩ := hy_bd h
    refine hy_put B S ha_v0 rfl hy_cvi hw3 rfl (Nat.le_of_ble_eq_true rfl) i_6 t_6 t_6_ok n_6 (j := 8) tw_658 (fun _ h => h) rfl rfl rfl d_M_pattern_161 (fun H locs S hl_w3 => ?_)
    refine lv_aload_n hx hb d_M_pattern_164 rfl (lv_at hl 0 rfl) ?_
    obtain ⟨x4, hx4, h⟩ := hy_bd h
    refine hy_geti B S ha_v0 hx4 rfl (Nat.le_of_ble_eq_true rfl) i_6 (j := 11) tw_661 (fun _ h => h) d_M_pattern_165 ?_
    cases h
    cases K
    exact hy_iret hA B S d_M_pattern_168
  · rw [if_neg c2] at h
    refine lv_aload_n hx hb d_M_pattern_136 rfl (lv_at hl 0 rfl) ?_
    obtain ⟨r5, hr5, h⟩ := hy_bd h
    refine hy_getr B S ha_v0 hr5 rfl (Nat.le_of_ble_eq_true rfl) i_6 (j := 18) tw_668 (fun _ h => h) d_M_pattern_137 (fun a_r5 ha_r5 hv_r5 => ?_)
    refine lv_bipush (v := 17) hx hb d_M_pattern_140 (by decide) ?_
    refine lv_iload_n hx hb d_M_pattern_142 rfl (lv_at hl 1 rfl) ?_
    refine lv_imul hx hb d_M_pattern_143 ?_
    refine lv_iload_n hx hb d_M_pattern_144 rfl (lv_at hl 2 rfl) ?_
    refine lv_iadd hx hb d_M_pattern_145 ?_
    refine lv_aload_n hx hb d_M_pattern_146 rfl (lv_at hl 0 rfl) ?_
    obtain ⟨r6, hr6, h⟩ := hy_bd h
    refine hy_getr B S ha_v0 hr6 rfl (Nat.le_of_ble_eq_true rfl) i_6 (j := 13) tw_663 (fun _ h => h) d_M_pattern_147 (fun a_r6 ha_r6 hv_r6 => ?_)
    refine lv_iload_n hx hb d_M_pattern_150 rfl (lv_at hl 2 rfl) ?_
    obtain ⟨x7, hx7, h⟩ := hy_bd h
    refine hy_iald B S ha_r6 hx7 d_M_pattern_151 ?_
    obtain ⟨w8, hw8, h⟩ := hy_bd h
    refine hy_iast B S ha_r5 hw8 d_M_pattern_152 (fun H locs S hl_w8 => ?_)
    refine lv_iinc (v := (v3 + 1)) (lv' := [(3, .int (v3 + 1)), (0, .ref a_v0), (2, .int v2)]) hx hb d_M_pattern_153 hl (k := 2) rfl rfl (Nat.le_of_ble_eq_true rfl) rfl (fun ls hl => ?_)
    refine lv_goto (tgt := 128) hx hb d_M_pattern_156 (by decide) ?_
    cases h
    exact hy_jump K S (hy_okr (by omega) (hy_oki (hy_oki hy_ok0))) (lv_sub hl [1, 2, 0] rfl) (by subst ha_v0; rfl) (by subst ha_v0; rfl)
theorem nk_M_pattern {p : Program} {l : Launch} {e : Env} {s : State} {m : MethodId} {args : Array Value} {below : List Frame} {meth : Method} {c : Code} {G : hy_G} {A : Nat → Prop} {ad0 : Nat → Nat} {w0 : hy_W} {o : hy_O} (hl9 : l.flags = flags0) (hA : hy_A G ad0 w0 s.heap.size = A) (B : hy_B p l e (hy_rm 2 45 w0) s m args below meth c "HyphenPatternsModel" b_M_pattern 4 (some .int) [] G A) (q : hy_P) (nx : hy_N) (hq : nx_M_pattern q = some nx) (K : hy_Nx lay_M_pattern p l e (hy_rm 2 45 w0) s m args below meth c 4 G A ad0 w0.1.length (hy_Q below G ad0 w0 o args s) o nx) : hy_At lay_M_pattern p l e (hy_rm 2 45 w0) s m args below meth c 4 G A ad0 w0.1.length (hy_Q below G ad0 w0 o args s) q := by
  unfold nx_M_pattern at hq
  split at hq
  · exact sk_M_pattern_0 hl9 hA B _ _ nx hq K
  · exact sk_M_pattern_17 hl9 hA B _ _ _ _ nx hq K
  · exact sk_M_pattern_45 hl9 hA B _ _ _ _ nx hq K
  · exact sk_M_pattern_46 hl9 hA B _ _ _ _ _ nx hq K
  · exact sk_M_pattern_73 hl9 hA B _ _ _ nx hq K
  · exact sk_M_pattern_95 hl9 hA B _ _ _ _ nx hq K
  · exact sk_M_pattern_128 hl9 hA B _ _ _ _ nx hq K
  · cases hq
theorem c_M_pattern {l : Launch} (hl9 : l.flags = flags0) (G : hy_G) (ad : Nat → Nat) {v0 : Nat} {w : hy_W} {o : hy_O} (h : f_M_pattern [.ref v0] w = some o) : hy_M l y_M_pattern (Cond.code y_M_pattern b_M_pattern 4 (some .int) :: hy_T) 2 45 G ad [.ref v0] w o := by
  obtain ⟨n, hn⟩ := hy_fx_iff.mp h
  refine hy_ofW hl9 (by decide +kernel) (Nat.le_of_ble_eq_true rfl) (fun p e s m args below meth c A hA hi B S hok ls hl => ?_)
  exact hy_loop (nk_M_pattern hl9 hA B) n _ hn ad s.heap [] 0 0 ls S hok hl
