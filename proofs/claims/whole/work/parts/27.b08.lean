/-! BODIES (printed by our translator): X_breaks, M_init, M_thrown, M_refused, M_choose, M_isChar, M_letters, M_least -/
theorem d_X_breaks_0 : decode b_X_breaks 0 = .ok (.aload_n 2, 1) := by decide +kernel
theorem d_X_breaks_1 : decode b_X_breaks 1 = .ok (.iconst 0, 1) := by decide +kernel
theorem d_X_breaks_2 : decode b_X_breaks 2 = .ok (.aload_n 0, 1) := by decide +kernel
theorem d_X_breaks_3 : decode b_X_breaks 3 = .ok (.iload_n 1, 1) := by decide +kernel
theorem d_X_breaks_4 : decode b_X_breaks 4 = .ok (.invokevirtual 44, 3) := by decide +kernel
theorem d_X_breaks_7 : decode b_X_breaks 7 = .ok (.ifCond .eq 7, 3) := by decide +kernel
theorem d_X_breaks_10 : decode b_X_breaks 10 = .ok (.lconst 1, 1) := by decide +kernel
theorem d_X_breaks_11 : decode b_X_breaks 11 = .ok (.goto 4, 3) := by decide +kernel
theorem d_X_breaks_14 : decode b_X_breaks 14 = .ok (.lconst 0, 1) := by decide +kernel
theorem d_X_breaks_15 : decode b_X_breaks 15 = .ok (.lastore, 1) := by decide +kernel
theorem d_X_breaks_16 : decode b_X_breaks 16 = .ok (.goto 6, 3) := by decide +kernel
theorem d_X_breaks_19 : decode b_X_breaks 19 = .ok (.astore_n 3, 1) := by decide +kernel
theorem d_X_breaks_20 : decode b_X_breaks 20 = .ok (.iconst 1, 1) := by decide +kernel
theorem d_X_breaks_21 : decode b_X_breaks 21 = .ok (.ireturn, 1) := by decide +kernel
theorem d_X_breaks_22 : decode b_X_breaks 22 = .ok (.iconst 0, 1) := by decide +kernel
theorem d_X_breaks_23 : decode b_X_breaks 23 = .ok (.ireturn, 1) := by decide +kernel
def lay_X_breaks (pc : Nat) : List Nat := if pc = 0 then [0, 1, 2] else if pc = 15 then [] else []
noncomputable def sg_X_breaks_0 (v0 : Nat) (v1 : Int32) (v2 : Nat) (w : hy_W) : Option hy_N := if hy_ob w v0 5 = true then hy_xi (f_H_breaks [.ref v0, .int v1] w) (fun x3 w1 => if x3 = 0 then (some (.inl (15, [.long 0, .int 0, .ref v2], w1))) else (some (.inl (15, [.long 1, .int 0, .ref v2], w1)))) (fun E6 w7 => if E6 = "java/lang/IndexOutOfBoundsException" then (some (.inr (.inl (some (.int 1)), w7))) else none) else none
noncomputable def sg_X_breaks_15 (s0 : Int64) (s1 : Int32) (s2 : Nat) (w : hy_W) : Option hy_N := (hy_pa w 1 s2 s1 (.long s0)).bind fun w1 => some (.inr (.inl (some (.int 0)), w1))
noncomputable def nx_X_breaks (q : hy_P) : Option hy_N := match q with
  | (0, [.ref v0, .int v1, .ref v2], w) => sg_X_breaks_0 v0 v1 v2 w
  | (15, [.long s0, .int s1, .ref s2], w) => sg_X_breaks_15 s0 s1 s2 w
  | _ => none
noncomputable def f_X_breaks (av : List Value) (w : hy_W) : Option hy_O := hy_fx nx_X_breaks (0, av, w)
set_option maxHeartbeats 4000000 in
set_option maxRecDepth 100000 in
theorem sk_X_breaks_0 {p : Program} {l : Launch} {e : Env} {s : State} {m : MethodId} {args : Array Value} {below : List Frame} {meth : Method} {c : Code} {G : hy_G} {A : Nat → Prop} {ad0 : Nat → Nat} {w0 : hy_W} {o : hy_O} (hl9 : l.flags = flags0) (hA : hy_A G ad0 w0 s.heap.size = A) (B : hy_B p l e (hy_rm 7 154 w0) s m args below meth c "HyphenPatternsLaw" b_X_breaks 4 (some .int) [(0, 16, 19, 13)] G A) (v0 : Nat) (v1 : Int32) (v2 : Nat) (w : hy_W) (nx : hy_N) (h : sg_X_breaks_0 v0 v1 v2 w = some nx) (K : hy_Nx lay_X_breaks p l e (hy_rm 7 154 w0) s m args below meth c 4 G A ad0 w0.1.length (hy_Q below G ad0 w0 o args s) o nx) : hy_At lay_X_breaks p l e (hy_rm 7 154 w0) s m args below meth c 4 G A ad0 w0.1.length (hy_Q below G ad0 w0 o args s) (0, [.ref v0, .int v1, .ref v2], w) := by
  intro ad H locs cells slots ls S hok hl
  have hx := B.1
  have hb := B.2.1
  dsimp only at S hok
  have hl : lv_has ls 4 [(0, .ref (ad v0)), (1, .int v1), (2, .ref (ad v2))] := hl
  show W p l e (hy_rm 7 154 w0) s m args below meth c H locs cells slots (hy_Q below G ad0 w0 o args s) (F0 m 0 ls [])
  have hv_v0 : v0 < w.1.length := hok (.ref v0) (List.mem_of_getElem? (i := 0) rfl) v0 rfl
  obtain ⟨a_v0, ha_v0⟩ : ∃ a, ad v0 = a := ⟨_, rfl⟩
  rw [ha_v0] at hl
  have hv_v2 : v2 < w.1.length := hok (.ref v2) (List.mem_of_getElem? (i := 2) rfl) v2 rfl
  obtain ⟨a_v2, ha_v2⟩ : ∃ a, ad v2 = a := ⟨_, rfl⟩
  rw [ha_v2] at hl
  unfold sg_X_breaks_0 at h
  refine lv_aload_n hx hb d_X_breaks_0 rfl (lv_at hl 2 rfl) ?_
  refine lv_iconst (v := 0) hx hb d_X_breaks_1 (by decide) ?_
  refine lv_aload_n hx hb d_X_breaks_2 rfl (lv_at hl 0 rfl) ?_
  refine lv_iload_n hx hb d_X_breaks_3 rfl (lv_at hl 1 rfl) ?_
  obtain ⟨ob4, h⟩ := hy_if h
  obtain ⟨fs_ob4, hf_ob4, hg_ob4⟩ := hy_ob_spec ob4
  rcases hy_xi_spec h with ⟨x3, w1, hq_w1, h⟩ | ⟨E6, w7, hq_w7, h⟩
  · refine hy_calli (hy_runV (rest := [.int 0, .ref a_v2]) (As := [.int v1]) (r := v0) (b := a_v0) B S rfl ha_v0 (by rfl) (c_H_breaks hl9 G ad hq_w1) (hy_okr (by omega) (hy_oki hy_ok0)) tw_642 tw_1 tw_639 tw_640 sl_H_breaks (by decide) rfl (Nat.le_of_ble_eq_true rfl) (Nat.le_of_ble_eq_true rfl) hf_ob4 hg_ob4 rfl hl.1 (Nat.le_of_ble_eq_true rfl) d_X_breaks_4) (fun ad2 H locs cells slots hag hl_w1 S => ?_)
    have ha_v0 : ad2 v0 = a_v0 := (hag v0 (by omega)).trans ha_v0
    have ha_v2 : ad2 v2 = a_v2 := (hag v2 (by omega)).trans ha_v2
    refine lv_if_eq (tgt := 14) hx hb d_X_breaks_7 (by decide) (fun c5 => ?_) (fun c5 => ?_)
    · rw [if_pos c5] at h
      refine lv_lconst (v := 0) hx hb d_X_breaks_14 (by decide) ?_
      cases h
      exact hy_jump K S (hy_okl (hy_oki (hy_okr (by omega) hy_ok0))) (lv_sub hl [] rfl) (by subst ha_v2; rfl) (by subst ha_v2; rfl)
    · rw [if_neg c5] at h
      refine lv_lconst (v := 1) hx hb d_X_breaks_10 (by decide) ?_
      refine lv_goto (tgt := 15) hx hb d_X_breaks_11 (by decide) ?_
      cases h
      exact hy_jump K S (hy_okl (hy_oki (hy_okr (by omega) hy_ok0))) (lv_sub hl [] rfl) (by subst ha_v2; rfl) (by subst ha_v2; rfl)
  · by_cases c11 : E6 = "java/lang/IndexOutOfBoundsException"
    · rw [if_pos c11] at h
      subst c11
      refine hy_callT (rest := [.int 0, .ref a_v2]) (As := [.int v1]) (r := v0) (b := a_v0) B S rfl ha_v0 (by rfl) (c_H_breaks hl9 G ad hq_w7) (hy_okr (by omega) (hy_oki hy_ok0)) tw_642 tw_1 tw_639 tw_640 sl_H_breaks (by decide) rfl (Nat.le_of_ble_eq_true rfl) (Nat.le_of_ble_eq_true rfl) hf_ob4 hg_ob4 rfl hl.1 (Nat.le_of_ble_eq_true rfl) d_X_breaks_4 (fun ad8 H locs cells slots q9 ce10 hag hl_w7 S z1 z2 z3 => ?_)
      have ha_v0 : ad8 v0 = a_v0 := (hag v0 (by omega)).trans ha_v0
      have ha_v2 : ad8 v2 = a_v2 := (hag v2 (by omega)).trans ha_v2
      refine hy_catch1 B (Nat.le_of_ble_eq_true rfl) (Nat.le_of_ble_eq_true rfl) (by decide) tw_310 (by decide +kernel) z1 z2 z3 ?_
      refine lv_astore_n (lv' := [(3, .ref q9), (0, .ref a_v0), (1, .int v1), (2, .ref a_v2)]) hx hb d_X_breaks_19 rfl hl (Nat.le_of_ble_eq_true rfl) rfl (fun ls hl => ?_)
      refine lv_iconst (v := 1) hx hb d_X_breaks_20 (by decide) ?_
      cases h
      cases K
      exact hy_iret hA B S d_X_breaks_21
    rw [if_neg c11] at h
    cases h
set_option maxHeartbeats 4000000 in
set_option maxRecDepth 100000 in
theorem sk_X_breaks_15 {p : Program} {l : Launch} {e : Env} {s : State} {m : MethodId} {args : Array Value} {below : List Frame} {meth : Method} {c : Code} {G : hy_G} {A : Nat → Prop} {ad0 : Nat → Nat} {w0 : hy_W} {o : hy_O} (hl9 : l.flags = flags0) (hA : hy_A G ad0 w0 s.heap.size = A) (B : hy_B p l e (hy_rm 7 154 w0) s m args below meth c "HyphenPatternsLaw" b_X_breaks 4 (some .int) [(0, 16, 19, 13)] G A) (s0 : Int64) (s1 : Int32) (s2 : Nat) (w : hy_W) (nx : hy_N) (h : sg_X_breaks_15 s0 s1 s2 w = some nx) (K : hy_Nx lay_X_breaks p l e (hy_rm 7 154 w0) s m args below meth c 4 G A ad0 w0.1.length (hy_Q below G ad0 w0 o args s) o nx) : hy_At lay_X_breaks p l e (hy_rm 7 154 w0) s m args below meth c 4 G A ad0 w0.1.length (hy_Q below G ad0 w0 o args s) (15, [.long s0, .int s1, .ref s2], w) := by
  intro ad H locs cells slots ls S hok hl
  have hx := B.1
  have hb := B.2.1
  dsimp only at S hok
  have hl : lv_has ls 4 [] := hl
  show W p l e (hy_rm 7 154 w0) s m args below meth c H locs cells slots (hy_Q below G ad0 w0 o args s) (F0 m 15 ls [.long s0, .int s1, .ref (ad s2)])
  have hv_s2 : s2 < w.1.length := hok (.ref s2) (List.mem_of_getElem? (i := 2) rfl) s2 rfl
  obtain ⟨a_s2, ha_s2⟩ : ∃ a, ad s2 = a := ⟨_, rfl⟩
  rw [ha_s2]
  unfold sg_X_breaks_15 at h
  obtain ⟨w1, hw1, h⟩ := hy_bd h
  refine hy_last B S ha_s2 hw1 d_X_breaks_15 (fun H locs S hl_w1 => ?_)
  refine lv_goto (tgt := 22) hx hb d_X_breaks_16 (by decide) ?_
  refine lv_iconst (v := 0) hx hb d_X_breaks_22 (by decide) ?_
  cases h
  cases K
  exact hy_iret hA B S d_X_breaks_23
theorem nk_X_breaks {p : Program} {l : Launch} {e : Env} {s : State} {m : MethodId} {args : Array Value} {below : List Frame} {meth : Method} {c : Code} {G : hy_G} {A : Nat → Prop} {ad0 : Nat → Nat} {w0 : hy_W} {o : hy_O} (hl9 : l.flags = flags0) (hA : hy_A G ad0 w0 s.heap.size = A) (B : hy_B p l e (hy_rm 7 154 w0) s m args below meth c "HyphenPatternsLaw" b_X_breaks 4 (some .int) [(0, 16, 19, 13)] G A) (q : hy_P) (nx : hy_N) (hq : nx_X_breaks q = some nx) (K : hy_Nx lay_X_breaks p l e (hy_rm 7 154 w0) s m args below meth c 4 G A ad0 w0.1.length (hy_Q below G ad0 w0 o args s) o nx) : hy_At lay_X_breaks p l e (hy_rm 7 154 w0) s m args below meth c 4 G A ad0 w0.1.length (hy_Q below G ad0 w0 o args s) q := by
  unfold nx_X_breaks at hq
  split at hq
  · exact sk_X_breaks_0 hl9 hA B _ _ _ _ nx hq K
  · exact sk_X_breaks_15 hl9 hA B _ _ _ _ nx hq K
  · cases hq
theorem c_X_breaks {l : Launch} (hl9 : l.flags = flags0) (G : hy_G) (ad : Nat → Nat) {v0 : Nat} {v1 : Int32} {v2 : Nat} {w : hy_W} {o : hy_O} (h : f_X_breaks [.ref v0, .int v1, .ref v2] w = some o) : hy_M l y_X_breaks (Cond.codeWith y_X_breaks b_X_breaks 4 (some .int) [(0, 16, 19, 13)] :: hy_T) 7 154 G ad [.ref v0, .int v1, .ref v2] w o := by
  obtain ⟨n, hn⟩ := hy_fx_iff.mp h
  refine hy_ofWW hl9 (by decide +kernel) (Nat.le_of_ble_eq_true rfl) (fun p e s m args below meth c A hA B S hok ls hl => ?_)
  exact hy_loop (nk_X_breaks hl9 hA B) n _ hn ad s.heap [] 0 0 ls S hok hl
theorem d_M_init_0 : decode b_M_init 0 = .ok (.aload_n 0, 1) := by decide +kernel
theorem d_M_init_1 : decode b_M_init 1 = .ok (.invokespecial 1, 3) := by decide +kernel
theorem d_M_init_4 : decode b_M_init 4 = .ok (.aload_n 0, 1) := by decide +kernel
theorem d_M_init_5 : decode b_M_init 5 = .ok (.iconst 4, 1) := by decide +kernel
theorem d_M_init_6 : decode b_M_init 6 = .ok (.newarray .int, 2) := by decide +kernel
theorem d_M_init_8 : decode b_M_init 8 = .ok (.putfield 7, 3) := by decide +kernel
theorem d_M_init_11 : decode b_M_init 11 = .ok (.aload_n 0, 1) := by decide +kernel
theorem d_M_init_12 : decode b_M_init 12 = .ok (.bipush 80, 2) := by decide +kernel
theorem d_M_init_14 : decode b_M_init 14 = .ok (.newarray .int, 2) := by decide +kernel
theorem d_M_init_16 : decode b_M_init 16 = .ok (.putfield 13, 3) := by decide +kernel
theorem d_M_init_19 : decode b_M_init 19 = .ok (.aload_n 0, 1) := by decide +kernel
theorem d_M_init_20 : decode b_M_init 20 = .ok (.bipush 80, 2) := by decide +kernel
theorem d_M_init_22 : decode b_M_init 22 = .ok (.newarray .int, 2) := by decide +kernel
theorem d_M_init_24 : decode b_M_init 24 = .ok (.putfield 16, 3) := by decide +kernel
theorem d_M_init_27 : decode b_M_init 27 = .ok (.aload_n 0, 1) := by decide +kernel
theorem d_M_init_28 : decode b_M_init 28 = .ok (.bipush 80, 2) := by decide +kernel
theorem d_M_init_30 : decode b_M_init 30 = .ok (.newarray .int, 2) := by decide +kernel
theorem d_M_init_32 : decode b_M_init 32 = .ok (.putfield 19, 3) := by decide +kernel
theorem d_M_init_35 : decode b_M_init 35 = .ok (.aload_n 0, 1) := by decide +kernel
theorem d_M_init_36 : decode b_M_init 36 = .ok (.iconst 4, 1) := by decide +kernel
theorem d_M_init_37 : decode b_M_init 37 = .ok (.newarray .int, 2) := by decide +kernel
theorem d_M_init_39 : decode b_M_init 39 = .ok (.putfield 22, 3) := by decide +kernel
theorem d_M_init_42 : decode b_M_init 42 = .ok (.aload_n 0, 1) := by decide +kernel
theorem d_M_init_43 : decode b_M_init 43 = .ok (.iconst 4, 1) := by decide +kernel
theorem d_M_init_44 : decode b_M_init 44 = .ok (.newarray .int, 2) := by decide +kernel
theorem d_M_init_46 : decode b_M_init 46 = .ok (.putfield 25, 3) := by decide +kernel
theorem d_M_init_49 : decode b_M_init 49 = .ok (.aload_n 0, 1) := by decide +kernel
theorem d_M_init_50 : decode b_M_init 50 = .ok (.bipush 40, 2) := by decide +kernel
theorem d_M_init_52 : decode b_M_init 52 = .ok (.newarray .int, 2) := by decide +kernel
theorem d_M_init_54 : decode b_M_init 54 = .ok (.putfield 28, 3) := by decide +kernel
theorem d_M_init_57 : decode b_M_init 57 = .ok (.aload_n 0, 1) := by decide +kernel
theorem d_M_init_58 : decode b_M_init 58 = .ok (.iconst 5, 1) := by decide +kernel
theorem d_M_init_59 : decode b_M_init 59 = .ok (.newarray .int, 2) := by decide +kernel
theorem d_M_init_61 : decode b_M_init 61 = .ok (.putfield 31, 3) := by decide +kernel
theorem d_M_init_64 : decode b_M_init 64 = .ok (.aload_n 0, 1) := by decide +kernel
theorem d_M_init_65 : decode b_M_init 65 = .ok (.bipush 40, 2) := by decide +kernel
theorem d_M_init_67 : decode b_M_init 67 = .ok (.newarray .int, 2) := by decide +kernel
theorem d_M_init_69 : decode b_M_init 69 = .ok (.putfield 34, 3) := by decide +kernel
theorem d_M_init_72 : decode b_M_init 72 = .ok (.aload_n 0, 1) := by decide +kernel
theorem d_M_init_73 : decode b_M_init 73 = .ok (.bipush 41, 2) := by decide +kernel
theorem d_M_init_75 : decode b_M_init 75 = .ok (.newarray .int, 2) := by decide +kernel
theorem d_M_init_77 : decode b_M_init 77 = .ok (.putfield 37, 3) := by decide +kernel
theorem d_M_init_80 : decode b_M_init 80 = .ok (.aload_n 0, 1) := by decide +kernel
theorem d_M_init_81 : decode b_M_init 81 = .ok (.sipush 300, 3) := by decide +kernel
theorem d_M_init_84 : decode b_M_init 84 = .ok (.newarray .int, 2) := by decide +kernel
theorem d_M_init_86 : decode b_M_init 86 = .ok (.putfield 40, 3) := by decide +kernel
theorem d_M_init_89 : decode b_M_init 89 = .ok (.aload_n 0, 1) := by decide +kernel
theorem d_M_init_90 : decode b_M_init 90 = .ok (.sipush 300, 3) := by decide +kernel
theorem d_M_init_93 : decode b_M_init 93 = .ok (.newarray .int, 2) := by decide +kernel
theorem d_M_init_95 : decode b_M_init 95 = .ok (.putfield 43, 3) := by decide +kernel
theorem d_M_init_98 : decode b_M_init 98 = .ok (.aload_n 0, 1) := by decide +kernel
theorem d_M_init_99 : decode b_M_init 99 = .ok (.sipush 4800, 3) := by decide +kernel
theorem d_M_init_102 : decode b_M_init 102 = .ok (.newarray .int, 2) := by decide +kernel
theorem d_M_init_104 : decode b_M_init 104 = .ok (.putfield 46, 3) := by decide +kernel
theorem d_M_init_107 : decode b_M_init 107 = .ok (.aload_n 0, 1) := by decide +kernel
theorem d_M_init_108 : decode b_M_init 108 = .ok (.sipush 5100, 3) := by decide +kernel
theorem d_M_init_111 : decode b_M_init 111 = .ok (.newarray .int, 2) := by decide +kernel
theorem d_M_init_113 : decode b_M_init 113 = .ok (.putfield 49, 3) := by decide +kernel
theorem d_M_init_116 : decode b_M_init 116 = .ok (.aload_n 0, 1) := by decide +kernel
theorem d_M_init_117 : decode b_M_init 117 = .ok (.bipush 40, 2) := by decide +kernel
theorem d_M_init_119 : decode b_M_init 119 = .ok (.newarray .int, 2) := by decide +kernel
theorem d_M_init_121 : decode b_M_init 121 = .ok (.putfield 52, 3) := by decide +kernel
theorem d_M_init_124 : decode b_M_init 124 = .ok (.aload_n 0, 1) := by decide +kernel
theorem d_M_init_125 : decode b_M_init 125 = .ok (.bipush 40, 2) := by decide +kernel
theorem d_M_init_127 : decode b_M_init 127 = .ok (.newarray .int, 2) := by decide +kernel
theorem d_M_init_129 : decode b_M_init 129 = .ok (.putfield 55, 3) := by decide +kernel
theorem d_M_init_132 : decode b_M_init 132 = .ok (.aload_n 0, 1) := by decide +kernel
theorem d_M_init_133 : decode b_M_init 133 = .ok (.sipush 1600, 3) := by decide +kernel
theorem d_M_init_136 : decode b_M_init 136 = .ok (.newarray .int, 2) := by decide +kernel
theorem d_M_init_138 : decode b_M_init 138 = .ok (.putfield 58, 3) := by decide +kernel
theorem d_M_init_141 : decode b_M_init 141 = .ok (.aload_n 0, 1) := by decide +kernel
theorem d_M_init_142 : decode b_M_init 142 = .ok (.sipush 1640, 3) := by decide +kernel
theorem d_M_init_145 : decode b_M_init 145 = .ok (.newarray .int, 2) := by decide +kernel
theorem d_M_init_147 : decode b_M_init 147 = .ok (.putfield 61, 3) := by decide +kernel
theorem d_M_init_150 : decode b_M_init 150 = .ok (.aload_n 0, 1) := by decide +kernel
theorem d_M_init_151 : decode b_M_init 151 = .ok (.sipush 400, 3) := by decide +kernel
theorem d_M_init_154 : decode b_M_init 154 = .ok (.newarray .int, 2) := by decide +kernel
theorem d_M_init_156 : decode b_M_init 156 = .ok (.putfield 64, 3) := by decide +kernel
theorem d_M_init_159 : decode b_M_init 159 = .ok (.iconst 0, 1) := by decide +kernel
theorem d_M_init_160 : decode b_M_init 160 = .ok (.istore_n 1, 1) := by decide +kernel
theorem d_M_init_161 : decode b_M_init 161 = .ok (.iload_n 1, 1) := by decide +kernel
theorem d_M_init_162 : decode b_M_init 162 = .ok (.iconst 4, 1) := by decide +kernel
theorem d_M_init_163 : decode b_M_init 163 = .ok (.if_icmp .ge 23, 3) := by decide +kernel
theorem d_M_init_166 : decode b_M_init 166 = .ok (.aload_n 0, 1) := by decide +kernel
theorem d_M_init_167 : decode b_M_init 167 = .ok (.getfield 22, 3) := by decide +kernel
theorem d_M_init_170 : decode b_M_init 170 = .ok (.iload_n 1, 1) := by decide +kernel
theorem d_M_init_171 : decode b_M_init 171 = .ok (.iconst 2, 1) := by decide +kernel
theorem d_M_init_172 : decode b_M_init 172 = .ok (.iastore, 1) := by decide +kernel
theorem d_M_init_173 : decode b_M_init 173 = .ok (.aload_n 0, 1) := by decide +kernel
theorem d_M_init_174 : decode b_M_init 174 = .ok (.getfield 25, 3) := by decide +kernel
theorem d_M_init_177 : decode b_M_init 177 = .ok (.iload_n 1, 1) := by decide +kernel
theorem d_M_init_178 : decode b_M_init 178 = .ok (.iconst 3, 1) := by decide +kernel
theorem d_M_init_179 : decode b_M_init 179 = .ok (.iastore, 1) := by decide +kernel
theorem d_M_init_180 : decode b_M_init 180 = .ok (.iinc 1 1, 3) := by decide +kernel
theorem d_M_init_183 : decode b_M_init 183 = .ok (.goto (-22), 3) := by decide +kernel
theorem d_M_init_186 : decode b_M_init 186 = .ok (.return_, 1) := by decide +kernel
def lay_M_init (pc : Nat) : List Nat := if pc = 0 then [0] else if pc = 161 then [0, 1] else []
noncomputable def sg_M_init_0 (v0 : Nat) (w : hy_W) : Option hy_N := (hy_na w 0 4).bind fun w1 => (hy_pf w1 v0 6 2 (.ref w.1.length)).bind fun w4 => (hy_na w4 0 80).bind fun w5 => (hy_pf w5 v0 6 3 (.ref w4.1.length)).bind fun w8 => (hy_na w8 0 80).bind fun w9 => (hy_pf w9 v0 6 4 (.ref w8.1.length)).bind fun w12 => (hy_na w12 0 80).bind fun w13 => (hy_pf w13 v0 6 5 (.ref w12.1.length)).bind fun w16 => (hy_na w16 0 4).bind fun w17 => (hy_pf w17 v0 6 6 (.ref w16.1.length)).bind fun w20 => (hy_na w20 0 4).bind fun w21 => (hy_pf w21 v0 6 7 (.ref w20.1.length)).bind fun w24 => (hy_na w24 0 40).bind fun w25 => (hy_pf w25 v0 6 9 (.ref w24.1.length)).bind fun w28 => (hy_na w28 0 5).bind fun w29 => (hy_pf w29 v0 6 10 (.ref w28.1.length)).bind fun w32 => (hy_na w32 0 40).bind fun w33 => (hy_pf w33 v0 6 12 (.ref w32.1.length)).bind fun w36 => (hy_na w36 0 41).bind fun w37 => (hy_pf w37 v0 6 13 (.ref w36.1.length)).bind fun w40 => (hy_na w40 0 300).bind fun w41 => (hy_pf w41 v0 6 15 (.ref w40.1.length)).bind fun w44 => (hy_na w44 0 300).bind fun w45 => (hy_pf w45 v0 6 16 (.ref w44.1.length)).bind fun w48 => (hy_na w48 0 4800).bind fun w49 => (hy_pf w49 v0 6 17 (.ref w48.1.length)).bind fun w52 => (hy_na w52 0 5100).bind fun w53 => (hy_pf w53 v0 6 18 (.ref w52.1.length)).bind fun w56 => (hy_na w56 0 40).bind fun w57 => (hy_pf w57 v0 6 20 (.ref w56.1.length)).bind fun w60 => (hy_na w60 0 40).bind fun w61 => (hy_pf w61 v0 6 21 (.ref w60.1.length)).bind fun w64 => (hy_na w64 0 1600).bind fun w65 => (hy_pf w65 v0 6 22 (.ref w64.1.length)).bind fun w68 => (hy_na w68 0 1640).bind fun w69 => (hy_pf w69 v0 6 23 (.ref w68.1.length)).bind fun w72 => (hy_na w72 0 400).bind fun w73 => (hy_pf w73 v0 6 25 (.ref w72.1.length)).bind fun w76 => some (.inl (161, [.ref v0, .int 0], w76))
noncomputable def sg_M_init_161 (v0 : Nat) (v1 : Int32) (w : hy_W) : Option hy_N := if (4 : Int32) ≤ v1 then (some (.inr (.inl none, w))) else ((hy_gr w v0 6 6).bind fun r2 => (hy_pa w 0 r2 v1 (.int 2)).bind fun w3 => (hy_gr w3 v0 6 7).bind fun r4 => (hy_pa w3 0 r4 v1 (.int 3)).bind fun w5 => some (.inl (161, [.ref v0, .int (v1 + 1)], w5)))
noncomputable def nx_M_init (q : hy_P) : Option hy_N := match q with
  | (0, [.ref v0], w) => sg_M_init_0 v0 w
  | (161, [.ref v0, .int v1], w) => sg_M_init_161 v0 v1 w
  | _ => none
noncomputable def f_M_init (av : List Value) (w : hy_W) : Option hy_O := hy_fx nx_M_init (0, av, w)
set_option maxHeartbeats 4000000 in
set_option maxRecDepth 100000 in
theorem sk_M_init_0 {p : Program} {l : Launch} {e : Env} {s : State} {m : MethodId} {args : Array Value} {below : List Frame} {meth : Method} {c : Code} {G : hy_G} {A : Nat → Prop} {ad0 : Nat → Nat} {w0 : hy_W} {o : hy_O} (hl9 : l.flags = flags0) (hA : hy_A G ad0 w0 s.heap.size = A) (hi : meth.name = "<init>") (B : hy_B p l e (hy_rm 1 12 w0) s m args below meth c "HyphenPatternsModel" b_M_init 2 none [] G A) (v0 : Nat) (w : hy_W) (nx : hy_N) (h : sg_M_init_0 v0 w = some nx) (K : hy_Nx lay_M_init p l e (hy_rm 1 12 w0) s m args below meth c 2 G A ad0 w0.1.length (hy_Q below G ad0 w0 o args s) o nx) : hy_At lay_M_init p l e (hy_rm 1 12 w0) s m args below meth c 2 G A ad0 w0.1.length (hy_Q below G ad0 w0 o args s) (0, [.ref v0], w) := by
  intro ad H locs cells slots ls S hok hl
  have hx := B.1
  have hb := B.2.1
  dsimp only at S hok
  have hl : lv_has ls 2 [(0, .ref (ad v0))] := hl
  show W p l e (hy_rm 1 12 w0) s m args below meth c H locs cells slots (hy_Q below G ad0 w0 o args s) (F0 m 0 ls [])
  have hv_v0 : v0 < w.1.length := hok (.ref v0) (List.mem_of_getElem? (i := 0) rfl) v0 rfl
  obtain ⟨a_v0, ha_v0⟩ : ∃ a, ad v0 = a := ⟨_, rfl⟩
  rw [ha_v0] at hl
  unfold sg_M_init_0 at h
  refine lv_aload_n hx hb d_M_init_0 rfl (lv_at hl 0 rfl) ?_
  refine W.objInit hx hb B.2.2.2.1 (B.2.2.2.2.1 _ tw_649) (B.2.2.2.2.1 _ tw_29) (B.2.2.2.2.1 _ tw_30) rfl (by rw [B.2.2.1]; exact hl.1) rfl d_M_init_1 (Nat.le_of_ble_eq_true rfl) (Nat.le_of_ble_eq_true rfl) ?_
  refine W.eq (g2 := F0 m 4 ls []) rfl ?_
  refine lv_aload_n hx hb d_M_init_4 rfl (lv_at hl 0 rfl) ?_
  refine lv_iconst (v := 4) hx hb d_M_init_5 (by decide) ?_
  obtain ⟨w1, hw1, h⟩ := hy_bd h
  refine hy_newi B S hw1 d_M_init_6 (fun ad2 a_q3 H _ hag ha_q3 S hl_w1 => ?_)
  have ha_v0 : ad2 v0 = a_v0 := (hag v0 (by omega)).trans ha_v0
  obtain ⟨w4, hw4, h⟩ := hy_bd h
  refine hy_putF hi B S ha_v0 (by rw [hy_v_ref, ha_q3]) (hy_cvr (by omega)) hw4 rfl (Nat.le_of_ble_eq_true rfl) i_6 t_6 t_6_ok n_6 (j := 2) tw_652 (fun _ h => h) rfl rfl rfl rfl d_M_init_8 (fun H locs S hl_w4 => ?_)
  refine lv_aload_n hx hb d_M_init_11 rfl (lv_at hl 0 rfl) ?_
  refine lv_bipush (v := 80) hx hb d_M_init_12 (by decide) ?_
  obtain ⟨w5, hw5, h⟩ := hy_bd h
  refine hy_newi B S hw5 d_M_init_14 (fun ad6 a_q7 H _ hag ha_q7 S hl_w5 => ?_)
  have ha_v0 : ad6 v0 = a_v0 := (hag v0 (by omega)).trans ha_v0
  obtain ⟨w8, hw8, h⟩ := hy_bd h
  refine hy_putF hi B S ha_v0 (by rw [hy_v_ref, ha_q7]) (hy_cvr (by omega)) hw8 rfl (Nat.le_of_ble_eq_true rfl) i_6 t_6 t_6_ok n_6 (j := 3) tw_653 (fun _ h => h) rfl rfl rfl rfl d_M_init_16 (fun H locs S hl_w8 => ?_)
  refine lv_aload_n hx hb d_M_init_19 rfl (lv_at hl 0 rfl) ?_
  refine lv_bipush (v := 80) hx hb d_M_init_20 (by decide) ?_
  obtain ⟨w9, hw9, h⟩ := hy_bd h
  refine hy_newi B S hw9 d_M_init_22 (fun ad10 a_q11 H _ hag ha_q11 S hl_w9 => ?_)
  have ha_v0 : ad10 v0 = a_v0 := (hag v0 (by omega)).trans ha_v0
  obtain ⟨w12, hw12, h⟩ := hy_bd h
  refine hy_putF hi B S ha_v0 (by rw [hy_v_ref, ha_q11]) (hy_cvr (by omega)) hw12 rfl (Nat.le_of_ble_eq_true rfl) i_6 t_6 t_6_ok n_6 (j := 4) tw_654 (fun _ h => h) rfl rfl rfl rfl d_M_init_24 (fun H locs S hl_w12 => ?_)
  refine lv_aload_n hx hb d_M_init_27 rfl (lv_at hl 0 rfl) ?_
  refine lv_bipush (v := 80) hx hb d_M_init_28 (by decide) ?_
  obtain ⟨w13, hw13, h⟩ := hy_bd h
  refine hy_newi B S hw13 d_M_init_30 (fun ad14 a_q15 H _ hag ha_q15 S hl_w13 => ?_)
  have ha_v0 : ad14 v0 = a_v0 := (hag v0 (by omega)).trans ha_v0
  obtain ⟨w16, hw16, h⟩ := hy_bd h
  refine hy_putF hi B S ha_v0 (by rw [hy_v_ref, ha_q15]) (hy_cvr (by omega)) hw16 rfl (Nat.le_of_ble_eq_true rfl) i_6 t_6 t_6_ok n_6 (j := 5) tw_655 (fun _ h => h) rfl rfl rfl rfl d_M_init_32 (fun H locs S hl_w16 => ?_)
  refine lv_aload_n hx hb d_M_init_35 rfl (lv_at hl 0 rfl) ?_
  refine lv_iconst (v := 4) hx hb d_M_init_36 (by decide) ?_
  obtain ⟨w17, hw17, h⟩ := hy_bd h
  refine hy_newi B S hw17 d_M_init_37 (fun ad18 a_q19 H _ hag ha_q19 S hl_w17 => ?_)
  have ha_v0 : ad18 v0 = a_v0 := (hag v0 (by omega)).trans ha_v0
  obtain ⟨w20, hw20, h⟩ := hy_bd h
  refine hy_putF hi B S ha_v0 (by rw [hy_v_ref, ha_q19]) (hy_cvr (by omega)) hw20 rfl (Nat.le_of_ble_eq_true rfl) i_6 t_6 t_6_ok n_6 (j := 6) tw_656 (fun _ h => h) rfl rfl rfl rfl d_M_init_39 (fun H locs S hl_w20 => ?_)
  refine lv_aload_n hx hb d_M_init_42 rfl (lv_at hl 0 rfl) ?_
  refine lv_iconst (v := 4) hx hb d_M_init_43 (by decide) ?_
  obtain ⟨w21, hw21, h⟩ := hy_bd h
  refine hy_newi B S hw21 d_M_init_44 (fun ad22 a_q23 H _ hag ha_q23 S hl_w21 => ?_)
  have ha_v0 : ad22 v0 = a_v0 := (hag v0 (by omega)).trans ha_v0
  obtain ⟨w24, hw24, h⟩ := hy_bd h
  refine hy_putF hi B S ha_v0 (by rw [hy_v_ref, ha_q23]) (hy_cvr (by omega)) hw24 rfl (Nat.le_of_ble_eq_true rfl) i_6 t_6 t_6_ok n_6 (j := 7) tw_657 (fun _ h => h) rfl rfl rfl rfl d_M_init_46 (fun H locs S hl_w24 => ?_)
  refine lv_aload_n hx hb d_M_init_49 rfl (lv_at hl 0 rfl) ?_
  refine lv_bipush (v := 40) hx hb d_M_init_50 (by decide) ?_
  obtain ⟨w25, hw25, h⟩ := hy_bd h
  refine hy_newi B S hw25 d_M_init_52 (fun ad26 a_q27 H _ hag ha_q27 S hl_w25 => ?_)
  have ha_v0 : ad26 v0 = a_v0 := (hag v0 (by omega)).trans ha_v0
  obtain ⟨w28, hw28, h⟩ := hy_bd h
  refine hy_putF hi B S ha_v0 (by rw [hy_v_ref, ha_q27]) (hy_cvr (by omega)) hw28 rfl (Nat.le_of_ble_eq_true rfl) i_6 t_6 t_6_ok n_6 (j := 9) tw_659 (fun _ h => h) rfl rfl rfl rfl d_M_init_54 (fun H locs S hl_w28 => ?_)
  refine lv_aload_n hx hb d_M_init_57 rfl (lv_at hl 0 rfl) ?_
  refine lv_iconst (v := 5) hx hb d_M_init_58 (by decide) ?_
  obtain ⟨w29, hw29, h⟩ := hy_bd h
  refine hy_newi B S hw29 d_M_init_59 (fun ad30 a_q31 H _ hag ha_q31 S hl_w29 => ?_)
  have ha_v0 : ad30 v0 = a_v0 := (hag v0 (by omega)).trans ha_v0
  obtain ⟨w32, hw32, h⟩ := hy_bd h
  refine hy_putF hi B S ha_v0 (by rw [hy_v_ref, ha_q31]) (hy_cvr (by omega)) hw32 rfl (Nat.le_of_ble_eq_true rfl) i_6 t_6 t_6_ok n_6 (j := 10) tw_660 (fun _ h => h) rfl rfl rfl rfl d_M_init_61 (fun H locs S hl_w32 => ?_)
  refine lv_aload_n hx hb d_M_init_64 rfl (lv_at hl 0 rfl) ?_
  refine lv_bipush (v := 40) hx hb d_M_init_65 (by decide) ?_
  obtain ⟨w33, hw33, h⟩ := hy_bd h
  refine hy_newi B S hw33 d_M_init_67 (fun ad34 a_q35 H _ hag ha_q35 S hl_w33 => ?_)
  have ha_v0 : ad34 v0 = a_v0 := (hag v0 (by omega)).trans ha_v0
  obtain ⟨w36, hw36, h⟩ := hy_bd h
  refine hy_putF hi B S ha_v0 (by rw [hy_v_ref, ha_q35]) (hy_cvr (by omega)) hw36 rfl (Nat.le_of_ble_eq_true rfl) i_6 t_6 t_6_ok n_6 (j := 12) tw_662 (fun _ h => h) rfl rfl rfl rfl d_M_init_69 (fun H locs S hl_w36 => ?_)
  refine lv_aload_n hx hb d_M_init_72 rfl (lv_at hl 0 rfl) ?_
  refine lv_bipush (v := 41) hx hb d_M_init_73 (by decide) ?_
  obtain ⟨w37, hw37, h⟩ := hy_bd h
  refine hy_newi B S hw37 d_M_init_75 (fun ad38 a_q39 H _ hag ha_q39 S hl_w37 => ?_)
  have ha_v0 : ad38 v0 = a_v0 := (hag v0 (by omega)).trans ha_v0
  obtain ⟨w40, hw40, h⟩ := hy_bd h
  refine hy_putF hi B S ha_v0 (by rw [hy_v_ref, ha_q39]) (hy_cvr (by omega)) hw40 rfl (Nat.le_of_ble_eq_true rfl) i_6 t_6 t_6_ok n_6 (j := 13) tw_663 (fun _ h => h) rfl rfl rfl rfl d_M_init_77 (fun H locs S hl_w40 => ?_)
  refine lv_aload_n hx hb d_M_init_80 rfl (lv_at hl 0 rfl) ?_
  refine lv_sipush (v := 300) hx hb d_M_init_81 (by decide) ?_
  obtain ⟨w41, hw41, h⟩ := hy_bd h
  refine hy_newi B S hw41 d_M_init_84 (fun ad42 a_q43 H _ hag ha_q43 S hl_w41 => ?_)
  have ha_v0 : ad42 v0 = a_v0 := (hag v0 (by omega)).trans ha_v0
  obtain ⟨w44, hw44, h⟩ := hy_bd h
  refine hy_putF hi B S ha_v0 (by rw [hy_v_ref, ha_q43]) (hy_cvr (by omega)) hw44 rfl (Nat.le_of_ble_eq_true rfl) i_6 t_6 t_6_ok n_6 (j := 15) tw_665 (fun _ h => h) rfl rfl rfl rfl d_M_init_86 (fun H locs S hl_w44 => ?_)
  refine lv_aload_n hx hb d_M_init_89 rfl (lv_at hl 0 rfl) ?_
  refine lv_sipush (v := 300) hx hb d_M_init_90 (by decide) ?_
  obtain ⟨w45, hw45, h⟩ := hy_bd h
  refine hy_newi B S hw45 d_M_init_93 (fun ad46 a_q47 H _ hag ha_q47 S hl_w45 => ?_)
  have ha_v0 : ad46 v0 = a_v0 := (hag v0 (by omega)).trans ha_v0
  obtain ⟨w48, hw48, h⟩ := hy_bd h
  refine hy_putF hi B S ha_v0 (by rw [hy_v_ref, ha_q47]) (hy_cvr (by omega)) hw48 rfl (Nat.le_of_ble_eq_true rfl) i_6 t_6 t_6_ok n_6 (j := 16) tw_666 (fun _ h => h) rfl rfl rfl rfl d_M_init_95 (fun H locs S hl_w48 => ?_)
  refine lv_aload_n hx hb d_M_init_98 rfl (lv_at hl 0 rfl) ?_
  refine lv_sipush (v := 4800) hx hb d_M_init_99 (by decide) ?_
  obtain ⟨w49, hw49, h⟩ := hy_bd h
  refine hy_newi B S hw49 d_M_init_102 (fun ad50 a_q51 H _ hag ha_q51 S hl_w49 => ?_)
  have ha_v0 : ad50 v0 = a_v0 := (hag v0 (by omega)).trans ha_v0
  obtain ⟨w52, hw52, h⟩ := hy_bd h
  refine hy_putF hi B S ha_v0 (by rw [hy_v_ref, ha_q51]) (hy_cvr (by omega)) hw52 rfl (Nat.le_of_ble_eq_true rfl) i_6 t_6 t_6_ok n_6 (j := 17) tw_667 (fun _ h => h) rfl rfl rfl rfl d_M_init_104 (fun H locs S hl_w52 => ?_)
  refine lv_aload_n hx hb d_M_init_107 rfl (lv_at hl 0 rfl) ?_
  refine lv_sipush (v := 5100) hx hb d_M_init_108 (by decide) ?_
  obtain ⟨w53, hw53, h⟩ := hy_bd h
  refine hy_newi B S hw53 d_M_init_111 (fun ad54 a_q55 H _ hag ha_q55 S hl_w53 => ?_)
  have ha_v0 : ad54 v0 = a_v0 := (hag v0 (by omega)).trans ha_v0
  obtain ⟨w56, hw56, h⟩ := hy_bd h
  refine hy_putF hi B S ha_v0 (by rw [hy_v_ref, ha_q55]) (hy_cvr (by omega)) hw56 rfl (Nat.le_of_ble_eq_true rfl) i_6 t_6 t_6_ok n_6 (j := 18) tw_668 (fun _ h => h) rfl rfl rfl rfl d_M_init_113 (fun H locs S hl_w56 => ?_)
  refine lv_aload_n hx hb d_M_init_116 rfl (lv_at hl 0 rfl) ?_
  refine lv_bipush (v := 40) hx hb d_M_init_117 (by decide) ?_
  obtain ⟨w57, hw57, h⟩ := hy_bd h
  refine hy_newi B S hw57 d_M_init_119 (fun ad58 a_q59 H _ hag ha_q59 S hl_w57 => ?_)
  have ha_v0 : ad58 v0 = a_v0 := (hag v0 (by omega)).trans ha_v0
  obtain ⟨w60, hw60, h⟩ := hy_bd h
  refine hy_putF hi B S ha_v0 (by rw [hy_v_ref, ha_q59]) (hy_cvr (by omega)) hw60 rfl (Nat.le_of_ble_eq_true rfl) i_6 t_6 t_6_ok n_6 (j := 20) tw_670 (fun _ h => h) rfl rfl rfl rfl d_M_init_121 (fun H locs S hl_w60 => ?_)
  refine lv_aload_n hx hb d_M_init_124 rfl (lv_at hl 0 rfl) ?_
  refine lv_bipush (v := 40) hx hb d_M_init_125 (by decide) ?_
  obtain ⟨w61, hw61, h⟩ := hy_bd h
  refine hy_newi B S hw61 d_M_init_127 (fun ad62 a_q63 H _ hag ha_q63 S hl_w61 => ?_)
  have ha_v0 : ad62 v0 = a_v0 := (hag v0 (by omega)).trans ha_v0
  obtain ⟨w64, hw64, h⟩ := hy_bd h
  refine hy_putF hi B S ha_v0 (by rw [hy_v_ref, ha_q63]) (hy_cvr (by omega)) hw64 rfl (Nat.le_of_ble_eq_true rfl) i_6 t_6 t_6_ok n_6 (j := 21) tw_671 (fun _ h => h) rfl rfl rfl rfl d_M_init_129 (fun H locs S hl_w64 => ?_)
  refine lv_aload_n hx hb d_M_init_132 rfl (lv_at hl 0 rfl) ?_
  refine lv_sipush (v := 1600) hx hb d_M_init_133 (by decide) ?_
  obtain ⟨w65, hw65, h⟩ := hy_bd h
  refine hy_newi B S hw65 d_M_init_136 (fun ad66 a_q67 H _ hag ha_q67 S hl_w65 => ?_)
  have ha_v0 : ad66 v0 = a_v0 := (hag v0 (by omega)).trans ha_v0
  obtain ⟨w68, hw68, h⟩ := hy_bd h
  refine hy_putF hi B S ha_v0 (by rw [hy_v_ref, ha_q67]) (hy_cvr (by omega)) hw68 rfl (Nat.le_of_ble_eq_true rfl) i_6 t_6 t_6_ok n_6 (j := 22) tw_672 (fun _ h => h) rfl rfl rfl rfl d_M_init_138 (fun H locs S hl_w68 => ?_)
  refine lv_aload_n hx hb d_M_init_141 rfl (lv_at hl 0 rfl) ?_
  refine lv_sipush (v := 1640) hx hb d_M_init_142 (by decide) ?_
  obtain ⟨w69, hw69, h⟩ := hy_bd h
  refine hy_newi B S hw69 d_M_init_145 (fun ad70 a_q71 H _ hag ha_q71 S hl_w69 => ?_)
  have ha_v0 : ad70 v0 = a_v0 := (hag v0 (by omega)).trans ha_v0
  obtain ⟨w72, hw72, h⟩ := hy_bd h
  refine hy_putF hi B S ha_v0 (by rw [hy_v_ref, ha_q71]) (hy_cvr (by omega)) hw72 rfl (Nat.le_of_ble_eq_true rfl) i_6 t_6 t_6_ok n_6 (j := 23) tw_673 (fun _ h => h) rfl rfl rfl rfl d_M_init_147 (fun H locs S hl_w72 => ?_)
  refine lv_aload_n hx hb d_M_init_150 rfl (lv_at hl 0 rfl) ?_
  refine lv_sipush (v := 400) hx hb d_M_init_151 (by decide) ?_
  obtain ⟨w73, hw73, h⟩ := hy_bd h
  refine hy_newi B S hw73 d_M_init_154 (fun ad74 a_q75 H _ hag ha_q75 S hl_w73 => ?_)
  have ha_v0 : ad74 v0 = a_v0 := (hag v0 (by omega)).trans ha_v0
  obtain ⟨w76, hw76, h⟩ := hy_bd h
  refine hy_putF hi B S ha_v0 (by rw [hy_v_ref, ha_q75]) (hy_cvr (by omega)) hw76 rfl (Nat.le_of_ble_eq_true rfl) i_6 t_6 t_6_ok n_6 (j := 25) tw_675 (fun _ h => h) rfl rfl rfl rfl d_M_init_156 (fun H locs S hl_w76 => ?_)
  refine lv_iconst (v := 0) hx hb d_M_init_159 (by decide) ?_
  refine lv_istore_n (lv' := [(1, .int 0), (0, .ref a_v0)]) hx hb d_M_init_160 rfl hl (Nat.le_of_ble_eq_true rfl) rfl (fun ls hl => ?_)
  cases h
  exact hy_jump K S (hy_okr (by omega) (hy_oki hy_ok0)) (lv_sub hl [1, 0] rfl) (by subst ha_v0; rfl) (by subst ha_v0; rfl)
set_option maxHeartbeats 4000000 in
set_option maxRecDepth 100000 in
theorem sk_M_init_161 {p : Program} {l : Launch} {e : Env} {s : State} {m : MethodId} {args : Array Value} {below : List Frame} {meth : Method} {c : Code} {G : hy_G} {A : Nat → Prop} {ad0 : Nat → Nat} {w0 : hy_W} {o : hy_O} (hl9 : l.flags = flags0) (hA : hy_A G ad0 w0 s.heap.size = A) (hi : meth.name = "<init>") (B : hy_B p l e (hy_rm 1 12 w0) s m args below meth c "HyphenPatternsModel" b_M_init 2 none [] G A) (v0 : Nat) (v1 : Int32) (w : hy_W) (nx : hy_N) (h : sg_M_init_161 v0 v1 w = some nx) (K : hy_Nx lay_M_init p l e (hy_rm 1 12 w0) s m args below meth c 2 G A ad0 w0.1.length (hy_Q below G ad0 w0 o args s) o nx) : hy_At lay_M_init p l e (hy_rm 1 12 w0) s m args below meth c 2 G A ad0 w0.1.length (hy_Q below G ad0 w0 o args s) (161, [.ref v0, .int v1], w) := by
  intro ad H locs cells slots ls S hok hl
  have hx := B.1
  have hb := B.2.1
  dsimp only at S hok
  have hl : lv_has ls 2 [(0, .ref (ad v0)), (1, .int v1)] := hl
  show W p l e (hy_rm 1 12 w0) s m args below meth c H locs cells slots (hy_Q below G ad0 w0 o args s) (F0 m 161 ls [])
  have hv_v0 : v0 < w.1.length := hok (.ref v0) (List.mem_of_getElem? (i := 0) rfl) v0 rfl
  obtain ⟨a_v0, ha_v0⟩ : ∃ a, ad v0 = a := ⟨_, rfl⟩
  rw [ha_v0] at hl
  unfold sg_M_init_161 at h
  refine lv_iload_n hx hb d_M_init_161 rfl (lv_at hl 1 rfl) ?_
  refine lv_iconst (v := 4) hx hb d_M_init_162 (by decide) ?_
  refine lv_icmp_ge (tgt := 186) hx hb d_M_init_163 (by decide) (fun c1 => ?_) (fun c1 => ?_)
  · rw [if_pos c1] at h
    cases h
    cases K
    exact hy_vret hA B S d_M_init_186
  · rw [if_neg c1] at h
    refine lv_aload_n hx hb d_M_init_166 rfl (lv_at hl 0 rfl) ?_
    obtain ⟨r2, hr2, h⟩ := hy_bd h
    refine hy_getr B S ha_v0 hr2 rfl (Nat.le_of_ble_eq_true rfl) i_6 (j := 6) tw_656 (fun _ h => h) d_M_init_167 (fun a_r2 ha_r2 hv_r2 => ?_)
    refine lv_iload_n hx hb d_M_init_170 rfl (lv_at hl 1 rfl) ?_
    refine lv_iconst (v := 2) hx hb d_M_init_171 (by decide) ?_
    obtain ⟨w3, hw3, h⟩ := hy_bd h
    refine hy_iast B S ha_r2 hw3 d_M_init_172 (fun H locs S hl_w3 => ?_)
    refine lv_aload_n hx hb d_M_init_173 rfl (lv_at hl 0 rfl) ?_
    obtain ⟨r4, hr4, h⟩ := hy_bd h
    refine hy_getr B S ha_v0 hr4 rfl (Nat.le_of_ble_eq_true rfl) i_6 (j := 7) tw_657 (fun _ h => h) d_M_init_174 (fun a_r4 ha_r4 hv_r4 => ?_)
    refine lv_iload_n hx hb d_M_init_177 rfl (lv_at hl 1 rfl) ?_
    refine lv_iconst (v := 3) hx hb d_M_init_178 (by decide) ?_
    obtain ⟨w5, hw5, h⟩ := hy_bd h
    refine hy_iast B S ha_r4 hw5 d_M_init_179 (fun H locs S hl_w5 => ?_)
    refine lv_iinc (v := (v1 + 1)) (lv' := [(1, .int (v1 + 1)), (0, .ref a_v0)]) hx hb d_M_init_180 hl (k := 1) rfl rfl (Nat.le_of_ble_eq_true rfl) rfl (fun ls hl => ?_)
    refine lv_goto (tgt := 161) hx hb d_M_init_183 (by decide) ?_
    cases h
    exact hy_jump K S (hy_okr (by omega) (hy_oki hy_ok0)) (lv_sub hl [1, 0] rfl) (by subst ha_v0; rfl) (by subst ha_v0; rfl)
theorem nk_M_init {p : Program} {l : Launch} {e : Env} {s : State} {m : MethodId} {args : Array Value} {below : List Frame} {meth : Method} {c : Code} {G : hy_G} {A : Nat → Prop} {ad0 : Nat → Nat} {w0 : hy_W} {o : hy_O} (hl9 : l.flags = flags0) (hA : hy_A G ad0 w0 s.heap.size = A) (hi : meth.name = "<init>") (B : hy_B p l e (hy_rm 1 12 w0) s m args below meth c "HyphenPatternsModel" b_M_init 2 none [] G A) (q : hy_P) (nx : hy_N) (hq : nx_M_init q = some nx) (K : hy_Nx lay_M_init p l e (hy_rm 1 12 w0) s m args below meth c 2 G A ad0 w0.1.length (hy_Q below G ad0 w0 o args s) o nx) : hy_At lay_M_init p l e (hy_rm 1 12 w0) s m args below meth c 2 G A ad0 w0.1.length (hy_Q below G ad0 w0 o args s) q := by
  unfold nx_M_init at hq
  split at hq
  · exact sk_M_init_0 hl9 hA hi B _ _ nx hq K
  · exact sk_M_init_161 hl9 hA hi B _ _ _ nx hq K
  · cases hq
theorem c_M_init {l : Launch} (hl9 : l.flags = flags0) (G : hy_G) (ad : Nat → Nat) {v0 : Nat} {w : hy_W} {o : hy_O} (h : f_M_init [.ref v0] w = some o) : hy_M l y_M_init (Cond.code y_M_init b_M_init 2 none :: hy_T) 1 12 G ad [.ref v0] w o := by
  obtain ⟨n, hn⟩ := hy_fx_iff.mp h
  refine hy_ofW hl9 (by decide +kernel) (Nat.le_of_ble_eq_true rfl) (fun p e s m args below meth c A hA hi B S hok ls hl => ?_)
  exact hy_loop (nk_M_init hl9 hA (hi rfl) B) n _ hn ad s.heap [] 0 0 ls S hok hl
theorem d_M_thrown_0 : decode b_M_thrown 0 = .ok (.aload_n 0, 1) := by decide +kernel
theorem d_M_thrown_1 : decode b_M_thrown 1 = .ok (.getfield 67, 3) := by decide +kernel
theorem d_M_thrown_4 : decode b_M_thrown 4 = .ok (.ireturn, 1) := by decide +kernel
def lay_M_thrown (pc : Nat) : List Nat := if pc = 0 then [0] else []
noncomputable def sg_M_thrown_0 (v0 : Nat) (w : hy_W) : Option hy_N := (hy_gi w v0 6 0).bind fun x1 => some (.inr (.inl (some (.int x1)), w))
noncomputable def nx_M_thrown (q : hy_P) : Option hy_N := match q with
  | (0, [.ref v0], w) => sg_M_thrown_0 v0 w
  | _ => none
noncomputable def f_M_thrown (av : List Value) (w : hy_W) : Option hy_O := hy_fx nx_M_thrown (0, av, w)
set_option maxHeartbeats 4000000 in
set_option maxRecDepth 100000 in
theorem sk_M_thrown_0 {p : Program} {l : Launch} {e : Env} {s : State} {m : MethodId} {args : Array Value} {below : List Frame} {meth : Method} {c : Code} {G : hy_G} {A : Nat → Prop} {ad0 : Nat → Nat} {w0 : hy_W} {o : hy_O} (hl9 : l.flags = flags0) (hA : hy_A G ad0 w0 s.heap.size = A) (B : hy_B p l e (hy_rm 0 0 w0) s m args below meth c "HyphenPatternsModel" b_M_thrown 1 (some .int) [] G A) (v0 : Nat) (w : hy_W) (nx : hy_N) (h : sg_M_thrown_0 v0 w = some nx) (K : hy_Nx lay_M_thrown p l e (hy_rm 0 0 w0) s m args below meth c 1 G A ad0 w0.1.length (hy_Q below G ad0 w0 o args s) o nx) : hy_At lay_M_thrown p l e (hy_rm 0 0 w0) s m args below meth c 1 G A ad0 w0.1.length (hy_Q below G ad0 w0 o args s) (0, [.ref v0], w) := by
  intro ad H locs cells slots ls S hok hl
  have hx := B.1
  have hb := B.2.1
  dsimp only at S hok
  have hl : lv_has ls 1 [(0, .ref (ad v0))] := hl
  show W p l e (hy_rm 0 0 w0) s m args below meth c H locs cells slots (hy_Q below G ad0 w0 o args s) (F0 m 0 ls [])
  have hv_v0 : v0 < w.1.length := hok (.ref v0) (List.mem_of_getElem? (i := 0) rfl) v0 rfl
  obtain ⟨a_v0, ha_v0⟩ : ∃ a, ad v0 = a := ⟨_, rfl⟩
  rw [ha_v0] at hl
  unfold sg_M_thrown_0 at h
  refine lv_aload_n hx hb d_M_thrown_0 rfl (lv_at hl 0 rfl) ?_
  obtain ⟨x1, hx1, h⟩ := hy_bd h
  refine hy_geti B S ha_v0 hx1 rfl (Nat.le_of_ble_eq_true rfl) i_6 (j := 0) tw_650 (fun _ h => h) d_M_thrown_1 ?_
  cases h
  cases K
  exact hy_iret hA B S d_M_thrown_4
theorem nk_M_thrown {p : Program} {l : Launch} {e : Env} {s : State} {m : MethodId} {args : Array Value} {below : List Frame} {meth : Method} {c : Code} {G : hy_G} {A : Nat → Prop} {ad0 : Nat → Nat} {w0 : hy_W} {o : hy_O} (hl9 : l.flags = flags0) (hA : hy_A G ad0 w0 s.heap.size = A) (B : hy_B p l e (hy_rm 0 0 w0) s m args below meth c "HyphenPatternsModel" b_M_thrown 1 (some .int) [] G A) (q : hy_P) (nx : hy_N) (hq : nx_M_thrown q = some nx) (K : hy_Nx lay_M_thrown p l e (hy_rm 0 0 w0) s m args below meth c 1 G A ad0 w0.1.length (hy_Q below G ad0 w0 o args s) o nx) : hy_At lay_M_thrown p l e (hy_rm 0 0 w0) s m args below meth c 1 G A ad0 w0.1.length (hy_Q below G ad0 w0 o args s) q := by
  unfold nx_M_thrown at hq
  split at hq
  · exact sk_M_thrown_0 hl9 hA B _ _ nx hq K
  · cases hq
theorem c_M_thrown {l : Launch} (hl9 : l.flags = flags0) (G : hy_G) (ad : Nat → Nat) {v0 : Nat} {w : hy_W} {o : hy_O} (h : f_M_thrown [.ref v0] w = some o) : hy_M l y_M_thrown (Cond.code y_M_thrown b_M_thrown 1 (some .int) :: hy_T) 0 0 G ad [.ref v0] w o := by
  obtain ⟨n, hn⟩ := hy_fx_iff.mp h
  refine hy_ofW hl9 (by decide +kernel) (Nat.le_of_ble_eq_true rfl) (fun p e s m args below meth c A hA hi B S hok ls hl => ?_)
  exact hy_loop (nk_M_thrown hl9 hA B) n _ hn ad s.heap [] 0 0 ls S hok hl
theorem d_M_refused_0 : decode b_M_refused 0 = .ok (.aload_n 0, 1) := by decide +kernel
theorem d_M_refused_1 : decode b_M_refused 1 = .ok (.iload_n 1, 1) := by decide +kernel
theorem d_M_refused_2 : decode b_M_refused 2 = .ok (.putfield 67, 3) := by decide +kernel
theorem d_M_refused_5 : decode b_M_refused 5 = .ok (.iload_n 1, 1) := by decide +kernel
theorem d_M_refused_6 : decode b_M_refused 6 = .ok (.ifCond .le 7, 3) := by decide +kernel
theorem d_M_refused_9 : decode b_M_refused 9 = .ok (.iconst 1, 1) := by decide +kernel
theorem d_M_refused_10 : decode b_M_refused 10 = .ok (.goto 4, 3) := by decide +kernel
theorem d_M_refused_13 : decode b_M_refused 13 = .ok (.iconst 0, 1) := by decide +kernel
theorem d_M_refused_14 : decode b_M_refused 14 = .ok (.ireturn, 1) := by decide +kernel
def lay_M_refused (pc : Nat) : List Nat := if pc = 0 then [0, 1] else []
noncomputable def sg_M_refused_0 (v0 : Nat) (v1 : Int32) (w : hy_W) : Option hy_N := (hy_pf w v0 6 0 (.int v1)).bind fun w1 => if v1 ≤ 0 then (some (.inr (.inl (some (.int 0)), w1))) else (some (.inr (.inl (some (.int 1)), w1)))
noncomputable def nx_M_refused (q : hy_P) : Option hy_N := match q with
  | (0, [.ref v0, .int v1], w) => sg_M_refused_0 v0 v1 w
  | _ => none
noncomputable def f_M_refused (av : List Value) (w : hy_W) : Option hy_O := hy_fx nx_M_refused (0, av, w)
set_option maxHeartbeats 4000000 in
set_option maxRecDepth 100000 in
theorem sk_M_refused_0 {p : Program} {l : Launch} {e : Env} {s : State} {m : MethodId} {args : Array Value} {below : List Frame} {meth : Method} {c : Code} {G : hy_G} {A : Nat → Prop} {ad0 : Nat → Nat} {w0 : hy_W} {o : hy_O} (hl9 : l.flags = flags0) (hA : hy_A G ad0 w0 s.heap.size = A) (B : hy_B p l e (hy_rm 0 0 w0) s m args below meth c "HyphenPatternsModel" b_M_refused 2 (some .boolean) [] G A) (v0 : Nat) (v1 : Int32) (w : hy_W) (nx : hy_N) (h : sg_M_refused_0 v0 v1 w = some nx) (K : hy_Nx lay_M_refused p l e (hy_rm 0 0 w0) s m args below meth c 2 G A ad0 w0.1.length (hy_Q below G ad0 w0 o args s) o nx) : hy_At lay_M_refused p l e (hy_rm 0 0 w0) s m args below meth c 2 G A ad0 w0.1.length (hy_Q below G ad0 w0 o args s) (0, [.ref v0, .int v1], w) := by
  intro ad H locs cells slots ls S hok hl
  have hx := B.1
  have hb := B.2.1
  dsimp only at S hok
  have hl : lv_has ls 2 [(0, .ref (ad v0)), (1, .int v1)] := hl
  show W p l e (hy_rm 0 0 w0) s m args below meth c H locs cells slots (hy_Q below G ad0 w0 o args s) (F0 m 0 ls [])
  have hv_v0 : v0 < w.1.length := hok (.ref v0) (List.mem_of_getElem? (i := 0) rfl) v0 rfl
  obtain ⟨a_v0, ha_v0⟩ : ∃ a, ad v0 = a := ⟨_, rfl⟩
  rw [ha_v0] at hl
  unfold sg_M_refused_0 at h
  refine lv_aload_n hx hb d_M_refused_0 rfl (lv_at hl 0 rfl) ?_
  refine lv_iload_n hx hb d_M_refused_1 rfl (lv_at hl 1 rfl) ?_
  obtain ⟨w1, hw1, h⟩ := hy_bd h
  refine hy_put B S ha_v0 rfl hy_cvi hw1 rfl (Nat.le_of_ble_eq_true rfl) i_6 t_6 t_6_ok n_6 (j := 0) tw_650 (fun _ h => h) rfl rfl rfl d_M_refused_2 (fun H locs S hl_w1 => ?_)
  refine lv_iload_n hx hb d_M_refused_5 rfl (lv_at hl 1 rfl) ?_
  refine lv_if_le (tgt := 13) hx hb d_M_refused_6 (by decide) (fun c2 => ?_) (fun c2 => ?_)
  · rw [if_pos c2] at h
    refine lv_iconst (v := 0) hx hb d_M_refused_13 (by decide) ?_
    cases h
    cases K
    exact hy_zret hA B S (by decide) d_M_refused_14
  · rw [if_neg c2] at h
    refine lv_iconst (v := 1) hx hb d_M_refused_9 (by decide) ?_
    refine lv_goto (tgt := 14) hx hb d_M_refused_10 (by decide) ?_
    cases h
    cases K
    exact hy_zret hA B S (by decide) d_M_refused_14
theorem nk_M_refused {p : Program} {l : Launch} {e : Env} {s : State} {m : MethodId} {args : Array Value} {below : List Frame} {meth : Method} {c : Code} {G : hy_G} {A : Nat → Prop} {ad0 : Nat → Nat} {w0 : hy_W} {o : hy_O} (hl9 : l.flags = flags0) (hA : hy_A G ad0 w0 s.heap.size = A) (B : hy_B p l e (hy_rm 0 0 w0) s m args below meth c "HyphenPatternsModel" b_M_refused 2 (some .boolean) [] G A) (q : hy_P) (nx : hy_N) (hq : nx_M_refused q = some nx) (K : hy_Nx lay_M_refused p l e (hy_rm 0 0 w0) s m args below meth c 2 G A ad0 w0.1.length (hy_Q below G ad0 w0 o args s) o nx) : hy_At lay_M_refused p l e (hy_rm 0 0 w0) s m args below meth c 2 G A ad0 w0.1.length (hy_Q below G ad0 w0 o args s) q := by
  unfold nx_M_refused at hq
  split at hq
  · exact sk_M_refused_0 hl9 hA B _ _ _ nx hq K
  · cases hq
theorem c_M_refused {l : Launch} (hl9 : l.flags = flags0) (G : hy_G) (ad : Nat → Nat) {v0 : Nat} {v1 : Int32} {w : hy_W} {o : hy_O} (h : f_M_refused [.ref v0, .int v1] w = some o) : hy_M l y_M_refused (Cond.code y_M_refused b_M_refused 2 (some .boolean) :: hy_T) 0 0 G ad [.ref v0, .int v1] w o := by
  obtain ⟨n, hn⟩ := hy_fx_iff.mp h
  refine hy_ofW hl9 (by decide +kernel) (Nat.le_of_ble_eq_true rfl) (fun p e s m args below meth c A hA hi B S hok ls hl => ?_)
  exact hy_loop (nk_M_refused hl9 hA B) n _ hn ad s.heap [] 0 0 ls S hok hl
theorem d_M_choose_0 : decode b_M_choose 0 = .ok (.aload_n 0, 1) := by decide +kernel
theorem d_M_choose_1 : decode b_M_choose 1 = .ok (.iload_n 1, 1) := by decide +kernel
theorem d_M_choose_2 : decode b_M_choose 2 = .ok (.ifCond .lt 8, 3) := by decide +kernel
theorem d_M_choose_5 : decode b_M_choose 5 = .ok (.iload_n 1, 1) := by decide +kernel
theorem d_M_choose_6 : decode b_M_choose 6 = .ok (.iconst 3, 1) := by decide +kernel
theorem d_M_choose_7 : decode b_M_choose 7 = .ok (.if_icmp .le 7, 3) := by decide +kernel
theorem d_M_choose_10 : decode b_M_choose 10 = .ok (.iconst 1, 1) := by decide +kernel
theorem d_M_choose_11 : decode b_M_choose 11 = .ok (.goto 4, 3) := by decide +kernel
theorem d_M_choose_14 : decode b_M_choose 14 = .ok (.iconst 0, 1) := by decide +kernel
theorem d_M_choose_15 : decode b_M_choose 15 = .ok (.invokevirtual 72, 3) := by decide +kernel
theorem d_M_choose_18 : decode b_M_choose 18 = .ok (.ifCond .eq 5, 3) := by decide +kernel
theorem d_M_choose_21 : decode b_M_choose 21 = .ok (.iconst 0, 1) := by decide +kernel
theorem d_M_choose_22 : decode b_M_choose 22 = .ok (.ireturn, 1) := by decide +kernel
theorem d_M_choose_23 : decode b_M_choose 23 = .ok (.aload_n 0, 1) := by decide +kernel
theorem d_M_choose_24 : decode b_M_choose 24 = .ok (.getfield 76, 3) := by decide +kernel
theorem d_M_choose_27 : decode b_M_choose 27 = .ok (.istore_n 2, 1) := by decide +kernel
theorem d_M_choose_28 : decode b_M_choose 28 = .ok (.aload_n 0, 1) := by decide +kernel
theorem d_M_choose_29 : decode b_M_choose 29 = .ok (.iload_n 1, 1) := by decide +kernel
theorem d_M_choose_30 : decode b_M_choose 30 = .ok (.putfield 76, 3) := by decide +kernel
theorem d_M_choose_33 : decode b_M_choose 33 = .ok (.iload_n 2, 1) := by decide +kernel
theorem d_M_choose_34 : decode b_M_choose 34 = .ok (.ireturn, 1) := by decide +kernel
def lay_M_choose (pc : Nat) : List Nat := if pc = 0 then [0, 1] else if pc = 10 then [0, 1] else if pc = 15 then [0, 1] else []
noncomputable def sg_M_choose_0 (v0 : Nat) (v1 : Int32) (w : hy_W) : Option hy_N := if v1 < 0 then (some (.inl (10, [.ref v0, .int v1, .ref v0], w))) else (if v1 ≤ 3 then (some (.inl (15, [.ref v0, .int v1, .int 0, .ref v0], w))) else (some (.inl (10, [.ref v0, .int v1, .ref v0], w))))
noncomputable def sg_M_choose_10 (v0 : Nat) (v1 : Int32) (s0 : Nat) (w : hy_W) : Option hy_N := some (.inl (15, [.ref v0, .int v1, .int 1, .ref s0], w))
noncomputable def sg_M_choose_15 (v0 : Nat) (v1 : Int32) (s0 : Int32) (s1 : Nat) (w : hy_W) : Option hy_N := if hy_ob w s1 6 = true then hy_bi (f_M_refused [.ref s1, .int s0] w) fun x3 w1 => if x3 = 0 then ((hy_gi w1 v0 6 1).bind fun x6 => (hy_pf w1 v0 6 1 (.int v1)).bind fun w7 => some (.inr (.inl (some (.int x6)), w7))) else (some (.inr (.inl (some (.int 0)), w1))) else none
noncomputable def nx_M_choose (q : hy_P) : Option hy_N := match q with
  | (0, [.ref v0, .int v1], w) => sg_M_choose_0 v0 v1 w
  | (10, [.ref v0, .int v1, .ref s0], w) => sg_M_choose_10 v0 v1 s0 w
  | (15, [.ref v0, .int v1, .int s0, .ref s1], w) => sg_M_choose_15 v0 v1 s0 s1 w
  | _ => none
noncomputable def f_M_choose (av : List Value) (w : hy_W) : Option hy_O := hy_fx nx_M_choose (0, av, w)
set_option maxHeartbeats 4000000 in
set_option maxRecDepth 100000 in
theorem sk_M_choose_0 {p : Program} {l : Launch} {e : Env} {s : State} {m : MethodId} {args : Array Value} {below : List Frame} {meth : Method} {c : Code} {G : hy_G} {A : Nat → Prop} {ad0 : Nat → Nat} {w0 : hy_W} {o : hy_O} (hl9 : l.flags = flags0) (hA : hy_A G ad0 w0 s.heap.size = A) (B : hy_B p l e (hy_rm 1 21 w0) s m args below meth c "HyphenPatternsModel" b_M_choose 3 (some .int) [] G A) (v0 : Nat) (v1 : Int32) (w : hy_W) (nx : hy_N) (h : sg_M_choose_0 v0 v1 w = some nx) (K : hy_Nx lay_M_choose p l e (hy_rm 1 21 w0) s m args below meth c 3 G A ad0 w0.1.length (hy_Q below G ad0 w0 o args s) o nx) : hy_At lay_M_choose p l e (hy_rm 1 21 w0) s m args below meth c 3 G A ad0 w0.1.length (hy_Q below G ad0 w0 o args s) (0, [.ref v0, .int v1], w) := by
  intro ad H locs cells slots ls S hok hl
  have hx := B.1
  have hb := B.2.1
  dsimp only at S hok
  have hl : lv_has ls 3 [(0, .ref (ad v0)), (1, .int v1)] := hl
  show W p l e (hy_rm 1 21 w0) s m args below meth c H locs cells slots (hy_Q below G ad0 w0 o args s) (F0 m 0 ls [])
  have hv_v0 : v0 < w.1.length := hok (.ref v0) (List.mem_of_getElem? (i := 0) rfl) v0 rfl
  obtain ⟨a_v0, ha_v0⟩ : ∃ a, ad v0 = a := ⟨_, rfl⟩
  rw [ha_v0] at hl
  unfold sg_M_choose_0 at h
  refine lv_aload_n hx hb d_M_choose_0 rfl (lv_at hl 0 rfl) ?_
  refine lv_iload_n hx hb d_M_choose_1 rfl (lv_at hl 1 rfl) ?_
  refine lv_if_lt (tgt := 10) hx hb d_M_choose_2 (by decide) (fun c1 => ?_) (fun c1 => ?_)
  · rw [if_pos c1] at h
    cases h
    exact hy_jump K S (hy_okr (by omega) (hy_oki (hy_okr (by omega) hy_ok0))) (lv_sub hl [0, 1] rfl) (by subst ha_v0; rfl) (by subst ha_v0; rfl)
  · rw [if_neg c1] at h
    refine lv_iload_n hx hb d_M_choose_5 rfl (lv_at hl 1 rfl) ?_
    refine lv_iconst (v := 3) hx hb d_M_choose_6 (by decide) ?_
    refine lv_icmp_le (tgt := 14) hx hb d_M_choose_7 (by decide) (fun c2 => ?_) (fun c2 => ?_)
    · rw [if_pos c2] at h
      refine lv_iconst (v := 0) hx hb d_M_choose_14 (by decide) ?_
      cases h
      exact hy_jump K S (hy_okr (by omega) (hy_oki (hy_oki (hy_okr (by omega) hy_ok0)))) (lv_sub hl [0, 1] rfl) (by subst ha_v0; rfl) (by subst ha_v0; rfl)
    · rw [if_neg c2] at h
      cases h
      exact hy_jump K S (hy_okr (by omega) (hy_oki (hy_okr (by omega) hy_ok0))) (lv_sub hl [0, 1] rfl) (by subst ha_v0; rfl) (by subst ha_v0; rfl)
set_option maxHeartbeats 4000000 in
set_option maxRecDepth 100000 in
theorem sk_M_choose_10 {p : Program} {l : Launch} {e : Env} {s : State} {m : MethodId} {args : Array Value} {below : List Frame} {meth : Method} {c : Code} {G : hy_G} {A : Nat → Prop} {ad0 : Nat → Nat} {w0 : hy_W} {o : hy_O} (hl9 : l.flags = flags0) (hA : hy_A G ad0 w0 s.heap.size = A) (B : hy_B p l e (hy_rm 1 21 w0) s m args below meth c "HyphenPatternsModel" b_M_choose 3 (some .int) [] G A) (v0 : Nat) (v1 : Int32) (s0 : Nat) (w : hy_W) (nx : hy_N) (h : sg_M_choose_10 v0 v1 s0 w = some nx) (K : hy_Nx lay_M_choose p l e (hy_rm 1 21 w0) s m args below meth c 3 G A ad0 w0.1.length (hy_Q below G ad0 w0 o args s) o nx) : hy_At lay_M_choose p l e (hy_rm 1 21 w0) s m args below meth c 3 G A ad0 w0.1.length (hy_Q below G ad0 w0 o args s) (10, [.ref v0, .int v1, .ref s0], w) := by
  intro ad H locs cells slots ls S hok hl
  have hx := B.1
  have hb := B.2.1
  dsimp only at S hok
  have hl : lv_has ls 3 [(0, .ref (ad v0)), (1, .int v1)] := hl
  show W p l e (hy_rm 1 21 w0) s m args below meth c H locs cells slots (hy_Q below G ad0 w0 o args s) (F0 m 10 ls [.ref (ad s0)])
  have hv_v0 : v0 < w.1.length := hok (.ref v0) (List.mem_of_getElem? (i := 0) rfl) v0 rfl
  obtain ⟨a_v0, ha_v0⟩ : ∃ a, ad v0 = a := ⟨_, rfl⟩
  rw [ha_v0] at hl
  have hv_s0 : s0 < w.1.length := hok (.ref s0) (List.mem_of_getElem? (i := 2) rfl) s0 rfl
  obtain ⟨a_s0, ha_s0⟩ : ∃ a, ad s0 = a := ⟨_, rfl⟩
  rw [ha_s0]
  unfold sg_M_choose_10 at h
  refine lv_iconst (v := 1) hx hb d_M_choose_10 (by decide) ?_
  refine lv_goto (tgt := 15) hx hb d_M_choose_11 (by decide) ?_
  cases h
  exact hy_jump K S (hy_okr (by omega) (hy_oki (hy_oki (hy_okr (by omega) hy_ok0)))) (lv_sub hl [0, 1] rfl) (by subst ha_v0 ha_s0; rfl) (by subst ha_v0 ha_s0; rfl)
set_option maxHeartbeats 4000000 in
set_option maxRecDepth 100000 in
theorem sk_M_choose_15 {p : Program} {l : Launch} {e : Env} {s : State} {m : MethodId} {args : Array Value} {below : List Frame} {meth : Method} {c : Code} {G : hy_G} {A : Nat → Prop} {ad0 : Nat → Nat} {w0 : hy_W} {o : hy_O} (hl9 : l.flags = flags0) (hA : hy_A G ad0 w0 s.heap.size = A) (B : hy_B p l e (hy_rm 1 21 w0) s m args below meth c "HyphenPatternsModel" b_M_choose 3 (some .int) [] G A) (v0 : Nat) (v1 : Int32) (s0 : Int32) (s1 : Nat) (w : hy_W) (nx : hy_N) (h : sg_M_choose_15 v0 v1 s0 s1 w = some nx) (K : hy_Nx lay_M_choose p l e (hy_rm 1 21 w0) s m args below meth c 3 G A ad0 w0.1.length (hy_Q below G ad0 w0 o args s) o nx) : hy_At lay_M_choose p l e (hy_rm 1 21 w0) s m args below meth c 3 G A ad0 w0.1.length (hy_Q below G ad0 w0 o args s) (15, [.ref v0, .int v1, .int s0, .ref s1], w) := by
  intro ad H locs cells slots ls S hok hl
  have hx := B.1
  have hb := B.2.1
  dsimp only at S hok
  have hl : lv_has ls 3 [(0, .ref (ad v0)), (1, .int v1)] := hl
  show W p l e (hy_rm 1 21 w0) s m args below meth c H locs cells slots (hy_Q below G ad0 w0 o args s) (F0 m 15 ls [.int s0, .ref (ad s1)])
  have hv_v0 : v0 < w.1.length := hok (.ref v0) (List.mem_of_getElem? (i := 0) rfl) v0 rfl
  obtain ⟨a_v0, ha_v0⟩ : ∃ a, ad v0 = a := ⟨_, rfl⟩
  rw [ha_v0] at hl
  have hv_s1 : s1 < w.1.length := hok (.ref s1) (List.mem_of_getElem? (i := 3) rfl) s1 rfl
  obtain ⟨a_s1, ha_s1⟩ : ∃ a, ad s1 = a := ⟨_, rfl⟩
  rw [ha_s1]
  unfold sg_M_choose_15 at h
  obtain ⟨ob4, h⟩ := hy_if h
  obtain ⟨fs_ob4, hf_ob4, hg_ob4⟩ := hy_ob_spec ob4
  obtain ⟨x3, w1, hq_w1, h⟩ := hy_bi_spec h
  refine hy_calli (hy_runV (rest := []) (As := [.int s0]) (r := s1) (b := a_s1) B S rfl ha_s1 (by rfl) (c_M_refused hl9 G ad hq_w1) (hy_okr (by omega) (hy_oki hy_ok0)) tw_740 tw_9 tw_737 tw_739 sl_M_refused (by decide) rfl (Nat.le_of_ble_eq_true rfl) (Nat.le_of_ble_eq_true rfl) hf_ob4 hg_ob4 rfl hl.1 (Nat.le_of_ble_eq_true rfl) d_M_choose_15) (fun ad2 H locs cells slots hag hl_w1 S => ?_)
  have ha_v0 : ad2 v0 = a_v0 := (hag v0 (by omega)).trans ha_v0
  refine lv_if_eq (tgt := 23) hx hb d_M_choose_18 (by decide) (fun c5 => ?_) (fun c5 => ?_)
  · rw [if_pos c5] at h
    refine lv_aload_n hx hb d_M_choose_23 rfl (lv_at hl 0 rfl) ?_
    obtain ⟨x6, hx6, h⟩ := hy_bd h
    refine hy_geti B S ha_v0 hx6 rfl (Nat.le_of_ble_eq_true rfl) i_6 (j := 1) tw_651 (fun _ h => h) d_M_choose_24 ?_
    refine lv_istore_n (lv' := [(2, .int x6), (0, .ref a_v0), (1, .int v1)]) hx hb d_M_choose_27 rfl hl (Nat.le_of_ble_eq_true rfl) rfl (fun ls hl => ?_)
    refine lv_aload_n hx hb d_M_choose_28 rfl (lv_at hl 1 rfl) ?_
    refine lv_iload_n hx hb d_M_choose_29 rfl (lv_at hl 2 rfl) ?_
    obtain ⟨w7, hw7, h⟩ := hy_bd h
    refine hy_put B S ha_v0 rfl hy_cvi hw7 rfl (Nat.le_of_ble_eq_true rfl) i_6 t_6 t_6_ok n_6 (j := 1) tw_651 (fun _ h => h) rfl rfl rfl d_M_choose_30 (fun H locs S hl_w7 => ?_)
    refine lv_iload_n hx hb d_M_choose_33 rfl (lv_at hl 0 rfl) ?_
    cases h
    cases K
    exact hy_iret hA B S d_M_choose_34
  · rw [if_neg c5] at h
    refine lv_iconst (v := 0) hx hb d_M_choose_21 (by decide) ?_
    cases h
    cases K
    exact hy_iret hA B S d_M_choose_22
theorem nk_M_choose {p : Program} {l : Launch} {e : Env} {s : State} {m : MethodId} {args : Array Value} {below : List Frame} {meth : Method} {c : Code} {G : hy_G} {A : Nat → Prop} {ad0 : Nat → Nat} {w0 : hy_W} {o : hy_O} (hl9 : l.flags = flags0) (hA : hy_A G ad0 w0 s.heap.size = A) (B : hy_B p l e (hy_rm 1 21 w0) s m args below meth c "HyphenPatternsModel" b_M_choose 3 (some .int) [] G A) (q : hy_P) (nx : hy_N) (hq : nx_M_choose q = some nx) (K : hy_Nx lay_M_choose p l e (hy_rm 1 21 w0) s m args below meth c 3 G A ad0 w0.1.length (hy_Q below G ad0 w0 o args s) o nx) : hy_At lay_M_choose p l e (hy_rm 1 21 w0) s m args below meth c 3 G A ad0 w0.1.length (hy_Q below G ad0 w0 o args s) q := by
  unfold nx_M_choose at hq
  split at hq
  · exact sk_M_choose_0 hl9 hA B _ _ _ nx hq K
  · exact sk_M_choose_10 hl9 hA B _ _ _ _ nx hq K
  · exact sk_M_choose_15 hl9 hA B _ _ _ _ _ nx hq K
  · cases hq
theorem c_M_choose {l : Launch} (hl9 : l.flags = flags0) (G : hy_G) (ad : Nat → Nat) {v0 : Nat} {v1 : Int32} {w : hy_W} {o : hy_O} (h : f_M_choose [.ref v0, .int v1] w = some o) : hy_M l y_M_choose (Cond.code y_M_choose b_M_choose 3 (some .int) :: hy_T) 1 21 G ad [.ref v0, .int v1] w o := by
  obtain ⟨n, hn⟩ := hy_fx_iff.mp h
  refine hy_ofW hl9 (by decide +kernel) (Nat.le_of_ble_eq_true rfl) (fun p e s m args below meth c A hA hi B S hok ls hl => ?_)
  exact hy_loop (nk_M_choose hl9 hA B) n _ hn ad s.heap [] 0 0 ls S hok hl
theorem d_M_isChar_0 : decode b_M_isChar 0 = .ok (.iload_n 0, 1) := by decide +kernel
theorem d_M_isChar_1 : decode b_M_isChar 1 = .ok (.iconst 1, 1) := by decide +kernel
theorem d_M_isChar_2 : decode b_M_isChar 2 = .ok (.if_icmp .lt 13, 3) := by decide +kernel
theorem d_M_isChar_5 : decode b_M_isChar 5 = .ok (.iload_n 0, 1) := by decide +kernel
theorem d_M_isChar_6 : decode b_M_isChar 6 = .ok (.ldc 71, 2) := by decide +kernel
theorem d_M_isChar_8 : decode b_M_isChar 8 = .ok (.if_icmp .gt 7, 3) := by decide +kernel
theorem d_M_isChar_11 : decode b_M_isChar 11 = .ok (.iconst 1, 1) := by decide +kernel
theorem d_M_isChar_12 : decode b_M_isChar 12 = .ok (.goto 4, 3) := by decide +kernel
theorem d_M_isChar_15 : decode b_M_isChar 15 = .ok (.iconst 0, 1) := by decide +kernel
theorem d_M_isChar_16 : decode b_M_isChar 16 = .ok (.ireturn, 1) := by decide +kernel
def lay_M_isChar (pc : Nat) : List Nat := if pc = 0 then [0] else if pc = 15 then [] else []
noncomputable def sg_M_isChar_0 (v0 : Int32) (w : hy_W) : Option hy_N := if v0 < 1 then (some (.inl (15, [], w))) else (if (1114111 : Int32) < v0 then (some (.inl (15, [], w))) else (some (.inr (.inl (some (.int 1)), w))))
noncomputable def sg_M_isChar_15  (w : hy_W) : Option hy_N := some (.inr (.inl (some (.int 0)), w))
noncomputable def nx_M_isChar (q : hy_P) : Option hy_N := match q with
  | (0, [.int v0], w) => sg_M_isChar_0 v0 w
  | (15, [], w) => sg_M_isChar_15  w
  | _ => none
noncomputable def f_M_isChar (av : List Value) (w : hy_W) : Option hy_O := hy_fx nx_M_isChar (0, av, w)
set_option maxHeartbeats 4000000 in
set_option maxRecDepth 100000 in
theorem sk_M_isChar_0 {p : Program} {l : Launch} {e : Env} {s : State} {m : MethodId} {args : Array Value} {below : List Frame} {meth : Method} {c : Code} {G : hy_G} {A : Nat → Prop} {ad0 : Nat → Nat} {w0 : hy_W} {o : hy_O} (hl9 : l.flags = flags0) (hA : hy_A G ad0 w0 s.heap.size = A) (B : hy_B p l e (hy_rm 0 0 w0) s m args below meth c "HyphenPatternsModel" b_M_isChar 1 (some .boolean) [] G A) (v0 : Int32) (w : hy_W) (nx : hy_N) (h : sg_M_isChar_0 v0 w = some nx) (K : hy_Nx lay_M_isChar p l e (hy_rm 0 0 w0) s m args below meth c 1 G A ad0 w0.1.length (hy_Q below G ad0 w0 o args s) o nx) : hy_At lay_M_isChar p l e (hy_rm 0 0 w0) s m args below meth c 1 G A ad0 w0.1.length (hy_Q below G ad0 w0 o args s) (0, [.int v0], w) := by
  intro ad H locs cells slots ls S hok hl
  have hx := B.1
  have hb := B.2.1
  dsimp only at S hok
  have hl : lv_has ls 1 [(0, .int v0)] := hl
  show W p l e (hy_rm 0 0 w0) s m args below meth c H locs cells slots (hy_Q below G ad0 w0 o args s) (F0 m 0 ls [])
  unfold sg_M_isChar_0 at h
  refine lv_iload_n hx hb d_M_isChar_0 rfl (lv_at hl 0 rfl) ?_
  refine lv_iconst (v := 1) hx hb d_M_isChar_1 (by decide) ?_
  refine lv_icmp_lt (tgt := 15) hx hb d_M_isChar_2 (by decide) (fun c1 => ?_) (fun c1 => ?_)
  · rw [if_pos c1] at h
    cases h
    exact hy_jump K S hy_ok0 (lv_sub hl [] rfl) (by rfl) (by rfl)
  · rw [if_neg c1] at h
    refine lv_iload_n hx hb d_M_isChar_5 rfl (lv_at hl 0 rfl) ?_
    refine lv_ldc (v := 1114111) hx hb B.2.2.2.1 (B.2.2.2.2.1 _ tw_748) d_M_isChar_6 ?_
    refine lv_icmp_gt (tgt := 15) hx hb d_M_isChar_8 (by decide) (fun c2 => ?_) (fun c2 => ?_)
    · rw [if_pos c2] at h
      cases h
      exact hy_jump K S hy_ok0 (lv_sub hl [] rfl) (by rfl) (by rfl)
    · rw [if_neg c2] at h
      refine lv_iconst (v := 1) hx hb d_M_isChar_11 (by decide) ?_
      refine lv_goto (tgt := 16) hx hb d_M_isChar_12 (by decide) ?_
      cases h
      cases K
      exact hy_zret hA B S (by decide) d_M_isChar_16
set_option maxHeartbeats 4000000 in
set_option maxRecDepth 100000 in
theorem sk_M_isChar_15 {p : Program} {l : Launch} {e : Env} {s : State} {m : MethodId} {args : Array Value} {below : List Frame} {meth : Method} {c : Code} {G : hy_G} {A : Nat → Prop} {ad0 : Nat → Nat} {w0 : hy_W} {o : hy_O} (hl9 : l.flags = flags0) (hA : hy_A G ad0 w0 s.heap.size = A) (B : hy_B p l e (hy_rm 0 0 w0) s m args below meth c "HyphenPatternsModel" b_M_isChar 1 (some .boolean) [] G A)  (w : hy_W) (nx : hy_N) (h : sg_M_isChar_15  w = some nx) (K : hy_Nx lay_M_isChar p l e (hy_rm 0 0 w0) s m args below meth c 1 G A ad0 w0.1.length (hy_Q below G ad0 w0 o args s) o nx) : hy_At lay_M_isChar p l e (hy_rm 0 0 w0) s m args below meth c 1 G A ad0 w0.1.length (hy_Q below G ad0 w0 o args s) (15, [], w) := by
  intro ad H locs cells slots ls S hok hl
  have hx := B.1
  have hb := B.2.1
  dsimp only at S hok
  have hl : lv_has ls 1 [] := hl
  show W p l e (hy_rm 0 0 w0) s m args below meth c H locs cells slots (hy_Q below G ad0 w0 o args s) (F0 m 15 ls [])
  unfold sg_M_isChar_15 at h
  refine lv_iconst (v := 0) hx hb d_M_isChar_15 (by decide) ?_
  cases h
  cases K
  exact hy_zret hA B S (by decide) d_M_isChar_16
theorem nk_M_isChar {p : Program} {l : Launch} {e : Env} {s : State} {m : MethodId} {args : Array Value} {below : List Frame} {meth : Method} {c : Code} {G : hy_G} {A : Nat → Prop} {ad0 : Nat → Nat} {w0 : hy_W} {o : hy_O} (hl9 : l.flags = flags0) (hA : hy_A G ad0 w0 s.heap.size = A) (B : hy_B p l e (hy_rm 0 0 w0) s m args below meth c "HyphenPatternsModel" b_M_isChar 1 (some .boolean) [] G A) (q : hy_P) (nx : hy_N) (hq : nx_M_isChar q = some nx) (K : hy_Nx lay_M_isChar p l e (hy_rm 0 0 w0) s m args below meth c 1 G A ad0 w0.1.length (hy_Q below G ad0 w0 o args s) o nx) : hy_At lay_M_isChar p l e (hy_rm 0 0 w0) s m args below meth c 1 G A ad0 w0.1.length (hy_Q below G ad0 w0 o args s) q := by
  unfold nx_M_isChar at hq
  split at hq
  · exact sk_M_isChar_0 hl9 hA B _ _ nx hq K
  · exact sk_M_isChar_15 hl9 hA B _ nx hq K
  · cases hq
theorem c_M_isChar {l : Launch} (hl9 : l.flags = flags0) (G : hy_G) (ad : Nat → Nat) {v0 : Int32} {w : hy_W} {o : hy_O} (h : f_M_isChar [.int v0] w = some o) : hy_M l y_M_isChar (Cond.code y_M_isChar b_M_isChar 1 (some .boolean) :: hy_T) 0 0 G ad [.int v0] w o := by
  obtain ⟨n, hn⟩ := hy_fx_iff.mp h
  refine hy_ofW hl9 (by decide +kernel) (Nat.le_of_ble_eq_true rfl) (fun p e s m args below meth c A hA hi B S hok ls hl => ?_)
  exact hy_loop (nk_M_isChar hl9 hA B) n _ hn ad s.heap [] 0 0 ls S hok hl
theorem d_M_letters_0 : decode b_M_letters 0 = .ok (.iload_n 1, 1) := by decide +kernel
theorem d_M_letters_1 : decode b_M_letters 1 = .ok (.invokestatic 79, 3) := by decide +kernel
theorem d_M_letters_4 : decode b_M_letters 4 = .ok (.ifCond .eq 23, 3) := by decide +kernel
theorem d_M_letters_7 : decode b_M_letters 7 = .ok (.iload_n 2, 1) := by decide +kernel
theorem d_M_letters_8 : decode b_M_letters 8 = .ok (.invokestatic 79, 3) := by decide +kernel
theorem d_M_letters_11 : decode b_M_letters 11 = .ok (.ifCond .eq 16, 3) := by decide +kernel
theorem d_M_letters_14 : decode b_M_letters 14 = .ok (.iload_n 1, 1) := by decide +kernel
theorem d_M_letters_15 : decode b_M_letters 15 = .ok (.iload_n 2, 1) := by decide +kernel
theorem d_M_letters_16 : decode b_M_letters 16 = .ok (.if_icmp .gt 11, 3) := by decide +kernel
theorem d_M_letters_19 : decode b_M_letters 19 = .ok (.iload_n 3, 1) := by decide +kernel
theorem d_M_letters_20 : decode b_M_letters 20 = .ok (.ifCond .lt 7, 3) := by decide +kernel
theorem d_M_letters_23 : decode b_M_letters 23 = .ok (.iconst 1, 1) := by decide +kernel
theorem d_M_letters_24 : decode b_M_letters 24 = .ok (.goto 4, 3) := by decide +kernel
theorem d_M_letters_27 : decode b_M_letters 27 = .ok (.iconst 0, 1) := by decide +kernel
theorem d_M_letters_28 : decode b_M_letters 28 = .ok (.istore 4, 2) := by decide +kernel
theorem d_M_letters_30 : decode b_M_letters 30 = .ok (.iload 4, 2) := by decide +kernel
theorem d_M_letters_32 : decode b_M_letters 32 = .ok (.ifCond .eq 22, 3) := by decide +kernel
theorem d_M_letters_35 : decode b_M_letters 35 = .ok (.iload_n 3, 1) := by decide +kernel
theorem d_M_letters_36 : decode b_M_letters 36 = .ok (.i2l, 1) := by decide +kernel
theorem d_M_letters_37 : decode b_M_letters 37 = .ok (.iload_n 2, 1) := by decide +kernel
theorem d_M_letters_38 : decode b_M_letters 38 = .ok (.i2l, 1) := by decide +kernel
theorem d_M_letters_39 : decode b_M_letters 39 = .ok (.ladd, 1) := by decide +kernel
theorem d_M_letters_40 : decode b_M_letters 40 = .ok (.iload_n 1, 1) := by decide +kernel
theorem d_M_letters_41 : decode b_M_letters 41 = .ok (.i2l, 1) := by decide +kernel
theorem d_M_letters_42 : decode b_M_letters 42 = .ok (.lsub, 1) := by decide +kernel
theorem d_M_letters_43 : decode b_M_letters 43 = .ok (.ldc2_w 82, 3) := by decide +kernel
theorem d_M_letters_46 : decode b_M_letters 46 = .ok (.lcmp, 1) := by decide +kernel
theorem d_M_letters_47 : decode b_M_letters 47 = .ok (.ifCond .gt 7, 3) := by decide +kernel
theorem d_M_letters_50 : decode b_M_letters 50 = .ok (.iconst 1, 1) := by decide +kernel
theorem d_M_letters_51 : decode b_M_letters 51 = .ok (.goto 4, 3) := by decide +kernel
theorem d_M_letters_54 : decode b_M_letters 54 = .ok (.iconst 0, 1) := by decide +kernel
theorem d_M_letters_55 : decode b_M_letters 55 = .ok (.istore 4, 2) := by decide +kernel
theorem d_M_letters_57 : decode b_M_letters 57 = .ok (.aload_n 0, 1) := by decide +kernel
theorem d_M_letters_58 : decode b_M_letters 58 = .ok (.iload 4, 2) := by decide +kernel
theorem d_M_letters_60 : decode b_M_letters 60 = .ok (.ifCond .ne 7, 3) := by decide +kernel
theorem d_M_letters_63 : decode b_M_letters 63 = .ok (.iconst 1, 1) := by decide +kernel
theorem d_M_letters_64 : decode b_M_letters 64 = .ok (.goto 22, 3) := by decide +kernel
theorem d_M_letters_67 : decode b_M_letters 67 = .ok (.aload_n 0, 1) := by decide +kernel
theorem d_M_letters_68 : decode b_M_letters 68 = .ok (.getfield 7, 3) := by decide +kernel
theorem d_M_letters_71 : decode b_M_letters 71 = .ok (.aload_n 0, 1) := by decide +kernel
theorem d_M_letters_72 : decode b_M_letters 72 = .ok (.getfield 76, 3) := by decide +kernel
theorem d_M_letters_75 : decode b_M_letters 75 = .ok (.iaload, 1) := by decide +kernel
theorem d_M_letters_76 : decode b_M_letters 76 = .ok (.bipush 20, 2) := by decide +kernel
theorem d_M_letters_78 : decode b_M_letters 78 = .ok (.if_icmp .ne 7, 3) := by decide +kernel
theorem d_M_letters_81 : decode b_M_letters 81 = .ok (.iconst 2, 1) := by decide +kernel
theorem d_M_letters_82 : decode b_M_letters 82 = .ok (.goto 4, 3) := by decide +kernel
theorem d_M_letters_85 : decode b_M_letters 85 = .ok (.iconst 0, 1) := by decide +kernel
theorem d_M_letters_86 : decode b_M_letters 86 = .ok (.invokevirtual 72, 3) := by decide +kernel
theorem d_M_letters_89 : decode b_M_letters 89 = .ok (.ifCond .eq 4, 3) := by decide +kernel
theorem d_M_letters_92 : decode b_M_letters 92 = .ok (.return_, 1) := by decide +kernel
theorem d_M_letters_93 : decode b_M_letters 93 = .ok (.bipush 20, 2) := by decide +kernel
theorem d_M_letters_95 : decode b_M_letters 95 = .ok (.aload_n 0, 1) := by decide +kernel
theorem d_M_letters_96 : decode b_M_letters 96 = .ok (.getfield 76, 3) := by decide +kernel
theorem d_M_letters_99 : decode b_M_letters 99 = .ok (.imul, 1) := by decide +kernel
theorem d_M_letters_100 : decode b_M_letters 100 = .ok (.aload_n 0, 1) := by decide +kernel
theorem d_M_letters_101 : decode b_M_letters 101 = .ok (.getfield 7, 3) := by decide +kernel
theorem d_M_letters_104 : decode b_M_letters 104 = .ok (.aload_n 0, 1) := by decide +kernel
theorem d_M_letters_105 : decode b_M_letters 105 = .ok (.getfield 76, 3) := by decide +kernel
theorem d_M_letters_108 : decode b_M_letters 108 = .ok (.iaload, 1) := by decide +kernel
theorem d_M_letters_109 : decode b_M_letters 109 = .ok (.iadd, 1) := by decide +kernel
theorem d_M_letters_110 : decode b_M_letters 110 = .ok (.istore 5, 2) := by decide +kernel
theorem d_M_letters_112 : decode b_M_letters 112 = .ok (.aload_n 0, 1) := by decide +kernel
theorem d_M_letters_113 : decode b_M_letters 113 = .ok (.getfield 13, 3) := by decide +kernel
theorem d_M_letters_116 : decode b_M_letters 116 = .ok (.iload 5, 2) := by decide +kernel
theorem d_M_letters_118 : decode b_M_letters 118 = .ok (.iload_n 1, 1) := by decide +kernel
theorem d_M_letters_119 : decode b_M_letters 119 = .ok (.iastore, 1) := by decide +kernel
theorem d_M_letters_120 : decode b_M_letters 120 = .ok (.aload_n 0, 1) := by decide +kernel
theorem d_M_letters_121 : decode b_M_letters 121 = .ok (.getfield 16, 3) := by decide +kernel
theorem d_M_letters_124 : decode b_M_letters 124 = .ok (.iload 5, 2) := by decide +kernel
theorem d_M_letters_126 : decode b_M_letters 126 = .ok (.iload_n 2, 1) := by decide +kernel
theorem d_M_letters_127 : decode b_M_letters 127 = .ok (.iastore, 1) := by decide +kernel
theorem d_M_letters_128 : decode b_M_letters 128 = .ok (.aload_n 0, 1) := by decide +kernel
theorem d_M_letters_129 : decode b_M_letters 129 = .ok (.getfield 19, 3) := by decide +kernel
theorem d_M_letters_132 : decode b_M_letters 132 = .ok (.iload 5, 2) := by decide +kernel
theorem d_M_letters_134 : decode b_M_letters 134 = .ok (.iload_n 3, 1) := by decide +kernel
theorem d_M_letters_135 : decode b_M_letters 135 = .ok (.iastore, 1) := by decide +kernel
theorem d_M_letters_136 : decode b_M_letters 136 = .ok (.aload_n 0, 1) := by decide +kernel
theorem d_M_letters_137 : decode b_M_letters 137 = .ok (.getfield 7, 3) := by decide +kernel
theorem d_M_letters_140 : decode b_M_letters 140 = .ok (.aload_n 0, 1) := by decide +kernel
theorem d_M_letters_141 : decode b_M_letters 141 = .ok (.getfield 76, 3) := by decide +kernel
theorem d_M_letters_144 : decode b_M_letters 144 = .ok (.dup2, 1) := by decide +kernel
theorem d_M_letters_145 : decode b_M_letters 145 = .ok (.iaload, 1) := by decide +kernel
theorem d_M_letters_146 : decode b_M_letters 146 = .ok (.iconst 1, 1) := by decide +kernel
theorem d_M_letters_147 : decode b_M_letters 147 = .ok (.iadd, 1) := by decide +kernel
theorem d_M_letters_148 : decode b_M_letters 148 = .ok (.iastore, 1) := by decide +kernel
theorem d_M_letters_149 : decode b_M_letters 149 = .ok (.return_, 1) := by decide +kernel
def lay_M_letters (pc : Nat) : List Nat := if pc = 0 then [0, 1, 2, 3] else if pc = 27 then [0, 1, 2, 3] else if pc = 28 then [0, 1, 2, 3] else if pc = 54 then [0, 1, 2, 3] else if pc = 55 then [0, 1, 2, 3] else if pc = 86 then [0, 1, 2, 3] else []
noncomputable def sg_M_letters_0 (v0 : Nat) (v1 : Int32) (v2 : Int32) (v3 : Int32) (w : hy_W) : Option hy_N := hy_bi (f_M_isChar [.int v1] w) fun x3 w1 => if x3 = 0 then (some (.inl (27, [.ref v0, .int v1, .int v2, .int v3], w1))) else (hy_bi (f_M_isChar [.int v2] w1) fun x7 w5 => if x7 = 0 then (some (.inl (27, [.ref v0, .int v1, .int v2, .int v3], w5))) else (if v2 < v1 then (some (.inl (27, [.ref v0, .int v1, .int v2, .int v3], w5))) else (if v3 < 0 then (some (.inl (27, [.ref v0, .int v1, .int v2, .int v3], w5))) else (some (.inl (28, [.ref v0, .int v1, .int v2, .int v3, .int 1], w5))))))
noncomputable def sg_M_letters_27 (v0 : Nat) (v1 : Int32) (v2 : Int32) (v3 : Int32) (w : hy_W) : Option hy_N := some (.inl (28, [.ref v0, .int v1, .int v2, .int v3, .int 0], w))
noncomputable def sg_M_letters_28 (v0 : Nat) (v1 : Int32) (v2 : Int32) (v3 : Int32) (s0 : Int32) (w : hy_W) : Option hy_N := if s0 = 0 then (some (.inl (54, [.ref v0, .int v1, .int v2, .int v3], w))) else (if (0 : Int32) < (lg_cmp ((((v3 : Int32).toInt64) + ((v2 : Int32).toInt64)) - ((v1 : Int32).toInt64)) 1114111) then (some (.inl (54, [.ref v0, .int v1, .int v2, .int v3], w))) else (some (.inl (55, [.ref v0, .int v1, .int v2, .int v3, .int 1], w))))
noncomputable def sg_M_letters_54 (v0 : Nat) (v1 : Int32) (v2 : Int32) (v3 : Int32) (w : hy_W) : Option hy_N := some (.inl (55, [.ref v0, .int v1, .int v2, .int v3, .int 0], w))
noncomputable def sg_M_letters_55 (v0 : Nat) (v1 : Int32) (v2 : Int32) (v3 : Int32) (s0 : Int32) (w : hy_W) : Option hy_N := if s0 = 0 then (some (.inl (86, [.ref v0, .int v1, .int v2, .int v3, .int 1, .ref v0], w))) else ((hy_gr w v0 6 2).bind fun r2 => (hy_gi w v0 6 1).bind fun x3 => (hy_ai w r2 x3).bind fun x4 => if x4 = 20 then (some (.inl (86, [.ref v0, .int v1, .int v2, .int v3, .int 2, .ref v0], w))) else (some (.inl (86, [.ref v0, .int v1, .int v2, .int v3, .int 0, .ref v0], w))))
noncomputable def sg_M_letters_86 (v0 : Nat) (v1 : Int32) (v2 : Int32) (v3 : Int32) (s0 : Int32) (s1 : Nat) (w : hy_W) : Option hy_N := if hy_ob w s1 6 = true then hy_bi (f_M_refused [.ref s1, .int s0] w) fun x3 w1 => if x3 = 0 then ((hy_gi w1 v0 6 1).bind fun x6 => (hy_gr w1 v0 6 2).bind fun r7 => (hy_gi w1 v0 6 1).bind fun x8 => (hy_ai w1 r7 x8).bind fun x9 => (hy_gr w1 v0 6 3).bind fun r10 => (hy_pa w1 0 r10 ((20 * x6) + x9) (.int v1)).bind fun w11 => (hy_gr w11 v0 6 4).bind fun r12 => (hy_pa w11 0 r12 ((20 * x6) + x9) (.int v2)).bind fun w13 => (hy_gr w13 v0 6 5).bind fun r14 => (hy_pa w13 0 r14 ((20 * x6) + x9) (.int v3)).bind fun w15 => (hy_gr w15 v0 6 2).bind fun r16 => (hy_gi w15 v0 6 1).bind fun x17 => (hy_ai w15 r16 x17).bind fun x18 => (hy_pa w15 0 r16 x17 (.int (x18 + 1))).bind fun w19 => some (.inr (.inl none, w19))) else (some (.inr (.inl none, w1))) else none
noncomputable def nx_M_letters (q : hy_P) : Option hy_N := match q with
  | (0, [.ref v0, .int v1, .int v2, .int v3], w) => sg_M_letters_0 v0 v1 v2 v3 w
  | (27, [.ref v0, .int v1, .int v2, .int v3], w) => sg_M_letters_27 v0 v1 v2 v3 w
  | (28, [.ref v0, .int v1, .int v2, .int v3, .int s0], w) => sg_M_letters_28 v0 v1 v2 v3 s0 w
  | (54, [.ref v0, .int v1, .int v2, .int v3], w) => sg_M_letters_54 v0 v1 v2 v3 w
  | (55, [.ref v0, .int v1, .int v2, .int v3, .int s0], w) => sg_M_letters_55 v0 v1 v2 v3 s0 w
  | (86, [.ref v0, .int v1, .int v2, .int v3, .int s0, .ref s1], w) => sg_M_letters_86 v0 v1 v2 v3 s0 s1 w
  | _ => none
noncomputable def f_M_letters (av : List Value) (w : hy_W) : Option hy_O := hy_fx nx_M_letters (0, av, w)
set_option maxHeartbeats 4000000 in
set_option maxRecDepth 100000 in
theorem sk_M_letters_0 {p : Program} {l : Launch} {e : Env} {s : State} {m : MethodId} {args : Array Value} {below : List Frame} {meth : Method} {c : Code} {G : hy_G} {A : Nat → Prop} {ad0 : Nat → Nat} {w0 : hy_W} {o : hy_O} (hl9 : l.flags = flags0) (hA : hy_A G ad0 w0 s.heap.size = A) (B : hy_B p l e (hy_rm 1 21 w0) s m args below meth c "HyphenPatternsModel" b_M_letters 6 none [] G A) (v0 : Nat) (v1 : Int32) (v2 : Int32) (v3 : Int32) (w : hy_W) (nx : hy_N) (h : sg_M_letters_0 v0 v1 v2 v3 w = some nx) (K : hy_Nx lay_M_letters p l e (hy_rm 1 21 w0) s m args below meth c 6 G A ad0 w0.1.length (hy_Q below G ad0 w0 o args s) o nx) : hy_At lay_M_letters p l e (hy_rm 1 21 w0) s m args below meth c 6 G A ad0 w0.1.length (hy_Q below G ad0 w0 o args s) (0, [.ref v0, .int v1, .int v2, .int v3], w) := by
  intro ad H locs cells slots ls S hok hl
  have hx := B.1
  have hb := B.2.1
  dsimp only at S hok
  have hl : lv_has ls 6 [(0, .ref (ad v0)), (1, .int v1), (2, .int v2), (3, .int v3)] := hl
  show W p l e (hy_rm 1 21 w0) s m args below meth c H locs cells slots (hy_Q below G ad0 w0 o args s) (F0 m 0 ls [])
  have hv_v0 : v0 < w.1.length := hok (.ref v0) (List.mem_of_getElem? (i := 0) rfl) v0 rfl
  obtain ⟨a_v0, ha_v0⟩ : ∃ a, ad v0 = a := ⟨_, rfl⟩
  rw [ha_v0] at hl
  unfold sg_M_letters_0 at h
  refine lv_iload_n hx hb d_M_letters_0 rfl (lv_at hl 1 rfl) ?_
  obtain ⟨x3, w1, hq_w1, h⟩ := hy_bi_spec h
  refine hy_calli (hy_runS (rest := []) (As := [.int v1]) B S (by rfl) (c_M_isChar hl9 G ad hq_w1) (hy_oki hy_ok0) tw_747 tw_9 tw_745 tw_746 (by decide) rfl (Nat.le_of_ble_eq_true rfl) (Nat.le_of_ble_eq_true rfl) hl.1 (Nat.le_of_ble_eq_true rfl) d_M_letters_1) (fun ad2 H locs cells slots hag hl_w1 S => ?_)
  have ha_v0 : ad2 v0 = a_v0 := (hag v0 (by omega)).trans ha_v0
  refine lv_if_eq (tgt := 27) hx hb d_M_letters_4 (by decide) (fun c4 => ?_) (fun c4 => ?_)
  · rw [if_pos c4] at h
    cases h
    exact hy_jump K S (hy_okr (by omega) (hy_oki (hy_oki (hy_oki hy_ok0)))) (lv_sub hl [0, 1, 2, 3] rfl) (by subst ha_v0; rfl) (by subst ha_v0; rfl)
  · rw [if_neg c4] at h
    refine lv_iload_n hx hb d_M_letters_7 rfl (lv_at hl 2 rfl) ?_
    obtain ⟨x7, w5, hq_w5, h⟩ := hy_bi_spec h
    refine hy_calli (hy_runS (rest := []) (As := [.int v2]) B S (by rfl) (c_M_isChar hl9 G ad2 hq_w5) (hy_oki hy_ok0) tw_747 tw_9 tw_745 tw_746 (by decide) rfl (Nat.le_of_ble_eq_true rfl) (Nat.le_of_ble_eq_true rfl) hl.1 (Nat.le_of_ble_eq_true rfl) d_M_letters_8) (fun ad6 H locs cells slots hag hl_w5 S => ?_)
    have ha_v0 : ad6 v0 = a_v0 := (hag v0 (by omega)).trans ha_v0
    refine lv_if_eq (tgt := 27) hx hb d_M_letters_11 (by decide) (fun c8 => ?_) (fun c8 => ?_)
    · rw [if_pos c8] at h
      cases h
      exact hy_jump K S (hy_okr (by omega) (hy_oki (hy_oki (hy_oki hy_ok0)))) (lv_sub hl [0, 1, 2, 3] rfl) (by subst ha_v0; rfl) (by subst ha_v0; rfl)
    · rw [if_neg c8] at h
      refine lv_iload_n hx hb d_M_letters_14 rfl (lv_at hl 1 rfl) ?_
      refine lv_iload_n hx hb d_M_letters_15 rfl (lv_at hl 2 rfl) ?_
      refine lv_icmp_gt (tgt := 27) hx hb d_M_letters_16 (by decide) (fun c9 => ?_) (fun c9 => ?_)
      · rw [if_pos c9] at h
        cases h
        exact hy_jump K S (hy_okr (by omega) (hy_oki (hy_oki (hy_oki hy_ok0)))) (lv_sub hl [0, 1, 2, 3] rfl) (by subst ha_v0; rfl) (by subst ha_v0; rfl)
      · rw [if_neg c9] at h
        refine lv_iload_n hx hb d_M_letters_19 rfl (lv_at hl 3 rfl) ?_
        refine lv_if_lt (tgt := 27) hx hb d_M_letters_20 (by decide) (fun c10 => ?_) (fun c10 => ?_)
        · rw [if_pos c10] at h
          cases h
          exact hy_jump K S (hy_okr (by omega) (hy_oki (hy_oki (hy_oki hy_ok0)))) (lv_sub hl [0, 1, 2, 3] rfl) (by subst ha_v0; rfl) (by subst ha_v0; rfl)
        · rw [if_neg c10] at h
          refine lv_iconst (v := 1) hx hb d_M_letters_23 (by decide) ?_
          refine lv_goto (tgt := 28) hx hb d_M_letters_24 (by decide) ?_
          cases h
          exact hy_jump K S (hy_okr (by omega) (hy_oki (hy_oki (hy_oki (hy_oki hy_ok0))))) (lv_sub hl [0, 1, 2, 3] rfl) (by subst ha_v0; rfl) (by subst ha_v0; rfl)
set_option maxHeartbeats 4000000 in
set_option maxRecDepth 100000 in
theorem sk_M_letters_27 {p : Program} {l : Launch} {e : Env} {s : State} {m : MethodId} {args : Array Value} {below : List Frame} {meth : Method} {c : Code} {G : hy_G} {A : Nat → Prop} {ad0 : Nat → Nat} {w0 : hy_W} {o : hy_O} (hl9 : l.flags = flags0) (hA : hy_A G ad0 w0 s.heap.size = A) (B : hy_B p l e (hy_rm 1 21 w0) s m args below meth c "HyphenPatternsModel" b_M_letters 6 none [] G A) (v0 : Nat) (v1 : Int32) (v2 : Int32) (v3 : Int32) (w : hy_W) (nx : hy_N) (h : sg_M_letters_27 v0 v1 v2 v3 w = some nx) (K : hy_Nx lay_M_letters p l e (hy_rm 1 21 w0) s m args below meth c 6 G A ad0 w0.1.length (hy_Q below G ad0 w0 o args s) o nx) : hy_At lay_M_letters p l e (hy_rm 1 21 w0) s m args below meth c 6 G A ad0 w0.1.length (hy_Q below G ad0 w0 o args s) (27, [.ref v0, .int v1, .int v2, .int v3], w) := by
  intro ad H locs cells slots ls S hok hl
  have hx := B.1
  have hb := B.2.1
  dsimp only at S hok
  have hl : lv_has ls 6 [(0, .ref (ad v0)), (1, .int v1), (2, .int v2), (3, .int v3)] := hl
  show W p l e (hy_rm 1 21 w0) s m args below meth c H locs cells slots (hy_Q below G ad0 w0 o args s) (F0 m 27 ls [])
  have hv_v0 : v0 < w.1.length := hok (.ref v0) (List.mem_of_getElem? (i := 0) rfl) v0 rfl
  obtain ⟨a_v0, ha_v0⟩ : ∃ a, ad v0 = a := ⟨_, rfl⟩
  rw [ha_v0] at hl
  unfold sg_M_letters_27 at h
  refine lv_iconst (v := 0) hx hb d_M_letters_27 (by decide) ?_
  cases h
  exact hy_jump K S (hy_okr (by omega) (hy_oki (hy_oki (hy_oki (hy_oki hy_ok0))))) (lv_sub hl [0, 1, 2, 3] rfl) (by subst ha_v0; rfl) (by subst ha_v0; rfl)
set_option maxHeartbeats 4000000 in
set_option maxRecDepth 100000 in
theorem sk_M_letters_28 {p : Program} {l : Launch} {e : Env} {s : State} {m : MethodId} {args : Array Value} {below : List Frame} {meth : Method} {c : Code} {G : hy_G} {A : Nat → Prop} {ad0 : Nat → Nat} {w0 : hy_W} {o : hy_O} (hl9 : l.flags = flags0) (hA : hy_A G ad0 w0 s.heap.size = A) (B : hy_B p l e (hy_rm 1 21 w0) s m args below meth c "HyphenPatternsModel" b_M_letters 6 none [] G A) (v0 : Nat) (v1 : Int32) (v2 : Int32) (v3 : Int32) (s0 : Int32) (w : hy_W) (nx : hy_N) (h : sg_M_letters_28 v0 v1 v2 v3 s0 w = some nx) (K : hy_Nx lay_M_letters p l e (hy_rm 1 21 w0) s m args below meth c 6 G A ad0 w0.1.length (hy_Q below G ad0 w0 o args s) o nx) : hy_At lay_M_letters p l e (hy_rm 1 21 w0) s m args below meth c 6 G A ad0 w0.1.length (hy_Q below G ad0 w0 o args s) (28, [.ref v0, .int v1, .int v2, .int v3, .int s0], w) := by
  intro ad H locs cells slots ls S hok hl
  have hx := B.1
  have hb := B.2.1
  dsimp only at S hok
  have hl : lv_has ls 6 [(0, .ref (ad v0)), (1, .int v1), (2, .int v2), (3, .int v3)] := hl
  show W p l e (hy_rm 1 21 w0) s m args below meth c H locs cells slots (hy_Q below G ad0 w0 o args s) (F0 m 28 ls [.int s0])
  have hv_v0 : v0 < w.1.length := hok (.ref v0) (List.mem_of_getElem? (i := 0) rfl) v0 rfl
  obtain ⟨a_v0, ha_v0⟩ : ∃ a, ad v0 = a := ⟨_, rfl⟩
  rw [ha_v0] at hl
  unfold sg_M_letters_28 at h
  refine lv_istore (lv' := [(4, .int s0), (0, .ref a_v0), (1, .int v1), (2, .int v2), (3, .int v3)]) hx hb d_M_letters_28 hl (Nat.le_of_ble_eq_true rfl) rfl (fun ls hl => ?_)
  refine lv_iload hx hb d_M_letters_30 (lv_at hl 0 rfl) ?_
  refine lv_if_eq (tgt := 54) hx hb d_M_letters_32 (by decide) (fun c1 => ?_) (fun c1 => ?_)
  · rw [if_pos c1] at h
    cases h
    exact hy_jump K S (hy_okr (by omega) (hy_oki (hy_oki (hy_oki hy_ok0)))) (lv_sub hl [1, 2, 3, 4] rfl) (by subst ha_v0; rfl) (by subst ha_v0; rfl)
  · rw [if_neg c1] at h
    refine lv_iload_n hx hb d_M_letters_35 rfl (lv_at hl 4 rfl) ?_
    refine lv_i2l (v := (v3 : Int32).toInt64) hx hb d_M_letters_36 rfl ?_
    refine lv_iload_n hx hb d_M_letters_37 rfl (lv_at hl 3 rfl) ?_
    refine lv_i2l (v := (v2 : Int32).toInt64) hx hb d_M_letters_38 rfl ?_
    refine lv_ladd hx hb d_M_letters_39 ?_
    refine lv_iload_n hx hb d_M_letters_40 rfl (lv_at hl 2 rfl) ?_
    refine lv_i2l (v := (v1 : Int32).toInt64) hx hb d_M_letters_41 rfl ?_
    refine lv_lsub hx hb d_M_letters_42 ?_
    refine lv_ldc2 (v := 1114111) hx hb B.2.2.2.1 (B.2.2.2.2.1 _ tw_749) d_M_letters_43 ?_
    refine W.lcmp hx hb d_M_letters_46 ?_
    refine lv_if_gt (tgt := 54) hx hb d_M_letters_47 (by decide) (fun c2 => ?_) (fun c2 => ?_)
    · rw [if_pos c2] at h
      cases h
      exact hy_jump K S (hy_okr (by omega) (hy_oki (hy_oki (hy_oki hy_ok0)))) (lv_sub hl [1, 2, 3, 4] rfl) (by subst ha_v0; rfl) (by subst ha_v0; rfl)
    · rw [if_neg c2] at h
      refine lv_iconst (v := 1) hx hb d_M_letters_50 (by decide) ?_
      refine lv_goto (tgt := 55) hx hb d_M_letters_51 (by decide) ?_
      cases h
      exact hy_jump K S (hy_okr (by omega) (hy_oki (hy_oki (hy_oki (hy_oki hy_ok0))))) (lv_sub hl [1, 2, 3, 4] rfl) (by subst ha_v0; rfl) (by subst ha_v0; rfl)
set_option maxHeartbeats 4000000 in
set_option maxRecDepth 100000 in
theorem sk_M_letters_54 {p : Program} {l : Launch} {e : Env} {s : State} {m : MethodId} {args : Array Value} {below : List Frame} {meth : Method} {c : Code} {G : hy_G} {A : Nat → Prop} {ad0 : Nat → Nat} {w0 : hy_W} {o : hy_O} (hl9 : l.flags = flags0) (hA : hy_A G ad0 w0 s.heap.size = A) (B : hy_B p l e (hy_rm 1 21 w0) s m args below meth c "HyphenPatternsModel" b_M_letters 6 none [] G A) (v0 : Nat) (v1 : Int32) (v2 : Int32) (v3 : Int32) (w : hy_W) (nx : hy_N) (h : sg_M_letters_54 v0 v1 v2 v3 w = some nx) (K : hy_Nx lay_M_letters p l e (hy_rm 1 21 w0) s m args below meth c 6 G A ad0 w0.1.length (hy_Q below G ad0 w0 o args s) o nx) : hy_At lay_M_letters p l e (hy_rm 1 21 w0) s m args below meth c 6 G A ad0 w0.1.length (hy_Q below G ad0 w0 o args s) (54, [.ref v0, .int v1, .int v2, .int v3], w) := by
  intro ad H locs cells slots ls S hok hl
  have hx := B.1
  have hb := B.2.1
  dsimp only at S hok
  have hl : lv_has ls 6 [(0, .ref (ad v0)), (1, .int v1), (2, .int v2), (3, .int v3)] := hl
  show W p l e (hy_rm 1 21 w0) s m args below meth c H locs cells slots (hy_Q below G ad0 w0 o args s) (F0 m 54 ls [])
  have hv_v0 : v0 < w.1.length := hok (.ref v0) (List.mem_of_getElem? (i := 0) rfl) v0 rfl
  obtain ⟨a_v0, ha_v0⟩ : ∃ a, ad v0 = a := ⟨_, rfl⟩
  rw [ha_v0] at hl
  unfold sg_M_letters_54 at h
  refine lv_iconst (v := 0) hx hb d_M_letters_54 (by decide) ?_
  cases h
  exact hy_jump K S (hy_okr (by omega) (hy_oki (hy_oki (hy_oki (hy_oki hy_ok0))))) (lv_sub hl [0, 1, 2, 3] rfl) (by subst ha_v0; rfl) (by subst ha_v0; rfl)
set_option maxHeartbeats 4000000 in
set_option maxRecDepth 100000 in
theorem sk_M_letters_55 {p : Program} {l : Launch} {e : Env} {s : State} {m : MethodId} {args : Array Value} {below : List Frame} {meth : Method} {c : Code} {G : hy_G} {A : Nat → Prop} {ad0 : Nat → Nat} {w0 : hy_W} {o : hy_O} (hl9 : l.flags = flags0) (hA : hy_A G ad0 w0 s.heap.size = A) (B : hy_B p l e (hy_rm 1 21 w0) s m args below meth c "HyphenPatternsModel" b_M_letters 6 none [] G A) (v0 : Nat) (v1 : Int32) (v2 : Int32) (v3 : Int32) (s0 : Int32) (w : hy_W) (nx : hy_N) (h : sg_M_letters_55 v0 v1 v2 v3 s0 w = some nx) (K : hy_Nx lay_M_letters p l e (hy_rm 1 21 w0) s m args below meth c 6 G A ad0 w0.1.length (hy_Q below G ad0 w0 o args s) o nx) : hy_At lay_M_letters p l e (hy_rm 1 21 w0) s m args below meth c 6 G A ad0 w0.1.length (hy_Q below G ad0 w0 o args s) (55, [.ref v0, .int v1, .int v2, .int v3, .int s0], w) := by
  intro ad H locs cells slots ls S hok hl
  have hx := B.1
  have hb := B.2.1
  dsimp only at S hok
  have hl : lv_has ls 6 [(0, .ref (ad v0)), (1, .int v1), (2, .int v2), (3, .int v3)] := hl
  show W p l e (hy_rm 1 21 w0) s m args below meth c H locs cells slots (hy_Q below G ad0 w0 o args s) (F0 m 55 ls [.int s0])
  have hv_v0 : v0 < w.1.length := hok (.ref v0) (List.mem_of_getElem? (i := 0) rfl) v0 rfl
  obtain ⟨a_v0, ha_v0⟩ : ∃ a, ad v0 = a := ⟨_, rfl⟩
  rw [ha_v0] at hl
  unfold sg_M_letters_55 at h
  refine lv_istore (lv' := [(4, .int s0), (0, .ref a_v0), (1, .int v1), (2, .int v2), (3, .int v3)]) hx hb d_M_letters_55 hl (Nat.le_of_ble_eq_true rfl) rfl (fun ls hl => ?_)
  refine lv_aload_n hx hb d_M_letters_57 rfl (lv_at hl 1 rfl) ?_
  refine lv_iload hx hb d_M_letters_58 (lv_at hl 0 rfl) ?_
  refine lv_if_ne (tgt := 67) hx hb d_M_letters_60 (by decide) (fun c1 => ?_) (fun c1 => ?_)
  · rw [if_neg c1] at h
    refine lv_aload_n hx hb d_M_letters_67 rfl (lv_at hl 1 rfl) ?_
    obtain ⟨r2, hr2, h⟩ := hy_bd h
    refine hy_getr B S ha_v0 hr2 rfl (Nat.le_of_ble_eq_true rfl) i_6 (j := 2) tw_652 (fun _ h => h) d_M_letters_68 (fun a_r2 ha_r2 hv_r2 => ?_)
    refine lv_aload_n hx hb d_M_letters_71 rfl (lv_at hl 1 rfl) ?_
    obtain ⟨x3, hx3, h⟩ := hy_bd h
    refine hy_geti B S ha_v0 hx3 rfl (Nat.le_of_ble_eq_true rfl) i_6 (j := 1) tw_651 (fun _ h => h) d_M_letters_72 ?_
    obtain ⟨x4, hx4, h⟩ := hy_bd h
    refine hy_iald B S ha_r2 hx4 d_M_letters_75 ?_
    refine lv_bipush (v := 20) hx hb d_M_letters_76 (by decide) ?_
    refine lv_icmp_ne (tgt := 85) hx hb d_M_letters_78 (by decide) (fun c5 => ?_) (fun c5 => ?_)
    · rw [if_neg c5] at h
      refine lv_iconst (v := 0) hx hb d_M_letters_85 (by decide) ?_
      cases h
      exact hy_jump K S (hy_okr (by omega) (hy_oki (hy_oki (hy_oki (hy_oki (hy_okr (by omega) hy_ok0)))))) (lv_sub hl [1, 2, 3, 4] rfl) (by subst ha_v0; rfl) (by subst ha_v0; rfl)
    · rw [if_pos c5] at h
      refine lv_iconst (v := 2) hx hb d_M_letters_81 (by decide) ?_
      refine lv_goto (tgt := 86) hx hb d_M_letters_82 (by decide) ?_
      cases h
      exact hy_jump K S (hy_okr (by omega) (hy_oki (hy_oki (hy_oki (hy_oki (hy_okr (by omega) hy_ok0)))))) (lv_sub hl [1, 2, 3, 4] rfl) (by subst ha_v0; rfl) (by subst ha_v0; rfl)
  · rw [if_pos c1] at h
    refine lv_iconst (v := 1) hx hb d_M_letters_63 (by decide) ?_
    refine lv_goto (tgt := 86) hx hb d_M_letters_64 (by decide) ?_
    cases h
    exact hy_jump K S (hy_okr (by omega) (hy_oki (hy_oki (hy_oki (hy_oki (hy_okr (by omega) hy_ok0)))))) (lv_sub hl [1, 2, 3, 4] rfl) (by subst ha_v0; rfl) (by subst ha_v0; rfl)
set_option maxHeartbeats 4000000 in
set_option maxRecDepth 100000 in
theorem sk_M_letters_86 {p : Program} {l : Launch} {e : Env} {s : State} {m : MethodId} {args : Array Value} {below : List Frame} {meth : Method} {c : Code} {G : hy_G} {A : Nat → Prop} {ad0 : Nat → Nat} {w0 : hy_W} {o : hy_O} (hl9 : l.flags = flags0) (hA : hy_A G ad0 w0 s.heap.size = A) (B : hy_B p l e (hy_rm 1 21 w0) s m args below meth c "HyphenPatternsModel" b_M_letters 6 none [] G A) (v0 : Nat) (v1 : Int32) (v2 : Int32) (v3 : Int32) (s0 : Int32) (s1 : Nat) (w : hy_W) (nx : hy_N) (h : sg_M_letters_86 v0 v1 v2 v3 s0 s1 w = some nx) (K : hy_Nx lay_M_letters p l e (hy_rm 1 21 w0) s m args below meth c 6 G A ad0 w0.1.length (hy_Q below G ad0 w0 o args s) o nx) : hy_At lay_M_letters p l e (hy_rm 1 21 w0) s m args below meth c 6 G A ad0 w0.1.length (hy_Q below G ad0 w0 o args s) (86, [.ref v0, .int v1, .int v2, .int v3, .int s0, .ref s1], w) := by
  intro ad H locs cells slots ls S hok hl
  have hx := B.1
  have hb := B.2.1
  dsimp only at S hok
  have hl : lv_has ls 6 [(0, .ref (ad v0)), (1, .int v1), (2, .int v2), (3, .int v3)] := hl
  show W p l e (hy_rm 1 21 w0) s m args below meth c H locs cells slots (hy_Q below G ad0 w0 o args s) (F0 m 86 ls [.int s0, .ref (ad s1)])
  have hv_v0 : v0 < w.1.length := hok (.ref v0) (List.mem_of_getElem? (i := 0) rfl) v0 rfl
  obtain ⟨a_v0, ha_v0⟩ : ∃ a, ad v0 = a := ⟨_, rfl⟩
  rw [ha_v0] at hl
  have hv_s1 : s1 < w.1.length := hok (.ref s1) (List.mem_of_getElem? (i := 5) rfl) s1 rfl
  obtain ⟨a_s1, ha_s1⟩ : ∃ a, ad s1 = a := ⟨_, rfl⟩
  rw [ha_s1]
  unfold sg_M_letters_86 at h
  obtain ⟨ob4, h⟩ := hy_if h
  obtain ⟨fs_ob4, hf_ob4, hg_ob4⟩ := hy_ob_spec ob4
  obtain ⟨x3, w1, hq_w1, h⟩ := hy_bi_spec h
  refine hy_calli (hy_runV (rest := []) (As := [.int s0]) (r := s1) (b := a_s1) B S rfl ha_s1 (by rfl) (c_M_refused hl9 G ad hq_w1) (hy_okr (by omega) (hy_oki hy_ok0)) tw_740 tw_9 tw_737 tw_739 sl_M_refused (by decide) rfl (Nat.le_of_ble_eq_true rfl) (Nat.le_of_ble_eq_true rfl) hf_ob4 hg_ob4 rfl hl.1 (Nat.le_of_ble_eq_true rfl) d_M_letters_86) (fun ad2 H locs cells slots hag hl_w1 S => ?_)
  have ha_v0 : ad2 v0 = a_v0 := (hag v0 (by omega)).trans ha_v0
  refine lv_if_eq (tgt := 93) hx hb d_M_letters_89 (by decide) (fun c5 => ?_) (fun c5 => ?_)
  · rw [if_pos c5] at h
    refine lv_bipush (v := 20) hx hb d_M_letters_93 (by decide) ?_
    refine lv_aload_n hx hb d_M_letters_95 rfl (lv_at hl 0 rfl) ?_
    obtain ⟨x6, hx6, h⟩ := hy_bd h
    refine hy_geti B S ha_v0 hx6 rfl (Nat.le_of_ble_eq_true rfl) i_6 (j := 1) tw_651 (fun _ h => h) d_M_letters_96 ?_
    refine lv_imul hx hb d_M_letters_99 ?_
    refine lv_aload_n hx hb d_M_letters_100 rfl (lv_at hl 0 rfl) ?_
    obtain ⟨r7, hr7, h⟩ := hy_bd h
    refine hy_getr B S ha_v0 hr7 rfl (Nat.le_of_ble_eq_true rfl) i_6 (j := 2) tw_652 (fun _ h => h) d_M_letters_101 (fun a_r7 ha_r7 hv_r7 => ?_)
    refine lv_aload_n hx hb d_M_letters_104 rfl (lv_at hl 0 rfl) ?_
    obtain ⟨x8, hx8, h⟩ := hy_bd h
    refine hy_geti B S ha_v0 hx8 rfl (Nat.le_of_ble_eq_true rfl) i_6 (j := 1) tw_651 (fun _ h => h) d_M_letters_105 ?_
    obtain ⟨x9, hx9, h⟩ := hy_bd h
    refine hy_iald B S ha_r7 hx9 d_M_letters_108 ?_
    refine lv_iadd hx hb d_M_letters_109 ?_
    refine lv_istore (lv' := [(5, .int ((20 * x6) + x9)), (0, .ref a_v0), (1, .int v1), (2, .int v2), (3, .int v3)]) hx hb d_M_letters_110 hl (Nat.le_of_ble_eq_true rfl) rfl (fun ls hl => ?_)
    refine lv_aload_n hx hb d_M_letters_112 rfl (lv_at hl 1 rfl) ?_
    obtain ⟨r10, hr10, h⟩ := hy_bd h
    refine hy_getr B S ha_v0 hr10 rfl (Nat.le_of_ble_eq_true rfl) i_6 (j := 3) tw_653 (fun _ h => h) d_M_letters_113 (fun a_r10 ha_r10 hv_r10 => ?_)
    refine lv_iload hx hb d_M_letters_116 (lv_at hl 0 rfl) ?_
    refine lv_iload_n hx hb d_M_letters_118 rfl (lv_at hl 2 rfl) ?_
    obtain ⟨w11, hw11, h⟩ := hy_bd h
    refine hy_iast B S ha_r10 hw11 d_M_letters_119 (fun H locs S hl_w11 => ?_)
    refine lv_aload_n hx hb d_M_letters_120 rfl (lv_at hl 1 rfl) ?_
    obtain ⟨r12, hr12, h⟩ := hy_bd h
    refine hy_getr B S ha_v0 hr12 rfl (Nat.le_of_ble_eq_true rfl) i_6 (j := 4) tw_654 (fun _ h => h) d_M_letters_121 (fun a_r12 ha_r12 hv_r12 => ?_)
    refine lv_iload hx hb d_M_letters_124 (lv_at hl 0 rfl) ?_
    refine lv_iload_n hx hb d_M_letters_126 rfl (lv_at hl 3 rfl) ?_
    obtain ⟨w13, hw13, h⟩ := hy_bd h
    refine hy_iast B S ha_r12 hw13 d_M_letters_127 (fun H locs S hl_w13 => ?_)
    refine lv_aload_n hx hb d_M_letters_128 rfl (lv_at hl 1 rfl) ?_
    obtain ⟨r14, hr14, h⟩ := hy_bd h
    refine hy_getr B S ha_v0 hr14 rfl (Nat.le_of_ble_eq_true rfl) i_6 (j := 5) tw_655 (fun _ h => h) d_M_letters_129 (fun a_r14 ha_r14 hv_r14 => ?_)
    refine lv_iload hx hb d_M_letters_132 (lv_at hl 0 rfl) ?_
    refine lv_iload_n hx hb d_M_letters_134 rfl (lv_at hl 4 rfl) ?_
    obtain ⟨w15, hw15, h⟩ := hy_bd h
    refine hy_iast B S ha_r14 hw15 d_M_letters_135 (fun H locs S hl_w15 => ?_)
    refine lv_aload_n hx hb d_M_letters_136 rfl (lv_at hl 1 rfl) ?_
    obtain ⟨r16, hr16, h⟩ := hy_bd h
    refine hy_getr B S ha_v0 hr16 rfl (Nat.le_of_ble_eq_true rfl) i_6 (j := 2) tw_652 (fun _ h => h) d_M_letters_137 (fun a_r16 ha_r16 hv_r16 => ?_)
    refine lv_aload_n hx hb d_M_letters_140 rfl (lv_at hl 1 rfl) ?_
    obtain ⟨x17, hx17, h⟩ := hy_bd h
    refine hy_geti B S ha_v0 hx17 rfl (Nat.le_of_ble_eq_true rfl) i_6 (j := 1) tw_651 (fun _ h => h) d_M_letters_141 ?_
    refine lv_dup2_11 hx hb d_M_letters_144 rfl rfl ?_
    obtain ⟨x18, hx18, h⟩ := hy_bd h
    refine hy_iald B S ha_r16 hx18 d_M_letters_145 ?_
    refine lv_iconst (v := 1) hx hb d_M_letters_146 (by decide) ?_
    refine lv_iadd hx hb d_M_letters_147 ?_
    obtain ⟨w19, hw19, h⟩ := hy_bd h
    refine hy_iast B S ha_r16 hw19 d_M_letters_148 (fun H locs S hl_w19 => ?_)
    cases h
    cases K
    exact hy_vret hA B S d_M_letters_149
  · rw [if_neg c5] at h
    cases h
    cases K
    exact hy_vret hA B S d_M_letters_92
theorem nk_M_letters {p : Program} {l : Launch} {e : Env} {s : State} {m : MethodId} {args : Array Value} {below : List Frame} {meth : Method} {c : Code} {G : hy_G} {A : Nat → Prop} {ad0 : Nat → Nat} {w0 : hy_W} {o : hy_O} (hl9 : l.flags = flags0) (hA : hy_A G ad0 w0 s.heap.size = A) (B : hy_B p l e (hy_rm 1 21 w0) s m args below meth c "HyphenPatternsModel" b_M_letters 6 none [] G A) (q : hy_P) (nx : hy_N) (hq : nx_M_letters q = some nx) (K : hy_Nx lay_M_letters p l e (hy_rm 1 21 w0) s m args below meth c 6 G A ad0 w0.1.length (hy_Q below G ad0 w0 o args s) o nx) : hy_At lay_M_letters p l e (hy_rm 1 21 w0) s m args below meth c 6 G A ad0 w0.1.length (hy_Q below G ad0 w0 o args s) q := by
  unfold nx_M_letters at hq
  split at hq
  · exact sk_M_letters_0 hl9 hA B _ _ _ _ _ nx hq K
  · exact sk_M_letters_27 hl9 hA B _ _ _ _ _ nx hq K
  · exact sk_M_letters_28 hl9 hA B _ _ _ _ _ _ nx hq K
  · exact sk_M_letters_54 hl9 hA B _ _ _ _ _ nx hq K
  · exact sk_M_letters_55 hl9 hA B _ _ _ _ _ _ nx hq K
  · exact sk_M_letters_86 hl9 hA B _ _ _ _ _ _ _ nx hq K
  · cases hq
theorem c_M_letters {l : Launch} (hl9 : l.flags = flags0) (G : hy_G) (ad : Nat → Nat) {v0 : Nat} {v1 : Int32} {v2 : Int32} {v3 : Int32} {w : hy_W} {o : hy_O} (h : f_M_letters [.ref v0, .int v1, .int v2, .int v3] w = some o) : hy_M l y_M_letters (Cond.code y_M_letters b_M_letters 6 none :: hy_T) 1 21 G ad [.ref v0, .int v1, .int v2, .int v3] w o := by
  obtain ⟨n, hn⟩ := hy_fx_iff.mp h
  refine hy_ofW hl9 (by decide +kernel) (Nat.le_of_ble_eq_true rfl) (fun p e s m args below meth c A hA hi B S hok ls hl => ?_)
  exact hy_loop (nk_M_letters hl9 hA B) n _ hn ad s.heap [] 0 0 ls S hok hl
theorem d_M_least_0 : decode b_M_least 0 = .ok (.iload_n 1, 1) := by decide +kernel
theorem d_M_least_1 : decode b_M_least 1 = .ok (.iconst 1, 1) := by decide +kernel
theorem d_M_least_2 : decode b_M_least 2 = .ok (.if_icmp .lt 24, 3) := by decide +kernel
theorem d_M_least_5 : decode b_M_least 5 = .ok (.iload_n 1, 1) := by decide +kernel
theorem d_M_least_6 : decode b_M_least 6 = .ok (.bipush 20, 2) := by decide +kernel
theorem d_M_least_8 : decode b_M_least 8 = .ok (.if_icmp .gt 18, 3) := by decide +kernel
theorem d_M_least_11 : decode b_M_least 11 = .ok (.iload_n 2, 1) := by decide +kernel
theorem d_M_least_12 : decode b_M_least 12 = .ok (.iconst 1, 1) := by decide +kernel
theorem d_M_least_13 : decode b_M_least 13 = .ok (.if_icmp .lt 13, 3) := by decide +kernel
theorem d_M_least_16 : decode b_M_least 16 = .ok (.iload_n 2, 1) := by decide +kernel
theorem d_M_least_17 : decode b_M_least 17 = .ok (.bipush 20, 2) := by decide +kernel
theorem d_M_least_19 : decode b_M_least 19 = .ok (.if_icmp .gt 7, 3) := by decide +kernel
theorem d_M_least_22 : decode b_M_least 22 = .ok (.iconst 1, 1) := by decide +kernel
theorem d_M_least_23 : decode b_M_least 23 = .ok (.goto 4, 3) := by decide +kernel
theorem d_M_least_26 : decode b_M_least 26 = .ok (.iconst 0, 1) := by decide +kernel
theorem d_M_least_27 : decode b_M_least 27 = .ok (.istore_n 3, 1) := by decide +kernel
theorem d_M_least_28 : decode b_M_least 28 = .ok (.aload_n 0, 1) := by decide +kernel
theorem d_M_least_29 : decode b_M_least 29 = .ok (.iload_n 3, 1) := by decide +kernel
theorem d_M_least_30 : decode b_M_least 30 = .ok (.ifCond .eq 7, 3) := by decide +kernel
theorem d_M_least_33 : decode b_M_least 33 = .ok (.iconst 0, 1) := by decide +kernel
theorem d_M_least_34 : decode b_M_least 34 = .ok (.goto 4, 3) := by decide +kernel
theorem d_M_least_37 : decode b_M_least 37 = .ok (.iconst 1, 1) := by decide +kernel
theorem d_M_least_38 : decode b_M_least 38 = .ok (.invokevirtual 72, 3) := by decide +kernel
theorem d_M_least_41 : decode b_M_least 41 = .ok (.ifCond .ne 23, 3) := by decide +kernel
theorem d_M_least_44 : decode b_M_least 44 = .ok (.aload_n 0, 1) := by decide +kernel
theorem d_M_least_45 : decode b_M_least 45 = .ok (.getfield 22, 3) := by decide +kernel
theorem d_M_least_48 : decode b_M_least 48 = .ok (.aload_n 0, 1) := by decide +kernel
theorem d_M_least_49 : decode b_M_least 49 = .ok (.getfield 76, 3) := by decide +kernel
theorem d_M_least_52 : decode b_M_least 52 = .ok (.iload_n 1, 1) := by decide +kernel
theorem d_M_least_53 : decode b_M_least 53 = .ok (.iastore, 1) := by decide +kernel
theorem d_M_least_54 : decode b_M_least 54 = .ok (.aload_n 0, 1) := by decide +kernel
theorem d_M_least_55 : decode b_M_least 55 = .ok (.getfield 25, 3) := by decide +kernel
theorem d_M_least_58 : decode b_M_least 58 = .ok (.aload_n 0, 1) := by decide +kernel
theorem d_M_least_59 : decode b_M_least 59 = .ok (.getfield 76, 3) := by decide +kernel
theorem d_M_least_62 : decode b_M_least 62 = .ok (.iload_n 2, 1) := by decide +kernel
theorem d_M_least_63 : decode b_M_least 63 = .ok (.iastore, 1) := by decide +kernel
theorem d_M_least_64 : decode b_M_least 64 = .ok (.return_, 1) := by decide +kernel
def lay_M_least (pc : Nat) : List Nat := if pc = 0 then [0, 1, 2] else if pc = 26 then [0, 1, 2] else if pc = 27 then [0, 1, 2] else if pc = 38 then [0, 1, 2] else []
noncomputable def sg_M_least_0 (v0 : Nat) (v1 : Int32) (v2 : Int32) (w : hy_W) : Option hy_N := if v1 < 1 then (some (.inl (26, [.ref v0, .int v1, .int v2], w))) else (if (20 : Int32) < v1 then (some (.inl (26, [.ref v0, .int v1, .int v2], w))) else (if v2 < 1 then (some (.inl (26, [.ref v0, .int v1, .int v2], w))) else (if (20 : Int32) < v2 then (some (.inl (26, [.ref v0, .int v1, .int v2], w))) else (some (.inl (27, [.ref v0, .int v1, .int v2, .int 1], w))))))
noncomputable def sg_M_least_26 (v0 : Nat) (v1 : Int32) (v2 : Int32) (w : hy_W) : Option hy_N := some (.inl (27, [.ref v0, .int v1, .int v2, .int 0], w))
noncomputable def sg_M_least_27 (v0 : Nat) (v1 : Int32) (v2 : Int32) (s0 : Int32) (w : hy_W) : Option hy_N := if s0 = 0 then (some (.inl (38, [.ref v0, .int v1, .int v2, .int 1, .ref v0], w))) else (some (.inl (38, [.ref v0, .int v1, .int v2, .int 0, .ref v0], w)))
noncomputable def sg_M_least_38 (v0 : Nat) (v1 : Int32) (v2 : Int32) (s0 : Int32) (s1 : Nat) (w : hy_W) : Option hy_N := if hy_ob w s1 6 = true then hy_bi (f_M_refused [.ref s1, .int s0] w) fun x3 w1 => if x3 = 0 then ((hy_gr w1 v0 6 6).bind fun r6 => (hy_gi w1 v0 6 1).bind fun x7 => (hy_pa w1 0 r6 x7 (.int v1)).bind fun w8 => (hy_gr w8 v0 6 7).bind fun r9 => (hy_gi w8 v0 6 1).bind fun x10 => (hy_pa w8 0 r9 x10 (.int v2)).bind fun w11 => some (.inr (.inl none, w11))) else (some (.inr (.inl none, w1))) else none
noncomputable def nx_M_least (q : hy_P) : Option hy_N := match q with
  | (0, [.ref v0, .int v1, .int v2], w) => sg_M_least_0 v0 v1 v2 w
  | (26, [.ref v0, .int v1, .int v2], w) => sg_M_least_26 v0 v1 v2 w
  | (27, [.ref v0, .int v1, .int v2, .int s0], w) => sg_M_least_27 v0 v1 v2 s0 w
  | (38, [.ref v0, .int v1, .int v2, .int s0, .ref s1], w) => sg_M_least_38 v0 v1 v2 s0 s1 w
  | _ => none
noncomputable def f_M_least (av : List Value) (w : hy_W) : Option hy_O := hy_fx nx_M_least (0, av, w)
set_option maxHeartbeats 4000000 in
set_option maxRecDepth 100000 in
theorem sk_M_least_0 {p : Program} {l : Launch} {e : Env} {s : State} {m : MethodId} {args : Array Value} {below : List Frame} {meth : Method} {c : Code} {G : hy_G} {A : Nat → Prop} {ad0 : Nat → Nat} {w0 : hy_W} {o : hy_O} (hl9 : l.flags = flags0) (hA : hy_A G ad0 w0 s.heap.size = A) (B : hy_B p l e (hy_rm 1 21 w0) s m args below meth c "HyphenPatternsModel" b_M_least 4 none [] G A) (v0 : Nat) (v1 : Int32) (v2 : Int32) (w : hy_W) (nx : hy_N) (h : sg_M_least_0 v0 v1 v2 w = some nx) (K : hy_Nx lay_M_least p l e (hy_rm 1 21 w0) s m args below meth c 4 G A ad0 w0.1.length (hy_Q below G ad0 w0 o args s) o nx) : hy_At lay_M_least p l e (hy_rm 1 21 w0) s m args below meth c 4 G A ad0 w0.1.length (hy_Q below G ad0 w0 o args s) (0, [.ref v0, .int v1, .int v2], w) := by
  intro ad H locs cells slots ls S hok hl
  have hx := B.1
  have hb := B.2.1
  dsimp only at S hok
  have hl : lv_has ls 4 [(0, .ref (ad v0)), (1, .int v1), (2, .int v2)] := hl
  show W p l e (hy_rm 1 21 w0) s m args below meth c H locs cells slots (hy_Q below G ad0 w0 o args s) (F0 m 0 ls [])
  have hv_v0 : v0 < w.1.length := hok (.ref v0) (List.mem_of_getElem? (i := 0) rfl) v0 rfl
  obtain ⟨a_v0, ha_v0⟩ : ∃ a, ad v0 = a := ⟨_, rfl⟩
  rw [ha_v0] at hl
  unfold sg_M_least_0 at h
  refine lv_iload_n hx hb d_M_least_0 rfl (lv_at hl 1 rfl) ?_
  refine lv_iconst (v := 1) hx hb d_M_least_1 (by decide) ?_
  refine lv_icmp_lt (tgt := 26) hx hb d_M_least_2 (by decide) (fun c1 => ?_) (fun c1 => ?_)
  · rw [if_pos c1] at h
    cases h
    exact hy_jump K S (hy_okr (by omega) (hy_oki (hy_oki hy_ok0))) (lv_sub hl [0, 1, 2] rfl) (by subst ha_v0; rfl) (by subst ha_v0; rfl)
  · rw [if_neg c1] at h
    refine lv_iload_n hx hb d_M_least_5 rfl (lv_at hl 1 rfl) ?_
    refine lv_bipush (v := 20) hx hb d_M_least_6 (by decide) ?_
    refine lv_icmp_gt (tgt := 26) hx hb d_M_least_8 (by decide) (fun c2 => ?_) (fun c2 => ?_)
    · rw [if_pos c2] at h
      cases h
      exact hy_jump K S (hy_okr (by omega) (hy_oki (hy_oki hy_ok0))) (lv_sub hl [0, 1, 2] rfl) (by subst ha_v0; rfl) (by subst ha_v0; rfl)
    · rw [if_neg c2] at h
      refine lv_iload_n hx hb d_M_least_11 rfl (lv_at hl 2 rfl) ?_
      refine lv_iconst (v := 1) hx hb d_M_least_12 (by decide) ?_
      refine lv_icmp_lt (tgt := 26) hx hb d_M_least_13 (by decide) (fun c3 => ?_) (fun c3 => ?_)
      · rw [if_pos c3] at h
        cases h
        exact hy_jump K S (hy_okr (by omega) (hy_oki (hy_oki hy_ok0))) (lv_sub hl [0, 1, 2] rfl) (by subst ha_v0; rfl) (by subst ha_v0; rfl)
      · rw [if_neg c3] at h
        refine lv_iload_n hx hb d_M_least_16 rfl (lv_at hl 2 rfl) ?_
        refine lv_bipush (v := 20) hx hb d_M_least_17 (by decide) ?_
        refine lv_icmp_gt (tgt := 26) hx hb d_M_least_19 (by decide) (fun c4 => ?_) (fun c4 => ?_)
        · rw [if_pos c4] at h
          cases h
          exact hy_jump K S (hy_okr (by omega) (hy_oki (hy_oki hy_ok0))) (lv_sub hl [0, 1, 2] rfl) (by subst ha_v0; rfl) (by subst ha_v0; rfl)
        · rw [if_neg c4] at h
          refine lv_iconst (v := 1) hx hb d_M_least_22 (by decide) ?_
          refine lv_goto (tgt := 27) hx hb d_M_least_23 (by decide) ?_
          cases h
          exact hy_jump K S (hy_okr (by omega) (hy_oki (hy_oki (hy_oki hy_ok0)))) (lv_sub hl [0, 1, 2] rfl) (by subst ha_v0; rfl) (by subst ha_v0; rfl)
set_option maxHeartbeats 4000000 in
set_option maxRecDepth 100000 in
theorem sk_M_least_26 {p : Program} {l : Launch} {e : Env} {s : State} {m : MethodId} {args : Array Value} {below : List Frame} {meth : Method} {c : Code} {G : hy_G} {A : Nat → Prop} {ad0 : Nat → Nat} {w0 : hy_W} {o : hy_O} (hl9 : l.flags = flags0) (hA : hy_A G ad0 w0 s.heap.size = A) (B : hy_B p l e (hy_rm 1 21 w0) s m args below meth c "HyphenPatternsModel" b_M_least 4 none [] G A) (v0 : Nat) (v1 : Int32) (v2 : Int32) (w : hy_W) (nx : hy_N) (h : sg_M_least_26 v0 v1 v2 w = some nx) (K : hy_Nx lay_M_least p l e (hy_rm 1 21 w0) s m args below meth c 4 G A ad0 w0.1.length (hy_Q below G ad0 w0 o args s) o nx) : hy_At lay_M_least p l e (hy_rm 1 21 w0) s m args below meth c 4 G A ad0 w0.1.length (hy_Q below G ad0 w0 o args s) (26, [.ref v0, .int v1, .int v2], w) := by
  intro ad H locs cells slots ls S hok hl
  have hx := B.1
  have hb := B.2.1
  dsimp only at S hok
  have hl : lv_has ls 4 [(0, .ref (ad v0)), (1, .int v1), (2, .int v2)] := hl
  show W p l e (hy_rm 1 21 w0) s m args below meth c H locs cells slots (hy_Q below G ad0 w0 o args s) (F0 m 26 ls [])
  have hv_v0 : v0 < w.1.length := hok (.ref v0) (List.mem_of_getElem? (i := 0) rfl) v0 rfl
  obtain ⟨a_v0, ha_v0⟩ : ∃ a, ad v0 = a := ⟨_, rfl⟩
  rw [ha_v0] at hl
  unfold sg_M_least_26 at h
  refine lv_iconst (v := 0) hx hb d_M_least_26 (by decide) ?_
  cases h
  exact hy_jump K S (hy_okr (by omega) (hy_oki (hy_oki (hy_oki hy_ok0)))) (lv_sub hl [0, 1, 2] rfl) (by subst ha_v0; rfl) (by subst ha_v0; rfl)
set_option maxHeartbeats 4000000 in
set_option maxRecDepth 100000 in
theorem sk_M_least_27 {p : Program} {l : Launch} {e : Env} {s : State} {m : MethodId} {args : Array Value} {below : List Frame} {meth : Method} {c : Code} {G : hy_G} {A : Nat → Prop} {ad0 : Nat → Nat} {w0 : hy_W} {o : hy_O} (hl9 : l.flags = flags0) (hA : hy_A G ad0 w0 s.heap.size = A) (B : hy_B p l e (hy_rm 1 21 w0) s m args below meth c "HyphenPatternsModel" b_M_least 4 none [] G A) (v0 : Nat) (v1 : Int32) (v2 : Int32) (s0 : Int32) (w : hy_W) (nx : hy_N) (h : sg_M_least_27 v0 v1 v2 s0 w = some nx) (K : hy_Nx lay_M_least p l e (hy_rm 1 21 w0) s m args below meth c 4 G A ad0 w0.1.length (hy_Q below G ad0 w0 o args s) o nx) : hy_At lay_M_least p l e (hy_rm 1 21 w0) s m args below meth c 4 G A ad0 w0.1.length (hy_Q below G ad0 w0 o args s) (27, [.ref v0, .int v1, .int v2, .int s0], w) := by
  intro ad H locs cells slots ls S hok hl
  have hx := B.1
  have hb := B.2.1
  dsimp only at S hok
  have hl : lv_has ls 4 [(0, .ref (ad v0)), (1, .int v1), (2, .int v2)] := hl
  show W p l e (hy_rm 1 21 w0) s m args below meth c H locs cells slots (hy_Q below G ad0 w0 o args s) (F0 m 27 ls [.int s0])
  have hv_v0 : v0 < w.1.length := hok (.ref v0) (List.mem_of_getElem? (i := 0) rfl) v0 rfl
  obtain ⟨a_v0, ha_v0⟩ : ∃ a, ad v0 = a := ⟨_, rfl⟩
  rw [ha_v0] at hl
  unfold sg_M_least_27 at h
  refine lv_istore_n (lv' := [(3, .int s0), (0, .ref a_v0), (1, .int v1), (2, .int v2)]) hx hb d_M_least_27 rfl hl (Nat.le_of_ble_eq_true rfl) rfl (fun ls hl => ?_)
  refine lv_aload_n hx hb d_M_least_28 rfl (lv_at hl 1 rfl) ?_
  refine lv_iload_n hx hb d_M_least_29 rfl (lv_at hl 0 rfl) ?_
  refine lv_if_eq (tgt := 37) hx hb d_M_least_30 (by decide) (fun c1 => ?_) (fun c1 => ?_)
  · rw [if_pos c1] at h
    refine lv_iconst (v := 1) hx hb d_M_least_37 (by decide) ?_
    cases h
    exact hy_jump K S (hy_okr (by omega) (hy_oki (hy_oki (hy_oki (hy_okr (by omega) hy_ok0))))) (lv_sub hl [1, 2, 3] rfl) (by subst ha_v0; rfl) (by subst ha_v0; rfl)
  · rw [if_neg c1] at h
    refine lv_iconst (v := 0) hx hb d_M_least_33 (by decide) ?_
    refine lv_goto (tgt := 38) hx hb d_M_least_34 (by decide) ?_
    cases h
    exact hy_jump K S (hy_okr (by omega) (hy_oki (hy_oki (hy_oki (hy_okr (by omega) hy_ok0))))) (lv_sub hl [1, 2, 3] rfl) (by subst ha_v0; rfl) (by subst ha_v0; rfl)
set_option maxHeartbeats 4000000 in
set_option maxRecDepth 100000 in
theorem sk_M_least_38 {p : Program} {l : Launch} {e : Env} {s : State} {m : MethodId} {args : Array Value} {below : List Frame} {meth : Method} {c : Code} {G : hy_G} {A : Nat → Prop} {ad0 : Nat → Nat} {w0 : hy_W} {o : hy_O} (hl9 : l.flags = flags0) (hA : hy_A G ad0 w0 s.heap.size = A) (B : hy_B p l e (hy_rm 1 21 w0) s m args below meth c "HyphenPatternsModel" b_M_least 4 none [] G A) (v0 : Nat) (v1 : Int32) (v2 : Int32) (s0 : Int32) (s1 : Nat) (w : hy_W) (nx : hy_N) (h : sg_M_least_38 v0 v1 v2 s0 s1 w = some nx) (K : hy_Nx lay_M_least p l e (hy_rm 1 21 w0) s m args below meth c 4 G A ad0 w0.1.length (hy_Q below G ad0 w0 o args s) o nx) : hy_At lay_M_least p l e (hy_rm 1 21 w0) s m args below meth c 4 G A ad0 w0.1.length (hy_Q below G ad0 w0 o args s) (38, [.ref v0, .int v1, .int v2, .int s0, .ref s1], w) := by
  intro ad H locs cells slots ls S hok hl
  have hx := B.1
  have hb := B.2.1
  dsimp only at S hok
  have hl : lv_has ls 4 [(0, .ref (ad v0)), (1, .int v1), (2, .int v2)] := hl
  show W p l e (hy_rm 1 21 w0) s m args below meth c H locs cells slots (hy_Q below G ad0 w0 o args s) (F0 m 38 ls [.int s0, .ref (ad s1)])
  have hv_v0 : v0 < w.1.length := hok (.ref v0) (List.mem_of_getElem? (i := 0) rfl) v0 rfl
  obtain ⟨a_v0, ha_v0⟩ : ∃ a, ad v0 = a := ⟨_, rfl⟩
  rw [ha_v0] at hl
  have hv_s1 : s1 < w.1.length := hok (.ref s1) (List.mem_of_getElem? (i := 4) rfl) s1 rfl
  obtain ⟨a_s1, ha_s1⟩ : ∃ a, ad s1 = a := ⟨_, rfl⟩
  rw [ha_s1]
  unfold sg_M_least_38 at h
  obtain ⟨ob4, h⟩ := hy_if h
  obtain ⟨fs_ob4, hf_ob4, hg_ob4⟩ := hy_ob_spec ob4
  obtain ⟨x3, w1, hq_w1, h⟩ := hy_bi_spec h
  refine hy_calli (hy_runV (rest := []) (As := [.int s0]) (r := s1) (b := a_s1) B S rfl ha_s1 (by rfl) (c_M_refused hl9 G ad hq_w1) (hy_okr (by omega) (hy_oki hy_ok0)) tw_740 tw_9 tw_737 tw_739 sl_M_refused (by decide) rfl (Nat.le_of_ble_eq_true rfl) (Nat.le_of_ble_eq_true rfl) hf_ob4 hg_ob4 rfl hl.1 (Nat.le_of_ble_eq_true rfl) d_M_least_38) (fun ad2 H locs cells slots hag hl_w1 S => ?_)
  have ha_v0 : ad2 v0 = a_v0 := (hag v0 (by omega)).trans ha_v0
  refine lv_if_ne (tgt := 64) hx hb d_M_least_41 (by decide) (fun c5 => ?_) (fun c5 => ?_)
  · rw [if_neg c5] at h
    cases h
    cases K
    exact hy_vret hA B S d_M_least_64
  · rw [if_pos c5] at h
    refine lv_aload_n hx hb d_M_least_44 rfl (lv_at hl 0 rfl) ?_
    obtain ⟨r6, hr6, h⟩ := hy_bd h
    refine hy_getr B S ha_v0 hr6 rfl (Nat.le_of_ble_eq_true rfl) i_6 (j := 6) tw_656 (fun _ h => h) d_M_least_45 (fun a_r6 ha_r6 hv_r6 => ?_)
    refine lv_aload_n hx hb d_M_least_48 rfl (lv_at hl 0 rfl) ?_
    obtain ⟨x7, hx7, h⟩ := hy_bd h
    refine hy_geti B S ha_v0 hx7 rfl (Nat.le_of_ble_eq_true rfl) i_6 (j := 1) tw_651 (fun _ h => h) d_M_least_49 ?_
    refine lv_iload_n hx hb d_M_least_52 rfl (lv_at hl 1 rfl) ?_
    obtain ⟨w8, hw8, h⟩ := hy_bd h
    refine hy_iast B S ha_r6 hw8 d_M_least_53 (fun H locs S hl_w8 => ?_)
    refine lv_aload_n hx hb d_M_least_54 rfl (lv_at hl 0 rfl) ?_
    obtain ⟨r9, hr9, h⟩ := hy_bd h
    refine hy_getr B S ha_v0 hr9 rfl (Nat.le_of_ble_eq_true rfl) i_6 (j := 7) tw_657 (fun _ h => h) d_M_least_55 (fun a_r9 ha_r9 hv_r9 => ?_)
    refine lv_aload_n hx hb d_M_least_58 rfl (lv_at hl 0 rfl) ?_
    obtain ⟨x10, hx10, h⟩ := hy_bd h
    refine hy_geti B S ha_v0 hx10 rfl (Nat.le_of_ble_eq_true rfl) i_6 (j := 1) tw_651 (fun _ h => h) d_M_least_59 ?_
    refine lv_iload_n hx hb d_M_least_62 rfl (lv_at hl 2 rfl) ?_
    obtain ⟨w11, hw11, h⟩ := hy_bd h
    refine hy_iast B S ha_r9 hw11 d_M_least_63 (fun H locs S hl_w11 => ?_)
    cases h
    cases K
    exact hy_vret hA B S d_M_least_64
theorem nk_M_least {p : Program} {l : Launch} {e : Env} {s : State} {m : MethodId} {args : Array Value} {below : List Frame} {meth : Method} {c : Code} {G : hy_G} {A : Nat → Prop} {ad0 : Nat → Nat} {w0 : hy_W} {o : hy_O} (hl9 : l.flags = flags0) (hA : hy_A G ad0 w0 s.heap.size = A) (B : hy_B p l e (hy_rm 1 21 w0) s m args below meth c "HyphenPatternsModel" b_M_least 4 none [] G A) (q : hy_P) (nx : hy_N) (hq : nx_M_least q = some nx) (K : hy_Nx lay_M_least p l e (hy_rm 1 21 w0) s m args below meth c 4 G A ad0 w0.1.length (hy_Q below G ad0 w0 o args s) o nx) : hy_At lay_M_least p l e (hy_rm 1 21 w0) s m args below meth c 4 G A ad0 w0.1.length (hy_Q below G ad0 w0 o args s) q := by
  unfold nx_M_least at hq
  split at hq
  · exact sk_M_least_0 hl9 hA B _ _ _ _ nx hq K
  · exact sk_M_least_26 hl9 hA B _ _ _ _ nx hq K
  · exact sk_M_least_27 hl9 hA B _ _ _ _ _ nx hq K
  · exact sk_M_least_38 hl9 hA B _ _ _ _ _ _ nx hq K
  · cases hq
theorem c_M_least {l : Launch} (hl9 : l.flags = flags0) (G : hy_G) (ad : Nat → Nat) {v0 : Nat} {v1 : Int32} {v2 : Int32} {w : hy_W} {o : hy_O} (h : f_M_least [.ref v0, .int v1, .int v2] w = some o) : hy_M l y_M_least (Cond.code y_M_least b_M_least 4 none :: hy_T) 1 21 G ad [.ref v0, .int v1, .int v2] w o := by
  obtain ⟨n, hn⟩ := hy_fx_iff.mp h
  refine hy_ofW hl9 (by decide +kernel) (Nat.le_of_ble_eq_true rfl) (fun p e s m args below meth c A hA hi B S hok ls hl => ?_)
  exact hy_loop (nk_M_least hl9 hA B) n _ hn ad s.heap [] 0 0 ls S hok hl
