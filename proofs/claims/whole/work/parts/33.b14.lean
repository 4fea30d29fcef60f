/-! BODIES (printed by our translator): M_value, M_isBroken, M_breaks, M_word, M_words, M_brokenPlaces, M_timesIn, M_times -/
theorem d_M_value_0 : decode b_M_value 0 = .ok (.aload_n 0, 1) := by decide +kernel
theorem d_M_value_1 : decode b_M_value 1 = .ok (.aload_n 0, 1) := by decide +kernel
theorem d_M_value_2 : decode b_M_value 2 = .ok (.iload_n 1, 1) := by decide +kernel
theorem d_M_value_3 : decode b_M_value 3 = .ok (.invokevirtual 168, 3) := by decide +kernel
theorem d_M_value_6 : decode b_M_value 6 = .ok (.ifCond .eq 7, 3) := by decide +kernel
theorem d_M_value_9 : decode b_M_value 9 = .ok (.iconst 0, 1) := by decide +kernel
theorem d_M_value_10 : decode b_M_value 10 = .ok (.goto 4, 3) := by decide +kernel
theorem d_M_value_13 : decode b_M_value 13 = .ok (.iconst 1, 1) := by decide +kernel
theorem d_M_value_14 : decode b_M_value 14 = .ok (.invokevirtual 72, 3) := by decide +kernel
theorem d_M_value_17 : decode b_M_value 17 = .ok (.ifCond .eq 7, 3) := by decide +kernel
theorem d_M_value_20 : decode b_M_value 20 = .ok (.iconst 0, 1) := by decide +kernel
theorem d_M_value_21 : decode b_M_value 21 = .ok (.goto 8, 3) := by decide +kernel
theorem d_M_value_24 : decode b_M_value 24 = .ok (.aload_n 0, 1) := by decide +kernel
theorem d_M_value_25 : decode b_M_value 25 = .ok (.iload_n 1, 1) := by decide +kernel
theorem d_M_value_26 : decode b_M_value 26 = .ok (.invokevirtual 165, 3) := by decide +kernel
theorem d_M_value_29 : decode b_M_value 29 = .ok (.ireturn, 1) := by decide +kernel
def lay_M_value (pc : Nat) : List Nat := if pc = 0 then [0, 1] else if pc = 14 then [0, 1] else []
noncomputable def sg_M_value_0 (v0 : Nat) (v1 : Int32) (w : hy_W) : Option hy_N := if hy_ob w v0 6 = true then hy_bi (f_M_isPlace [.ref v0, .int v1] w) fun x3 w1 => if x3 = 0 then (some (.inl (14, [.ref v0, .int v1, .int 1, .ref v0], w1))) else (some (.inl (14, [.ref v0, .int v1, .int 0, .ref v0], w1))) else none
noncomputable def sg_M_value_14 (v0 : Nat) (v1 : Int32) (s0 : Int32) (s1 : Nat) (w : hy_W) : Option hy_N := if hy_ob w s1 6 = true then hy_bi (f_M_refused [.ref s1, .int s0] w) fun x3 w1 => if x3 = 0 then (if hy_ob w1 v0 6 = true then hy_bi (f_M_valueOf [.ref v0, .int v1] w1) fun x8 w6 => some (.inr (.inl (some (.int x8)), w6)) else none) else (some (.inr (.inl (some (.int 0)), w1))) else none
noncomputable def nx_M_value (q : hy_P) : Option hy_N := match q with
  | (0, [.ref v0, .int v1], w) => sg_M_value_0 v0 v1 w
  | (14, [.ref v0, .int v1, .int s0, .ref s1], w) => sg_M_value_14 v0 v1 s0 s1 w
  | _ => none
noncomputable def f_M_value (av : List Value) (w : hy_W) : Option hy_O := hy_fx nx_M_value (0, av, w)
set_option maxHeartbeats 4000000 in
set_option maxRecDepth 100000 in
theorem sk_M_value_0 {p : Program} {l : Launch} {e : Env} {s : State} {m : MethodId} {args : Array Value} {below : List Frame} {meth : Method} {c : Code} {G : hy_G} {A : Nat → Prop} {ad0 : Nat → Nat} {w0 : hy_W} {o : hy_O} (hl9 : l.flags = flags0) (hA : hy_A G ad0 w0 s.heap.size = A) (B : hy_B p l e (hy_rm 5 123 w0) s m args below meth c "HyphenPatternsModel" b_M_value 2 (some .int) [] G A) (v0 : Nat) (v1 : Int32) (w : hy_W) (nx : hy_N) (h : sg_M_value_0 v0 v1 w = some nx) (K : hy_Nx lay_M_value p l e (hy_rm 5 123 w0) s m args below meth c 2 G A ad0 w0.1.length (hy_Q below G ad0 w0 o args s) o nx) : hy_At lay_M_value p l e (hy_rm 5 123 w0) s m args below meth c 2 G A ad0 w0.1.length (hy_Q below G ad0 w0 o args s) (0, [.ref v0, .int v1], w) := by
  intro ad H locs cells slots ls S hok hl
  have hx := B.1
  have hb := B.2.1
  dsimp only at S hok
  have hl : lv_has ls 2 [(0, .ref (ad v0)), (1, .int v1)] := hl
  show W p l e (hy_rm 5 123 w0) s m args below meth c H locs cells slots (hy_Q below G ad0 w0 o args s) (F0 m 0 ls [])
  have hv_v0 : v0 < w.1.length := hok (.ref v0) (List.mem_of_getElem? (i := 0) rfl) v0 rfl
  obtain ⟨a_v0, ha_v0⟩ : ∃ a, ad v0 = a := ⟨_, rfl⟩
  rw [ha_v0] at hl
  unfold sg_M_value_0 at h
  refine lv_aload_n hx hb d_M_value_0 rfl (lv_at hl 0 rfl) ?_
  refine lv_aload_n hx hb d_M_value_1 rfl (lv_at hl 0 rfl) ?_
  refine lv_iload_n hx hb d_M_value_2 rfl (lv_at hl 1 rfl) ?_
  obtain ⟨ob4, h⟩ := hy_if h
  obtain ⟨fs_ob4, hf_ob4, hg_ob4⟩ := hy_ob_spec ob4
  obtain ⟨x3, w1, hq_w1, h⟩ := hy_bi_spec h
  refine hy_calli (hy_runV (rest := [.ref a_v0]) (As := [.int v1]) (r := v0) (b := a_v0) B S rfl ha_v0 (by rfl) (c_M_isPlace hl9 G ad hq_w1) (hy_okr (by omega) (hy_oki hy_ok0)) tw_829 tw_9 tw_826 tw_828 sl_M_isPlace (by decide) rfl (Nat.le_of_ble_eq_true rfl) (Nat.le_of_ble_eq_true rfl) hf_ob4 hg_ob4 rfl hl.1 (Nat.le_of_ble_eq_true rfl) d_M_value_3) (fun ad2 H locs cells slots hag hl_w1 S => ?_)
  have ha_v0 : ad2 v0 = a_v0 := (hag v0 (by omega)).trans ha_v0
  refine lv_if_eq (tgt := 13) hx hb d_M_value_6 (by decide) (fun c5 => ?_) (fun c5 => ?_)
  · rw [if_pos c5] at h
    refine lv_iconst (v := 1) hx hb d_M_value_13 (by decide) ?_
    cases h
    exact hy_jump K S (hy_okr (by omega) (hy_oki (hy_oki (hy_okr (by omega) hy_ok0)))) (lv_sub hl [0, 1] rfl) (by subst ha_v0; rfl) (by subst ha_v0; rfl)
  · rw [if_neg c5] at h
    refine lv_iconst (v := 0) hx hb d_M_value_9 (by decide) ?_
    refine lv_goto (tgt := 14) hx hb d_M_value_10 (by decide) ?_
    cases h
    exact hy_jump K S (hy_okr (by omega) (hy_oki (hy_oki (hy_okr (by omega) hy_ok0)))) (lv_sub hl [0, 1] rfl) (by subst ha_v0; rfl) (by subst ha_v0; rfl)
set_option maxHeartbeats 4000000 in
set_option maxRecDepth 100000 in
theorem sk_M_value_14 {p : Program} {l : Launch} {e : Env} {s : State} {m : MethodId} {args : Array Value} {below : List Frame} {meth : Method} {c : Code} {G : hy_G} {A : Nat → Prop} {ad0 : Nat → Nat} {w0 : hy_W} {o : hy_O} (hl9 : l.flags = flags0) (hA : hy_A G ad0 w0 s.heap.size = A) (B : hy_B p l e (hy_rm 5 123 w0) s m args below meth c "HyphenPatternsModel" b_M_value 2 (some .int) [] G A) (v0 : Nat) (v1 : Int32) (s0 : Int32) (s1 : Nat) (w : hy_W) (nx : hy_N) (h : sg_M_value_14 v0 v1 s0 s1 w = some nx) (K : hy_Nx lay_M_value p l e (hy_rm 5 123 w0) s m args below meth c 2 G A ad0 w0.1.length (hy_Q below G ad0 w0 o args s) o nx) : hy_At lay_M_value p l e (hy_rm 5 123 w0) s m args below meth c 2 G A ad0 w0.1.length (hy_Q below G ad0 w0 o args s) (14, [.ref v0, .int v1, .int s0, .ref s1], w) := by
  intro ad H locs cells slots ls S hok hl
  have hx := B.1
  have hb := B.2.1
  dsimp only at S hok
  have hl : lv_has ls 2 [(0, .ref (ad v0)), (1, .int v1)] := hl
  show W p l e (hy_rm 5 123 w0) s m args below meth c H locs cells slots (hy_Q below G ad0 w0 o args s) (F0 m 14 ls [.int s0, .ref (ad s1)])
  have hv_v0 : v0 < w.1.length := hok (.ref v0) (List.mem_of_getElem? (i := 0) rfl) v0 rfl
  obtain ⟨a_v0, ha_v0⟩ : ∃ a, ad v0 = a := ⟨_, rfl⟩
  rw [ha_v0] at hl
  have hv_s1 : s1 < w.1.length := hok (.ref s1) (List.mem_of_getElem? (i := 3) rfl) s1 rfl
  obtain ⟨a_s1, ha_s1⟩ : ∃ a, ad s1 = a := ⟨_, rfl⟩
  rw [ha_s1]
  unfold sg_M_value_14 at h
  obtain ⟨ob4, h⟩ := hy_if h
  obtain ⟨fs_ob4, hf_ob4, hg_ob4⟩ := hy_ob_spec ob4
  obtain ⟨x3, w1, hq_w1, h⟩ := hy_bi_spec h
  refine hy_calli (hy_runV (rest := []) (As := [.int s0]) (r := s1) (b := a_s1) B S rfl ha_s1 (by rfl) (c_M_refused hl9 G ad hq_w1) (hy_okr (by omega) (hy_oki hy_ok0)) tw_740 tw_9 tw_737 tw_739 sl_M_refused (by decide) rfl (Nat.le_of_ble_eq_true rfl) (Nat.le_of_ble_eq_true rfl) hf_ob4 hg_ob4 rfl hl.1 (Nat.le_of_ble_eq_true rfl) d_M_value_14) (fun ad2 H locs cells slots hag hl_w1 S => ?_)
  have ha_v0 : ad2 v0 = a_v0 := (hag v0 (by omega)).trans ha_v0
  refine lv_if_eq (tgt := 24) hx hb d_M_value_17 (by decide) (fun c5 => ?_) (fun c5 => ?_)
  · rw [if_pos c5] at h
    refine lv_aload_n hx hb d_M_value_24 rfl (lv_at hl 0 rfl) ?_
    refine lv_iload_n hx hb d_M_value_25 rfl (lv_at hl 1 rfl) ?_
    obtain ⟨ob9, h⟩ := hy_if h
    obtain ⟨fs_ob9, hf_ob9, hg_ob9⟩ := hy_ob_spec ob9
    obtain ⟨x8, w6, hq_w6, h⟩ := hy_bi_spec h
    refine hy_calli (hy_runV (rest := []) (As := [.int v1]) (r := v0) (b := a_v0) B S rfl ha_v0 (by rfl) (c_M_valueOf hl9 G ad2 hq_w6) (hy_okr (by omega) (hy_oki hy_ok0)) tw_833 tw_9 tw_830 tw_832 sl_M_valueOf (by decide) rfl (Nat.le_of_ble_eq_true rfl) (Nat.le_of_ble_eq_true rfl) hf_ob9 hg_ob9 rfl hl.1 (Nat.le_of_ble_eq_true rfl) d_M_value_26) (fun ad7 H locs cells slots hag hl_w6 S => ?_)
    have ha_v0 : ad7 v0 = a_v0 := (hag v0 (by omega)).trans ha_v0
    cases h
    cases K
    exact hy_iret hA B S d_M_value_29
  · rw [if_neg c5] at h
    refine lv_iconst (v := 0) hx hb d_M_value_20 (by decide) ?_
    refine lv_goto (tgt := 29) hx hb d_M_value_21 (by decide) ?_
    cases h
    cases K
    exact hy_iret hA B S d_M_value_29
theorem nk_M_value {p : Program} {l : Launch} {e : Env} {s : State} {m : MethodId} {args : Array Value} {below : List Frame} {meth : Method} {c : Code} {G : hy_G} {A : Nat → Prop} {ad0 : Nat → Nat} {w0 : hy_W} {o : hy_O} (hl9 : l.flags = flags0) (hA : hy_A G ad0 w0 s.heap.size = A) (B : hy_B p l e (hy_rm 5 123 w0) s m args below meth c "HyphenPatternsModel" b_M_value 2 (some .int) [] G A) (q : hy_P) (nx : hy_N) (hq : nx_M_value q = some nx) (K : hy_Nx lay_M_value p l e (hy_rm 5 123 w0) s m args below meth c 2 G A ad0 w0.1.length (hy_Q below G ad0 w0 o args s) o nx) : hy_At lay_M_value p l e (hy_rm 5 123 w0) s m args below meth c 2 G A ad0 w0.1.length (hy_Q below G ad0 w0 o args s) q := by
  unfold nx_M_value at hq
  split at hq
  · exact sk_M_value_0 hl9 hA B _ _ _ nx hq K
  · exact sk_M_value_14 hl9 hA B _ _ _ _ _ nx hq K
  · cases hq
theorem c_M_value {l : Launch} (hl9 : l.flags = flags0) (G : hy_G) (ad : Nat → Nat) {v0 : Nat} {v1 : Int32} {w : hy_W} {o : hy_O} (h : f_M_value [.ref v0, .int v1] w = some o) : hy_M l y_M_value (Cond.code y_M_value b_M_value 2 (some .int) :: hy_T) 5 123 G ad [.ref v0, .int v1] w o := by
  obtain ⟨n, hn⟩ := hy_fx_iff.mp h
  refine hy_ofW hl9 (by decide +kernel) (Nat.le_of_ble_eq_true rfl) (fun p e s m args below meth c A hA hi B S hok ls hl => ?_)
  exact hy_loop (nk_M_value hl9 hA B) n _ hn ad s.heap [] 0 0 ls S hok hl
theorem d_M_isBroken_0 : decode b_M_isBroken 0 = .ok (.aload_n 0, 1) := by decide +kernel
theorem d_M_isBroken_1 : decode b_M_isBroken 1 = .ok (.iload_n 1, 1) := by decide +kernel
theorem d_M_isBroken_2 : decode b_M_isBroken 2 = .ok (.invokevirtual 152, 3) := by decide +kernel
theorem d_M_isBroken_5 : decode b_M_isBroken 5 = .ok (.ifCond .eq 13, 3) := by decide +kernel
theorem d_M_isBroken_8 : decode b_M_isBroken 8 = .ok (.aload_n 0, 1) := by decide +kernel
theorem d_M_isBroken_9 : decode b_M_isBroken 9 = .ok (.iload_n 1, 1) := by decide +kernel
theorem d_M_isBroken_10 : decode b_M_isBroken 10 = .ok (.invokevirtual 165, 3) := by decide +kernel
theorem d_M_isBroken_13 : decode b_M_isBroken 13 = .ok (.iconst 2, 1) := by decide +kernel
theorem d_M_isBroken_14 : decode b_M_isBroken 14 = .ok (.irem, 1) := by decide +kernel
theorem d_M_isBroken_15 : decode b_M_isBroken 15 = .ok (.ifCond .ne 5, 3) := by decide +kernel
theorem d_M_isBroken_18 : decode b_M_isBroken 18 = .ok (.iconst 0, 1) := by decide +kernel
theorem d_M_isBroken_19 : decode b_M_isBroken 19 = .ok (.ireturn, 1) := by decide +kernel
theorem d_M_isBroken_20 : decode b_M_isBroken 20 = .ok (.iload_n 1, 1) := by decide +kernel
theorem d_M_isBroken_21 : decode b_M_isBroken 21 = .ok (.aload_n 0, 1) := by decide +kernel
theorem d_M_isBroken_22 : decode b_M_isBroken 22 = .ok (.iload_n 1, 1) := by decide +kernel
theorem d_M_isBroken_23 : decode b_M_isBroken 23 = .ok (.invokevirtual 155, 3) := by decide +kernel
theorem d_M_isBroken_26 : decode b_M_isBroken 26 = .ok (.isub, 1) := by decide +kernel
theorem d_M_isBroken_27 : decode b_M_isBroken 27 = .ok (.aload_n 0, 1) := by decide +kernel
theorem d_M_isBroken_28 : decode b_M_isBroken 28 = .ok (.getfield 22, 3) := by decide +kernel
theorem d_M_isBroken_31 : decode b_M_isBroken 31 = .ok (.aload_n 0, 1) := by decide +kernel
theorem d_M_isBroken_32 : decode b_M_isBroken 32 = .ok (.getfield 76, 3) := by decide +kernel
theorem d_M_isBroken_35 : decode b_M_isBroken 35 = .ok (.iaload, 1) := by decide +kernel
theorem d_M_isBroken_36 : decode b_M_isBroken 36 = .ok (.if_icmp .lt 26, 3) := by decide +kernel
theorem d_M_isBroken_39 : decode b_M_isBroken 39 = .ok (.aload_n 0, 1) := by decide +kernel
theorem d_M_isBroken_40 : decode b_M_isBroken 40 = .ok (.iload_n 1, 1) := by decide +kernel
theorem d_M_isBroken_41 : decode b_M_isBroken 41 = .ok (.invokevirtual 158, 3) := by decide +kernel
theorem d_M_isBroken_44 : decode b_M_isBroken 44 = .ok (.iload_n 1, 1) := by decide +kernel
theorem d_M_isBroken_45 : decode b_M_isBroken 45 = .ok (.isub, 1) := by decide +kernel
theorem d_M_isBroken_46 : decode b_M_isBroken 46 = .ok (.aload_n 0, 1) := by decide +kernel
theorem d_M_isBroken_47 : decode b_M_isBroken 47 = .ok (.getfield 25, 3) := by decide +kernel
theorem d_M_isBroken_50 : decode b_M_isBroken 50 = .ok (.aload_n 0, 1) := by decide +kernel
theorem d_M_isBroken_51 : decode b_M_isBroken 51 = .ok (.getfield 76, 3) := by decide +kernel
theorem d_M_isBroken_54 : decode b_M_isBroken 54 = .ok (.iaload, 1) := by decide +kernel
theorem d_M_isBroken_55 : decode b_M_isBroken 55 = .ok (.if_icmp .lt 7, 3) := by decide +kernel
theorem d_M_isBroken_58 : decode b_M_isBroken 58 = .ok (.iconst 1, 1) := by decide +kernel
theorem d_M_isBroken_59 : decode b_M_isBroken 59 = .ok (.goto 4, 3) := by decide +kernel
theorem d_M_isBroken_62 : decode b_M_isBroken 62 = .ok (.iconst 0, 1) := by decide +kernel
theorem d_M_isBroken_63 : decode b_M_isBroken 63 = .ok (.ireturn, 1) := by decide +kernel
def lay_M_isBroken (pc : Nat) : List Nat := if pc = 0 then [0, 1] else if pc = 62 then [] else []
noncomputable def sg_M_isBroken_0 (v0 : Nat) (v1 : Int32) (w : hy_W) : Option hy_N := if hy_ob w v0 6 = true then hy_bi (f_M_isWithin [.ref v0, .int v1] w) fun x3 w1 => if x3 = 0 then (some (.inr (.inl (some (.int 0)), w1))) else (if hy_ob w1 v0 6 = true then hy_bi (f_M_valueOf [.ref v0, .int v1] w1) fun x8 w6 => if (x8 - x8 / 2 * 2) = 0 then (some (.inr (.inl (some (.int 0)), w6))) else (if hy_ob w6 v0 6 = true then hy_bi (f_M_begin [.ref v0, .int v1] w6) fun x13 w11 => (hy_gr w11 v0 6 6).bind fun r15 => (hy_gi w11 v0 6 1).bind fun x16 => (hy_ai w11 r15 x16).bind fun x17 => if (v1 - x13) < x17 then (some (.inl (62, [], w11))) else (if hy_ob w11 v0 6 = true then hy_bi (f_M_end [.ref v0, .int v1] w11) fun x21 w19 => (hy_gr w19 v0 6 7).bind fun r23 => (hy_gi w19 v0 6 1).bind fun x24 => (hy_ai w19 r23 x24).bind fun x25 => if (x21 - v1) < x25 then (some (.inl (62, [], w19))) else (some (.inr (.inl (some (.int 1)), w19))) else none) else none) else none) else none
noncomputable def sg_M_isBroken_62  (w : hy_W) : Option hy_N := some (.inr (.inl (some (.int 0)), w))
noncomputable def nx_M_isBroken (q : hy_P) : Option hy_N := match q with
  | (0, [.ref v0, .int v1], w) => sg_M_isBroken_0 v0 v1 w
  | (62, [], w) => sg_M_isBroken_62  w
  | _ => none
noncomputable def f_M_isBroken (av : List Value) (w : hy_W) : Option hy_O := hy_fx nx_M_isBroken (0, av, w)
set_option maxHeartbeats 4000000 in
set_option maxRecDepth 100000 in
theorem sk_M_isBroken_0 {p : Program} {l : Launch} {e : Env} {s : State} {m : MethodId} {args : Array Value} {below : List Frame} {meth : Method} {c : Code} {G : hy_G} {A : Nat → Prop} {ad0 : Nat → Nat} {w0 : hy_W} {o : hy_O} (hl9 : l.flags = flags0) (hA : hy_A G ad0 w0 s.heap.size = A) (B : hy_B p l e (hy_rm 5 123 w0) s m args below meth c "HyphenPatternsModel" b_M_isBroken 2 (some .boolean) [] G A) (v0 : Nat) (v1 : Int32) (w : hy_W) (nx : hy_N) (h : sg_M_isBroken_0 v0 v1 w = some nx) (K : hy_Nx lay_M_isBroken p l e (hy_rm 5 123 w0) s m args below meth c 2 G A ad0 w0.1.length (hy_Q below G ad0 w0 o args s) o nx) : hy_At lay_M_isBroken p l e (hy_rm 5 123 w0) s m args below meth c 2 G A ad0 w0.1.length (hy_Q below G ad0 w0 o args s) (0, [.ref v0, .int v1], w) := by
  intro ad H locs cells slots ls S hok hl
  have hx := B.1
  have hb := B.2.1
  dsimp only at S hok
  have hl : lv_has ls 2 [(0, .ref (ad v0)), (1, .int v1)] := hl
  show W p l e (hy_rm 5 123 w0) s m args below meth c H locs cells slots (hy_Q below G ad0 w0 o args s) (F0 m 0 ls [])
  have hv_v0 : v0 < w.1.length := hok (.ref v0) (List.mem_of_getElem? (i := 0) rfl) v0 rfl
  obtain ⟨a_v0, ha_v0⟩ : ∃ a, ad v0 = a := ⟨_, rfl⟩
  rw [ha_v0] at hl
  unfold sg_M_isBroken_0 at h
  refine lv_aload_n hx hb d_M_isBroken_0 rfl (lv_at hl 0 rfl) ?_
  refine lv_iload_n hx hb d_M_isBroken_1 rfl (lv_at hl 1 rfl) ?_
  obtain ⟨ob4, h⟩ := hy_if h
  obtain ⟨fs_ob4, hf_ob4, hg_ob4⟩ := hy_ob_spec ob4
  obtain ⟨x3, w1, hq_w1, h⟩ := hy_bi_spec h
  refine hy_calli (hy_runV (rest := []) (As := [.int v1]) (r := v0) (b := a_v0) B S rfl ha_v0 (by rfl) (c_M_isWithin hl9 G ad hq_w1) (hy_okr (by omega) (hy_oki hy_ok0)) tw_837 tw_9 tw_834 tw_836 sl_M_isWithin (by decide) rfl (Nat.le_of_ble_eq_true rfl) (Nat.le_of_ble_eq_true rfl) hf_ob4 hg_ob4 rfl hl.1 (Nat.le_of_ble_eq_true rfl) d_M_isBroken_2) (fun ad2 H locs cells slots hag hl_w1 S => ?_)
  have ha_v0 : ad2 v0 = a_v0 := (hag v0 (by omega)).trans ha_v0
  refine lv_if_eq (tgt := 18) hx hb d_M_isBroken_5 (by decide) (fun c5 => ?_) (fun c5 => ?_)
  · rw [if_pos c5] at h
    refine lv_iconst (v := 0) hx hb d_M_isBroken_18 (by decide) ?_
    cases h
    cases K
    exact hy_zret hA B S (by decide) d_M_isBroken_19
  · rw [if_neg c5] at h
    refine lv_aload_n hx hb d_M_isBroken_8 rfl (lv_at hl 0 rfl) ?_
    refine lv_iload_n hx hb d_M_isBroken_9 rfl (lv_at hl 1 rfl) ?_
    obtain ⟨ob9, h⟩ := hy_if h
    obtain ⟨fs_ob9, hf_ob9, hg_ob9⟩ := hy_ob_spec ob9
    obtain ⟨x8, w6, hq_w6, h⟩ := hy_bi_spec h
    refine hy_calli (hy_runV (rest := []) (As := [.int v1]) (r := v0) (b := a_v0) B S rfl ha_v0 (by rfl) (c_M_valueOf hl9 G ad2 hq_w6) (hy_okr (by omega) (hy_oki hy_ok0)) tw_833 tw_9 tw_830 tw_832 sl_M_valueOf (by decide) rfl (Nat.le_of_ble_eq_true rfl) (Nat.le_of_ble_eq_true rfl) hf_ob9 hg_ob9 rfl hl.1 (Nat.le_of_ble_eq_true rfl) d_M_isBroken_10) (fun ad7 H locs cells slots hag hl_w6 S => ?_)
    have ha_v0 : ad7 v0 = a_v0 := (hag v0 (by omega)).trans ha_v0
    refine lv_iconst (v := 2) hx hb d_M_isBroken_13 (by decide) ?_
    refine lv_irem hx hb d_M_isBroken_14 (by decide) ?_
    refine lv_if_ne (tgt := 20) hx hb d_M_isBroken_15 (by decide) (fun c10 => ?_) (fun c10 => ?_)
    · rw [if_neg c10] at h
      refine lv_iload_n hx hb d_M_isBroken_20 rfl (lv_at hl 1 rfl) ?_
      refine lv_aload_n hx hb d_M_isBroken_21 rfl (lv_at hl 0 rfl) ?_
      refine lv_iload_n hx hb d_M_isBroken_22 rfl (lv_at hl 1 rfl) ?_
      obtain ⟨ob14, h⟩ := hy_if h
      obtain ⟨fs_ob14, hf_ob14, hg_ob14⟩ := hy_ob_spec ob14
      obtain ⟨x13, w11, hq_w11, h⟩ := hy_bi_spec h
      refine hy_calli (hy_runV (rest := [.int v1]) (As := [.int v1]) (r := v0) (b := a_v0) B S rfl ha_v0 (by rfl) (c_M_begin hl9 G ad7 hq_w11) (hy_okr (by omega) (hy_oki hy_ok0)) tw_849 tw_9 tw_846 tw_848 sl_M_begin (by decide) rfl (Nat.le_of_ble_eq_true rfl) (Nat.le_of_ble_eq_true rfl) hf_ob14 hg_ob14 rfl hl.1 (Nat.le_of_ble_eq_true rfl) d_M_isBroken_23) (fun ad12 H locs cells slots hag hl_w11 S => ?_)
      have ha_v0 : ad12 v0 = a_v0 := (hag v0 (by omega)).trans ha_v0
      refine lv_isub hx hb d_M_isBroken_26 ?_
      refine lv_aload_n hx hb d_M_isBroken_27 rfl (lv_at hl 0 rfl) ?_
      obtain ⟨r15, hr15, h⟩ := hy_bd h
      refine hy_getr B S ha_v0 hr15 rfl (Nat.le_of_ble_eq_true rfl) i_6 (j := 6) tw_656 (fun _ h => h) d_M_isBroken_28 (fun a_r15 ha_r15 hv_r15 => ?_)
      refine lv_aload_n hx hb d_M_isBroken_31 rfl (lv_at hl 0 rfl) ?_
      obtain ⟨x16, hx16, h⟩ := hy_bd h
      refine hy_geti B S ha_v0 hx16 rfl (Nat.le_of_ble_eq_true rfl) i_6 (j := 1) tw_651 (fun _ h => h) d_M_isBroken_32 ?_
      obtain ⟨x17, hx17, h⟩ := hy_bd h
      refine hy_iald B S ha_r15 hx17 d_M_isBroken_35 ?_
      refine lv_icmp_lt (tgt := 62) hx hb d_M_isBroken_36 (by decide) (fun c18 => ?_) (fun c18 => ?_)
      · rw [if_pos c18] at h
        cases h
        exact hy_jump K S hy_ok0 (lv_sub hl [] rfl) (by rfl) (by rfl)
      · rw [if_neg c18] at h
        refine lv_aload_n hx hb d_M_isBroken_39 rfl (lv_at hl 0 rfl) ?_
        refine lv_iload_n hx hb d_M_isBroken_40 rfl (lv_at hl 1 rfl) ?_
        obtain ⟨ob22, h⟩ := hy_if h
        obtain ⟨fs_ob22, hf_ob22, hg_ob22⟩ := hy_ob_spec ob22
        obtain ⟨x21, w19, hq_w19, h⟩ := hy_bi_spec h
        refine hy_calli (hy_runV (rest := []) (As := [.int v1]) (r := v0) (b := a_v0) B S rfl ha_v0 (by rfl) (c_M_end hl9 G ad12 hq_w19) (hy_okr (by omega) (hy_oki hy_ok0)) tw_853 tw_9 tw_850 tw_852 sl_M_end (by decide) rfl (Nat.le_of_ble_eq_true rfl) (Nat.le_of_ble_eq_true rfl) hf_ob22 hg_ob22 rfl hl.1 (Nat.le_of_ble_eq_true rfl) d_M_isBroken_41) (fun ad20 H locs cells slots hag hl_w19 S => ?_)
        have ha_v0 : ad20 v0 = a_v0 := (hag v0 (by omega)).trans ha_v0
        refine lv_iload_n hx hb d_M_isBroken_44 rfl (lv_at hl 1 rfl) ?_
        refine lv_isub hx hb d_M_isBroken_45 ?_
        refine lv_aload_n hx hb d_M_isBroken_46 rfl (lv_at hl 0 rfl) ?_
        obtain ⟨r23, hr23, h⟩ := hy_bd h
        refine hy_getr B S ha_v0 hr23 rfl (Nat.le_of_ble_eq_true rfl) i_6 (j := 7) tw_657 (fun _ h => h) d_M_isBroken_47 (fun a_r23 ha_r23 hv_r23 => ?_)
        refine lv_aload_n hx hb d_M_isBroken_50 rfl (lv_at hl 0 rfl) ?_
        obtain ⟨x24, hx24, h⟩ := hy_bd h
        refine hy_geti B S ha_v0 hx24 rfl (Nat.le_of_ble_eq_true rfl) i_6 (j := 1) tw_651 (fun _ h => h) d_M_isBroken_51 ?_
        obtain ⟨x25, hx25, h⟩ := hy_bd h
        refine hy_iald B S ha_r23 hx25 d_M_isBroken_54 ?_
        refine lv_icmp_lt (tgt := 62) hx hb d_M_isBroken_55 (by decide) (fun c26 => ?_) (fun c26 => ?_)
        · rw [if_pos c26] at h
          cases h
          exact hy_jump K S hy_ok0 (lv_sub hl [] rfl) (by rfl) (by rfl)
        · rw [if_neg c26] at h
          refine lv_iconst (v := 1) hx hb d_M_isBroken_58 (by decide) ?_
          refine lv_goto (tgt := 63) hx hb d_M_isBroken_59 (by decide) ?_
          cases h
          cases K
          exact hy_zret hA B S (by decide) d_M_isBroken_63
    · rw [if_pos c10] at h
      refine lv_iconst (v := 0) hx hb d_M_isBroken_18 (by decide) ?_
      cases h
      cases K
      exact hy_zret hA B S (by decide) d_M_isBroken_19
set_option maxHeartbeats 4000000 in
set_option maxRecDepth 100000 in
theorem sk_M_isBroken_62 {p : Program} {l : Launch} {e : Env} {s : State} {m : MethodId} {args : Array Value} {below : List Frame} {meth : Method} {c : Code} {G : hy_G} {A : Nat → Prop} {ad0 : Nat → Nat} {w0 : hy_W} {o : hy_O} (hl9 : l.flags = flags0) (hA : hy_A G ad0 w0 s.heap.size = A) (B : hy_B p l e (hy_rm 5 123 w0) s m args below meth c "HyphenPatternsModel" b_M_isBroken 2 (some .boolean) [] G A)  (w : hy_W) (nx : hy_N) (h : sg_M_isBroken_62  w = some nx) (K : hy_Nx lay_M_isBroken p l e (hy_rm 5 123 w0) s m args below meth c 2 G A ad0 w0.1.length (hy_Q below G ad0 w0 o args s) o nx) : hy_At lay_M_isBroken p l e (hy_rm 5 123 w0) s m args below meth c 2 G A ad0 w0.1.length (hy_Q below G ad0 w0 o args s) (62, [], w) := by
  intro ad H locs cells slots ls S hok hl
  have hx := B.1
  have hb := B.2.1
  dsimp only at S hok
  have hl : lv_has ls 2 [] := hl
  show W p l e (hy_rm 5 123 w0) s m args below meth c H locs cells slots (hy_Q below G ad0 w0 o args s) (F0 m 62 ls [])
  unfold sg_M_isBroken_62 at h
  refine lv_iconst (v := 0) hx hb d_M_isBroken_62 (by decide) ?_
  cases h
  cases K
  exact hy_zret hA B S (by decide) d_M_isBroken_63
theorem nk_M_isBroken {p : Program} {l : Launch} {e : Env} {s : State} {m : MethodId} {args : Array Value} {below : List Frame} {meth : Method} {c : Code} {G : hy_G} {A : Nat → Prop} {ad0 : Nat → Nat} {w0 : hy_W} {o : hy_O} (hl9 : l.flags = flags0) (hA : hy_A G ad0 w0 s.heap.size = A) (B : hy_B p l e (hy_rm 5 123 w0) s m args below meth c "HyphenPatternsModel" b_M_isBroken 2 (some .boolean) [] G A) (q : hy_P) (nx : hy_N) (hq : nx_M_isBroken q = some nx) (K : hy_Nx lay_M_isBroken p l e (hy_rm 5 123 w0) s m args below meth c 2 G A ad0 w0.1.length (hy_Q below G ad0 w0 o args s) o nx) : hy_At lay_M_isBroken p l e (hy_rm 5 123 w0) s m args below meth c 2 G A ad0 w0.1.length (hy_Q below G ad0 w0 o args s) q := by
  unfold nx_M_isBroken at hq
  split at hq
  · exact sk_M_isBroken_0 hl9 hA B _ _ _ nx hq K
  · exact sk_M_isBroken_62 hl9 hA B _ nx hq K
  · cases hq
theorem c_M_isBroken {l : Launch} (hl9 : l.flags = flags0) (G : hy_G) (ad : Nat → Nat) {v0 : Nat} {v1 : Int32} {w : hy_W} {o : hy_O} (h : f_M_isBroken [.ref v0, .int v1] w = some o) : hy_M l y_M_isBroken (Cond.code y_M_isBroken b_M_isBroken 2 (some .boolean) :: hy_T) 5 123 G ad [.ref v0, .int v1] w o := by
  obtain ⟨n, hn⟩ := hy_fx_iff.mp h
  refine hy_ofW hl9 (by decide +kernel) (Nat.le_of_ble_eq_true rfl) (fun p e s m args below meth c A hA hi B S hok ls hl => ?_)
  exact hy_loop (nk_M_isBroken hl9 hA B) n _ hn ad s.heap [] 0 0 ls S hok hl
theorem d_M_breaks_0 : decode b_M_breaks 0 = .ok (.aload_n 0, 1) := by decide +kernel
theorem d_M_breaks_1 : decode b_M_breaks 1 = .ok (.aload_n 0, 1) := by decide +kernel
theorem d_M_breaks_2 : decode b_M_breaks 2 = .ok (.iload_n 1, 1) := by decide +kernel
theorem d_M_breaks_3 : decode b_M_breaks 3 = .ok (.invokevirtual 168, 3) := by decide +kernel
theorem d_M_breaks_6 : decode b_M_breaks 6 = .ok (.ifCond .eq 7, 3) := by decide +kernel
theorem d_M_breaks_9 : decode b_M_breaks 9 = .ok (.iconst 0, 1) := by decide +kernel
theorem d_M_breaks_10 : decode b_M_breaks 10 = .ok (.goto 4, 3) := by decide +kernel
theorem d_M_breaks_13 : decode b_M_breaks 13 = .ok (.iconst 1, 1) := by decide +kernel
theorem d_M_breaks_14 : decode b_M_breaks 14 = .ok (.invokevirtual 72, 3) := by decide +kernel
theorem d_M_breaks_17 : decode b_M_breaks 17 = .ok (.ifCond .ne 15, 3) := by decide +kernel
theorem d_M_breaks_20 : decode b_M_breaks 20 = .ok (.aload_n 0, 1) := by decide +kernel
theorem d_M_breaks_21 : decode b_M_breaks 21 = .ok (.iload_n 1, 1) := by decide +kernel
theorem d_M_breaks_22 : decode b_M_breaks 22 = .ok (.invokevirtual 171, 3) := by decide +kernel
theorem d_M_breaks_25 : decode b_M_breaks 25 = .ok (.ifCond .eq 7, 3) := by decide +kernel
theorem d_M_breaks_28 : decode b_M_breaks 28 = .ok (.iconst 1, 1) := by decide +kernel
theorem d_M_breaks_29 : decode b_M_breaks 29 = .ok (.goto 4, 3) := by decide +kernel
theorem d_M_breaks_32 : decode b_M_breaks 32 = .ok (.iconst 0, 1) := by decide +kernel
theorem d_M_breaks_33 : decode b_M_breaks 33 = .ok (.ireturn, 1) := by decide +kernel
def lay_M_breaks (pc : Nat) : List Nat := if pc = 0 then [0, 1] else if pc = 14 then [0, 1] else if pc = 32 then [] else []
noncomputable def sg_M_breaks_0 (v0 : Nat) (v1 : Int32) (w : hy_W) : Option hy_N := if hy_ob w v0 6 = true then hy_bi (f_M_isPlace [.ref v0, .int v1] w) fun x3 w1 => if x3 = 0 then (some (.inl (14, [.ref v0, .int v1, .int 1, .ref v0], w1))) else (some (.inl (14, [.ref v0, .int v1, .int 0, .ref v0], w1))) else none
noncomputable def sg_M_breaks_14 (v0 : Nat) (v1 : Int32) (s0 : Int32) (s1 : Nat) (w : hy_W) : Option hy_N := if hy_ob w s1 6 = true then hy_bi (f_M_refused [.ref s1, .int s0] w) fun x3 w1 => if x3 = 0 then (if hy_ob w1 v0 6 = true then hy_bi (f_M_isBroken [.ref v0, .int v1] w1) fun x8 w6 => if x8 = 0 then (some (.inl (32, [], w6))) else (some (.inr (.inl (some (.int 1)), w6))) else none) else (some (.inl (32, [], w1))) else none
noncomputable def sg_M_breaks_32  (w : hy_W) : Option hy_N := some (.inr (.inl (some (.int 0)), w))
noncomputable def nx_M_breaks (q : hy_P) : Option hy_N := match q with
  | (0, [.ref v0, .int v1], w) => sg_M_breaks_0 v0 v1 w
  | (14, [.ref v0, .int v1, .int s0, .ref s1], w) => sg_M_breaks_14 v0 v1 s0 s1 w
  | (32, [], w) => sg_M_breaks_32  w
  | _ => none
noncomputable def f_M_breaks (av : List Value) (w : hy_W) : Option hy_O := hy_fx nx_M_breaks (0, av, w)
set_option maxHeartbeats 4000000 in
set_option maxRecDepth 100000 in
theorem sk_M_breaks_0 {p : Program} {l : Launch} {e : Env} {s : State} {m : MethodId} {args : Array Value} {below : List Frame} {meth : Method} {c : Code} {G : hy_G} {A : Nat → Prop} {ad0 : Nat → Nat} {w0 : hy_W} {o : hy_O} (hl9 : l.flags = flags0) (hA : hy_A G ad0 w0 s.heap.size = A) (B : hy_B p l e (hy_rm 6 144 w0) s m args below meth c "HyphenPatternsModel" b_M_breaks 2 (some .boolean) [] G A) (v0 : Nat) (v1 : Int32) (w : hy_W) (nx : hy_N) (h : sg_M_breaks_0 v0 v1 w = some nx) (K : hy_Nx lay_M_breaks p l e (hy_rm 6 144 w0) s m args below meth c 2 G A ad0 w0.1.length (hy_Q below G ad0 w0 o args s) o nx) : hy_At lay_M_breaks p l e (hy_rm 6 144 w0) s m args below meth c 2 G A ad0 w0.1.length (hy_Q below G ad0 w0 o args s) (0, [.ref v0, .int v1], w) := by
  intro ad H locs cells slots ls S hok hl
  have hx := B.1
  have hb := B.2.1
  dsimp only at S hok
  have hl : lv_has ls 2 [(0, .ref (ad v0)), (1, .int v1)] := hl
  show W p l e (hy_rm 6 144 w0) s m args below meth c H locs cells slots (hy_Q below G ad0 w0 o args s) (F0 m 0 ls [])
  have hv_v0 : v0 < w.1.length := hok (.ref v0) (List.mem_of_getElem? (i := 0) rfl) v0 rfl
  obtain ⟨a_v0, ha_v0⟩ : ∃ a, ad v0 = a := ⟨_, rfl⟩
  rw [ha_v0] at hl
  unfold sg_M_breaks_0 at h
  refine lv_aload_n hx hb d_M_breaks_0 rfl (lv_at hl 0 rfl) ?_
  refine lv_aload_n hx hb d_M_breaks_1 rfl (lv_at hl 0 rfl) ?_
  refine lv_iload_n hx hb d_M_breaks_2 rfl (lv_at hl 1 rfl) ?_
  obtain ⟨ob4, h⟩ := hy_if h
  obtain ⟨fs_ob4, hf_ob4, hg_ob4⟩ := hy_ob_spec ob4
  obtain ⟨x3, w1, hq_w1, h⟩ := hy_bi_spec h
  refine hy_calli (hy_runV (rest := [.ref a_v0]) (As := [.int v1]) (r := v0) (b := a_v0) B S rfl ha_v0 (by rfl) (c_M_isPlace hl9 G ad hq_w1) (hy_okr (by omega) (hy_oki hy_ok0)) tw_829 tw_9 tw_826 tw_828 sl_M_isPlace (by decide) rfl (Nat.le_of_ble_eq_true rfl) (Nat.le_of_ble_eq_true rfl) hf_ob4 hg_ob4 rfl hl.1 (Nat.le_of_ble_eq_true rfl) d_M_breaks_3) (fun ad2 H locs cells slots hag hl_w1 S => ?_)
  have ha_v0 : ad2 v0 = a_v0 := (hag v0 (by omega)).trans ha_v0
  refine lv_if_eq (tgt := 13) hx hb d_M_breaks_6 (by decide) (fun c5 => ?_) (fun c5 => ?_)
  · rw [if_pos c5] at h
    refine lv_iconst (v := 1) hx hb d_M_breaks_13 (by decide) ?_
    cases h
    exact hy_jump K S (hy_okr (by omega) (hy_oki (hy_oki (hy_okr (by omega) hy_ok0)))) (lv_sub hl [0, 1] rfl) (by subst ha_v0; rfl) (by subst ha_v0; rfl)
  · rw [if_neg c5] at h
    refine lv_iconst (v := 0) hx hb d_M_breaks_9 (by decide) ?_
    refine lv_goto (tgt := 14) hx hb d_M_breaks_10 (by decide) ?_
    cases h
    exact hy_jump K S (hy_okr (by omega) (hy_oki (hy_oki (hy_okr (by omega) hy_ok0)))) (lv_sub hl [0, 1] rfl) (by subst ha_v0; rfl) (by subst ha_v0; rfl)
set_option maxHeartbeats 4000000 in
set_option maxRecDepth 100000 in
theorem sk_M_breaks_14 {p : Program} {l : Launch} {e : Env} {s : State} {m : MethodId} {args : Array Value} {below : List Frame} {meth : Method} {c : Code} {G : hy_G} {A : Nat → Prop} {ad0 : Nat → Nat} {w0 : hy_W} {o : hy_O} (hl9 : l.flags = flags0) (hA : hy_A G ad0 w0 s.heap.size = A) (B : hy_B p l e (hy_rm 6 144 w0) s m args below meth c "HyphenPatternsModel" b_M_breaks 2 (some .boolean) [] G A) (v0 : Nat) (v1 : Int32) (s0 : Int32) (s1 : Nat) (w : hy_W) (nx : hy_N) (h : sg_M_breaks_14 v0 v1 s0 s1 w = some nx) (K : hy_Nx lay_M_breaks p l e (hy_rm 6 144 w0) s m args below meth c 2 G A ad0 w0.1.length (hy_Q below G ad0 w0 o args s) o nx) : hy_At lay_M_breaks p l e (hy_rm 6 144 w0) s m args below meth c 2 G A ad0 w0.1.length (hy_Q below G ad0 w0 o args s) (14, [.ref v0, .int v1, .int s0, .ref s1], w) := by
  intro ad H locs cells slots ls S hok hl
  have hx := B.1
  have hb := B.2.1
  dsimp only at S hok
  have hl : lv_has ls 2 [(0, .ref (ad v0)), (1, .int v1)] := hl
  show W p l e (hy_rm 6 144 w0) s m args below meth c H locs cells slots (hy_Q below G ad0 w0 o args s) (F0 m 14 ls [.int s0, .ref (ad s1)])
  have hv_v0 : v0 < w.1.length := hok (.ref v0) (List.mem_of_getElem? (i := 0) rfl) v0 rfl
  obtain ⟨a_v0, ha_v0⟩ : ∃ a, ad v0 = a := ⟨_, rfl⟩
  rw [ha_v0] at hl
  have hv_s1 : s1 < w.1.length := hok (.ref s1) (List.mem_of_getElem? (i := 3) rfl) s1 rfl
  obtain ⟨a_s1, ha_s1⟩ : ∃ a, ad s1 = a := ⟨_, rfl⟩
  rw [ha_s1]
  unfold sg_M_breaks_14 at h
  obtain ⟨ob4, h⟩ := hy_if h
  obtain ⟨fs_ob4, hf_ob4, hg_ob4⟩ := hy_ob_spec ob4
  obtain ⟨x3, w1, hq_w1, h⟩ := hy_bi_spec h
  refine hy_calli (hy_runV (rest := []) (As := [.int s0]) (r := s1) (b := a_s1) B S rfl ha_s1 (by rfl) (c_M_refused hl9 G ad hq_w1) (hy_okr (by omega) (hy_oki hy_ok0)) tw_740 tw_9 tw_737 tw_739 sl_M_refused (by decide) rfl (Nat.le_of_ble_eq_true rfl) (Nat.le_of_ble_eq_true rfl) hf_ob4 hg_ob4 rfl hl.1 (Nat.le_of_ble_eq_true rfl) d_M_breaks_14) (fun ad2 H locs cells slots hag hl_w1 S => ?_)
  have ha_v0 : ad2 v0 = a_v0 := (hag v0 (by omega)).trans ha_v0
  refine lv_if_ne (tgt := 32) hx hb d_M_breaks_17 (by decide) (fun c5 => ?_) (fun c5 => ?_)
  · rw [if_neg c5] at h
    cases h
    exact hy_jump K S hy_ok0 (lv_sub hl [] rfl) (by rfl) (by rfl)
  · rw [if_pos c5] at h
    refine lv_aload_n hx hb d_M_breaks_20 rfl (lv_at hl 0 rfl) ?_
    refine lv_iload_n hx hb d_M_breaks_21 rfl (lv_at hl 1 rfl) ?_
    obtain ⟨ob9, h⟩ := hy_if h
    obtain ⟨fs_ob9, hf_ob9, hg_ob9⟩ := hy_ob_spec ob9
    obtain ⟨x8, w6, hq_w6, h⟩ := hy_bi_spec h
    refine hy_calli (hy_runV (rest := []) (As := [.int v1]) (r := v0) (b := a_v0) B S rfl ha_v0 (by rfl) (c_M_isBroken hl9 G ad2 hq_w6) (hy_okr (by omega) (hy_oki hy_ok0)) tw_877 tw_9 tw_874 tw_876 sl_M_isBroken (by decide) rfl (Nat.le_of_ble_eq_true rfl) (Nat.le_of_ble_eq_true rfl) hf_ob9 hg_ob9 rfl hl.1 (Nat.le_of_ble_eq_true rfl) d_M_breaks_22) (fun ad7 H locs cells slots hag hl_w6 S => ?_)
    have ha_v0 : ad7 v0 = a_v0 := (hag v0 (by omega)).trans ha_v0
    refine lv_if_eq (tgt := 32) hx hb d_M_breaks_25 (by decide) (fun c10 => ?_) (fun c10 => ?_)
    · rw [if_pos c10] at h
      cases h
      exact hy_jump K S hy_ok0 (lv_sub hl [] rfl) (by rfl) (by rfl)
    · rw [if_neg c10] at h
      refine lv_iconst (v := 1) hx hb d_M_breaks_28 (by decide) ?_
      refine lv_goto (tgt := 33) hx hb d_M_breaks_29 (by decide) ?_
      cases h
      cases K
      exact hy_zret hA B S (by decide) d_M_breaks_33
set_option maxHeartbeats 4000000 in
set_option maxRecDepth 100000 in
theorem sk_M_breaks_32 {p : Program} {l : Launch} {e : Env} {s : State} {m : MethodId} {args : Array Value} {below : List Frame} {meth : Method} {c : Code} {G : hy_G} {A : Nat → Prop} {ad0 : Nat → Nat} {w0 : hy_W} {o : hy_O} (hl9 : l.flags = flags0) (hA : hy_A G ad0 w0 s.heap.size = A) (B : hy_B p l e (hy_rm 6 144 w0) s m args below meth c "HyphenPatternsModel" b_M_breaks 2 (some .boolean) [] G A)  (w : hy_W) (nx : hy_N) (h : sg_M_breaks_32  w = some nx) (K : hy_Nx lay_M_breaks p l e (hy_rm 6 144 w0) s m args below meth c 2 G A ad0 w0.1.length (hy_Q below G ad0 w0 o args s) o nx) : hy_At lay_M_breaks p l e (hy_rm 6 144 w0) s m args below meth c 2 G A ad0 w0.1.length (hy_Q below G ad0 w0 o args s) (32, [], w) := by
  intro ad H locs cells slots ls S hok hl
  have hx := B.1
  have hb := B.2.1
  dsimp only at S hok
  have hl : lv_has ls 2 [] := hl
  show W p l e (hy_rm 6 144 w0) s m args below meth c H locs cells slots (hy_Q below G ad0 w0 o args s) (F0 m 32 ls [])
  unfold sg_M_breaks_32 at h
  refine lv_iconst (v := 0) hx hb d_M_breaks_32 (by decide) ?_
  cases h
  cases K
  exact hy_zret hA B S (by decide) d_M_breaks_33
theorem nk_M_breaks {p : Program} {l : Launch} {e : Env} {s : State} {m : MethodId} {args : Array Value} {below : List Frame} {meth : Method} {c : Code} {G : hy_G} {A : Nat → Prop} {ad0 : Nat → Nat} {w0 : hy_W} {o : hy_O} (hl9 : l.flags = flags0) (hA : hy_A G ad0 w0 s.heap.size = A) (B : hy_B p l e (hy_rm 6 144 w0) s m args below meth c "HyphenPatternsModel" b_M_breaks 2 (some .boolean) [] G A) (q : hy_P) (nx : hy_N) (hq : nx_M_breaks q = some nx) (K : hy_Nx lay_M_breaks p l e (hy_rm 6 144 w0) s m args below meth c 2 G A ad0 w0.1.length (hy_Q below G ad0 w0 o args s) o nx) : hy_At lay_M_breaks p l e (hy_rm 6 144 w0) s m args below meth c 2 G A ad0 w0.1.length (hy_Q below G ad0 w0 o args s) q := by
  unfold nx_M_breaks at hq
  split at hq
  · exact sk_M_breaks_0 hl9 hA B _ _ _ nx hq K
  · exact sk_M_breaks_14 hl9 hA B _ _ _ _ _ nx hq K
  · exact sk_M_breaks_32 hl9 hA B _ nx hq K
  · cases hq
theorem c_M_breaks {l : Launch} (hl9 : l.flags = flags0) (G : hy_G) (ad : Nat → Nat) {v0 : Nat} {v1 : Int32} {w : hy_W} {o : hy_O} (h : f_M_breaks [.ref v0, .int v1] w = some o) : hy_M l y_M_breaks (Cond.code y_M_breaks b_M_breaks 2 (some .boolean) :: hy_T) 6 144 G ad [.ref v0, .int v1] w o := by
  obtain ⟨n, hn⟩ := hy_fx_iff.mp h
  refine hy_ofW hl9 (by decide +kernel) (Nat.le_of_ble_eq_true rfl) (fun p e s m args below meth c A hA hi B S hok ls hl => ?_)
  exact hy_loop (nk_M_breaks hl9 hA B) n _ hn ad s.heap [] 0 0 ls S hok hl
theorem d_M_word_0 : decode b_M_word 0 = .ok (.aload_n 0, 1) := by decide +kernel
theorem d_M_word_1 : decode b_M_word 1 = .ok (.iconst 0, 1) := by decide +kernel
theorem d_M_word_2 : decode b_M_word 2 = .ok (.putfield 67, 3) := by decide +kernel
theorem d_M_word_5 : decode b_M_word 5 = .ok (.iconst (-1), 1) := by decide +kernel
theorem d_M_word_6 : decode b_M_word 6 = .ok (.istore_n 3, 1) := by decide +kernel
theorem d_M_word_7 : decode b_M_word 7 = .ok (.iconst 0, 1) := by decide +kernel
theorem d_M_word_8 : decode b_M_word 8 = .ok (.istore 4, 2) := by decide +kernel
theorem d_M_word_10 : decode b_M_word 10 = .ok (.iload 4, 2) := by decide +kernel
theorem d_M_word_12 : decode b_M_word 12 = .ok (.aload_n 0, 1) := by decide +kernel
theorem d_M_word_13 : decode b_M_word 13 = .ok (.getfield 131, 3) := by decide +kernel
theorem d_M_word_16 : decode b_M_word 16 = .ok (.if_icmp .ge 78, 3) := by decide +kernel
theorem d_M_word_19 : decode b_M_word 19 = .ok (.aload_n 0, 1) := by decide +kernel
theorem d_M_word_20 : decode b_M_word 20 = .ok (.iload 4, 2) := by decide +kernel
theorem d_M_word_22 : decode b_M_word 22 = .ok (.invokevirtual 138, 3) := by decide +kernel
theorem d_M_word_25 : decode b_M_word 25 = .ok (.ifCond .eq 20, 3) := by decide +kernel
theorem d_M_word_28 : decode b_M_word 28 = .ok (.aload_n 0, 1) := by decide +kernel
theorem d_M_word_29 : decode b_M_word 29 = .ok (.iload 4, 2) := by decide +kernel
theorem d_M_word_31 : decode b_M_word 31 = .ok (.iconst 1, 1) := by decide +kernel
theorem d_M_word_32 : decode b_M_word 32 = .ok (.isub, 1) := by decide +kernel
theorem d_M_word_33 : decode b_M_word 33 = .ok (.invokevirtual 138, 3) := by decide +kernel
theorem d_M_word_36 : decode b_M_word 36 = .ok (.ifCond .ne 9, 3) := by decide +kernel
theorem d_M_word_39 : decode b_M_word 39 = .ok (.iload_n 3, 1) := by decide +kernel
theorem d_M_word_40 : decode b_M_word 40 = .ok (.iconst 1, 1) := by decide +kernel
theorem d_M_word_41 : decode b_M_word 41 = .ok (.iadd, 1) := by decide +kernel
theorem d_M_word_42 : decode b_M_word 42 = .ok (.goto 4, 3) := by decide +kernel
theorem d_M_word_45 : decode b_M_word 45 = .ok (.iload_n 3, 1) := by decide +kernel
theorem d_M_word_46 : decode b_M_word 46 = .ok (.istore_n 3, 1) := by decide +kernel
theorem d_M_word_47 : decode b_M_word 47 = .ok (.iload_n 3, 1) := by decide +kernel
theorem d_M_word_48 : decode b_M_word 48 = .ok (.iload_n 1, 1) := by decide +kernel
theorem d_M_word_49 : decode b_M_word 49 = .ok (.if_icmp .ne 39, 3) := by decide +kernel
theorem d_M_word_52 : decode b_M_word 52 = .ok (.aload_n 0, 1) := by decide +kernel
theorem d_M_word_53 : decode b_M_word 53 = .ok (.iload 4, 2) := by decide +kernel
theorem d_M_word_55 : decode b_M_word 55 = .ok (.invokevirtual 138, 3) := by decide +kernel
theorem d_M_word_58 : decode b_M_word 58 = .ok (.ifCond .eq 30, 3) := by decide +kernel
theorem d_M_word_61 : decode b_M_word 61 = .ok (.aload_n 0, 1) := by decide +kernel
theorem d_M_word_62 : decode b_M_word 62 = .ok (.iload 4, 2) := by decide +kernel
theorem d_M_word_64 : decode b_M_word 64 = .ok (.iconst 1, 1) := by decide +kernel
theorem d_M_word_65 : decode b_M_word 65 = .ok (.isub, 1) := by decide +kernel
theorem d_M_word_66 : decode b_M_word 66 = .ok (.invokevirtual 138, 3) := by decide +kernel
theorem d_M_word_69 : decode b_M_word 69 = .ok (.ifCond .ne 19, 3) := by decide +kernel
theorem d_M_word_72 : decode b_M_word 72 = .ok (.iload_n 2, 1) := by decide +kernel
theorem d_M_word_73 : decode b_M_word 73 = .ok (.ifCond .eq 12, 3) := by decide +kernel
theorem d_M_word_76 : decode b_M_word 76 = .ok (.aload_n 0, 1) := by decide +kernel
theorem d_M_word_77 : decode b_M_word 77 = .ok (.iload 4, 2) := by decide +kernel
theorem d_M_word_79 : decode b_M_word 79 = .ok (.invokevirtual 158, 3) := by decide +kernel
theorem d_M_word_82 : decode b_M_word 82 = .ok (.goto 5, 3) := by decide +kernel
theorem d_M_word_85 : decode b_M_word 85 = .ok (.iload 4, 2) := by decide +kernel
theorem d_M_word_87 : decode b_M_word 87 = .ok (.ireturn, 1) := by decide +kernel
theorem d_M_word_88 : decode b_M_word 88 = .ok (.iinc 4 1, 3) := by decide +kernel
theorem d_M_word_91 : decode b_M_word 91 = .ok (.goto (-81), 3) := by decide +kernel
theorem d_M_word_94 : decode b_M_word 94 = .ok (.iconst (-1), 1) := by decide +kernel
theorem d_M_word_95 : decode b_M_word 95 = .ok (.ireturn, 1) := by decide +kernel
def lay_M_word (pc : Nat) : List Nat := if pc = 0 then [0, 1, 2] else if pc = 10 then [0, 1, 2, 3, 4] else if pc = 45 then [0, 1, 2, 3, 4] else if pc = 46 then [0, 1, 2, 4] else if pc = 88 then [0, 1, 2, 3, 4] else []
noncomputable def sg_M_word_0 (v0 : Nat) (v1 : Int32) (v2 : Int32) (w : hy_W) : Option hy_N := (hy_pf w v0 6 0 (.int 0)).bind fun w1 => some (.inl (10, [.ref v0, .int v1, .int v2, .int (-1), .int 0], w1))
noncomputable def sg_M_word_10 (v0 : Nat) (v1 : Int32) (v2 : Int32) (v3 : Int32) (v4 : Int32) (w : hy_W) : Option hy_N := (hy_gi w v0 6 24).bind fun x1 => if x1 ≤ v4 then (some (.inr (.inl (some (.int (-1))), w))) else (if hy_ob w v0 6 = true then hy_bi (f_M_isLetter [.ref v0, .int v4] w) fun x5 w3 => if x5 = 0 then (some (.inl (45, [.ref v0, .int v1, .int v2, .int v3, .int v4], w3))) else (if hy_ob w3 v0 6 = true then hy_bi (f_M_isLetter [.ref v0, .int (v4 - 1)] w3) fun x10 w8 => if x10 = 0 then (some (.inl (46, [.ref v0, .int v1, .int v2, .int v4, .int (v3 + 1)], w8))) else (some (.inl (45, [.ref v0, .int v1, .int v2, .int v3, .int v4], w8))) else none) else none)
noncomputable def sg_M_word_45 (v0 : Nat) (v1 : Int32) (v2 : Int32) (v3 : Int32) (v4 : Int32) (w : hy_W) : Option hy_N := some (.inl (46, [.ref v0, .int v1, .int v2, .int v4, .int v3], w))
noncomputable def sg_M_word_46 (v0 : Nat) (v1 : Int32) (v2 : Int32) (v4 : Int32) (s0 : Int32) (w : hy_W) : Option hy_N := if s0 = v1 then (if hy_ob w v0 6 = true then hy_bi (f_M_isLetter [.ref v0, .int v4] w) fun x4 w2 => if x4 = 0 then (some (.inl (88, [.ref v0, .int v1, .int v2, .int s0, .int v4], w2))) else (if hy_ob w2 v0 6 = true then hy_bi (f_M_isLetter [.ref v0, .int (v4 - 1)] w2) fun x9 w7 => if x9 = 0 then (if v2 = 0 then (some (.inr (.inl (some (.int v4)), w7))) else (if hy_ob w7 v0 6 = true then hy_bi (f_M_end [.ref v0, .int v4] w7) fun x15 w13 => some (.inr (.inl (some (.int x15)), w13)) else none)) else (some (.inl (88, [.ref v0, .int v1, .int v2, .int s0, .int v4], w7))) else none) else none) else (some (.inl (88, [.ref v0, .int v1, .int v2, .int s0, .int v4], w)))
noncomputable def sg_M_word_88 (v0 : Nat) (v1 : Int32) (v2 : Int32) (v3 : Int32) (v4 : Int32) (w : hy_W) : Option hy_N := some (.inl (10, [.ref v0, .int v1, .int v2, .int v3, .int (v4 + 1)], w))
noncomputable def nx_M_word (q : hy_P) : Option hy_N := match q with
  | (0, [.ref v0, .int v1, .int v2], w) => sg_M_word_0 v0 v1 v2 w
  | (10, [.ref v0, .int v1, .int v2, .int v3, .int v4], w) => sg_M_word_10 v0 v1 v2 v3 v4 w
  | (45, [.ref v0, .int v1, .int v2, .int v3, .int v4], w) => sg_M_word_45 v0 v1 v2 v3 v4 w
  | (46, [.ref v0, .int v1, .int v2, .int v4, .int s0], w) => sg_M_word_46 v0 v1 v2 v4 s0 w
  | (88, [.ref v0, .int v1, .int v2, .int v3, .int v4], w) => sg_M_word_88 v0 v1 v2 v3 v4 w
  | _ => none
noncomputable def f_M_word (av : List Value) (w : hy_W) : Option hy_O := hy_fx nx_M_word (0, av, w)
set_option maxHeartbeats 4000000 in
set_option maxRecDepth 100000 in
theorem sk_M_word_0 {p : Program} {l : Launch} {e : Env} {s : State} {m : MethodId} {args : Array Value} {below : List Frame} {meth : Method} {c : Code} {G : hy_G} {A : Nat → Prop} {ad0 : Nat → Nat} {w0 : hy_W} {o : hy_O} (hl9 : l.flags = flags0) (hA : hy_A G ad0 w0 s.heap.size = A) (B : hy_B p l e (hy_rm 3 67 w0) s m args below meth c "HyphenPatternsModel" b_M_word 5 (some .int) [] G A) (v0 : Nat) (v1 : Int32) (v2 : Int32) (w : hy_W) (nx : hy_N) (h : sg_M_word_0 v0 v1 v2 w = some nx) (K : hy_Nx lay_M_word p l e (hy_rm 3 67 w0) s m args below meth c 5 G A ad0 w0.1.length (hy_Q below G ad0 w0 o args s) o nx) : hy_At lay_M_word p l e (hy_rm 3 67 w0) s m args below meth c 5 G A ad0 w0.1.length (hy_Q below G ad0 w0 o args s) (0, [.ref v0, .int v1, .int v2], w) := by
  intro ad H locs cells slots ls S hok hl
  have hx := B.1
  have hb := B.2.1
  dsimp only at S hok
  have hl : lv_has ls 5 [(0, .ref (ad v0)), (1, .int v1), (2, .int v2)] := hl
  show W p l e (hy_rm 3 67 w0) s m args below meth c H locs cells slots (hy_Q below G ad0 w0 o args s) (F0 m 0 ls [])
  have hv_v0 : v0 < w.1.length := hok (.ref v0) (List.mem_of_getElem? (i := 0) rfl) v0 rfl
  obtain ⟨a_v0, ha_v0⟩ : ∃ a, ad v0 = a := ⟨_, rfl⟩
  rw [ha_v0] at hl
  unfold sg_M_word_0 at h
  refine lv_aload_n hx hb d_M_word_0 rfl (lv_at hl 0 rfl) ?_
  refine lv_iconst (v := 0) hx hb d_M_word_1 (by decide) ?_
  obtain ⟨w1, hw1, h⟩ := hy_bd h
  refine hy_put B S ha_v0 rfl hy_cvi hw1 rfl (Nat.le_of_ble_eq_true rfl) i_6 t_6 t_6_ok n_6 (j := 0) tw_650 (fun _ h => h) rfl rfl rfl d_M_word_2 (fun H locs S hl_w1 => ?_)
  refine lv_iconst (v := (-1)) hx hb d_M_word_5 (by decide) ?_
  refine lv_istore_n (lv' := [(3, .int (-1)), (0, .ref a_v0), (1, .int v1), (2, .int v2)]) hx hb d_M_word_6 rfl hl (Nat.le_of_ble_eq_true rfl) rfl (fun ls hl => ?_)
  refine lv_iconst (v := 0) hx hb d_M_word_7 (by decide) ?_
  refine lv_istore (lv' := [(4, .int 0), (3, .int (-1)), (0, .ref a_v0), (1, .int v1), (2, .int v2)]) hx hb d_M_word_8 hl (Nat.le_of_ble_eq_true rfl) rfl (fun ls hl => ?_)
  cases h
  exact hy_jump K S (hy_okr (by omega) (hy_oki (hy_oki (hy_oki (hy_oki hy_ok0))))) (lv_sub hl [2, 3, 4, 1, 0] rfl) (by subst ha_v0; rfl) (by subst ha_v0; rfl)
set_option maxHeartbeats 4000000 in
set_option maxRecDepth 100000 in
theorem sk_M_word_10 {p : Program} {l : Launch} {e : Env} {s : State} {m : MethodId} {args : Array Value} {below : List Frame} {meth : Method} {c : Code} {G : hy_G} {A : Nat → Prop} {ad0 : Nat → Nat} {w0 : hy_W} {o : hy_O} (hl9 : l.flags = flags0) (hA : hy_A G ad0 w0 s.heap.size = A) (B : hy_B p l e (hy_rm 3 67 w0) s m args below meth c "HyphenPatternsModel" b_M_word 5 (some .int) [] G A) (v0 : Nat) (v1 : Int32) (v2 : Int32) (v3 : Int32) (v4 : Int32) (w : hy_W) (nx : hy_N) (h : sg_M_word_10 v0 v1 v2 v3 v4 w = some nx) (K : hy_Nx lay_M_word p l e (hy_rm 3 67 w0) s m args below meth c 5 G A ad0 w0.1.length (hy_Q below G ad0 w0 o args s) o nx) : hy_At lay_M_word p l e (hy_rm 3 67 w0) s m args below meth c 5 G A ad0 w0.1.length (hy_Q below G ad0 w0 o args s) (10, [.ref v0, .int v1, .int v2, .int v3, .int v4], w) := by
  intro ad H locs cells slots ls S hok hl
  have hx := B.1
  have hb := B.2.1
  dsimp only at S hok
  have hl : lv_has ls 5 [(0, .ref (ad v0)), (1, .int v1), (2, .int v2), (3, .int v3), (4, .int v4)] := hl
  show W p l e (hy_rm 3 67 w0) s m args below meth c H locs cells slots (hy_Q below G ad0 w0 o args s) (F0 m 10 ls [])
  have hv_v0 : v0 < w.1.length := hok (.ref v0) (List.mem_of_getElem? (i := 0) rfl) v0 rfl
  obtain ⟨a_v0, ha_v0⟩ : ∃ a, ad v0 = a := ⟨_, rfl⟩
  rw [ha_v0] at hl
  unfold sg_M_word_10 at h
  refine lv_iload hx hb d_M_word_10 (lv_at hl 4 rfl) ?_
  refine lv_aload_n hx hb d_M_word_12 rfl (lv_at hl 0 rfl) ?_
  obtain ⟨x1, hx1, h⟩ := hy_bd h
  refine hy_geti B S ha_v0 hx1 rfl (Nat.le_of_ble_eq_true rfl) i_6 (j := 24) tw_674 (fun _ h => h) d_M_word_13 ?_
  refine lv_icmp_ge (tgt := 94) hx hb d_M_word_16 (by decide) (fun c2 => ?_) (fun c2 => ?_)
  · rw [if_pos c2] at h
    refine lv_iconst (v := (-1)) hx hb d_M_word_94 (by decide) ?_
    cases h
    cases K
    exact hy_iret hA B S d_M_word_95
  · rw [if_neg c2] at h
    refine lv_aload_n hx hb d_M_word_19 rfl (lv_at hl 0 rfl) ?_
    refine lv_iload hx hb d_M_word_20 (lv_at hl 4 rfl) ?_
    obtain ⟨ob6, h⟩ := hy_if h
    obtain ⟨fs_ob6, hf_ob6, hg_ob6⟩ := hy_ob_spec ob6
    obtain ⟨x5, w3, hq_w3, h⟩ := hy_bi_spec h
    refine hy_calli (hy_runV (rest := []) (As := [.int v4]) (r := v0) (b := a_v0) B S rfl ha_v0 (by rfl) (c_M_isLetter hl9 G ad hq_w3) (hy_okr (by omega) (hy_oki hy_ok0)) tw_841 tw_9 tw_838 tw_840 sl_M_isLetter (by decide) rfl (Nat.le_of_ble_eq_true rfl) (Nat.le_of_ble_eq_true rfl) hf_ob6 hg_ob6 rfl hl.1 (Nat.le_of_ble_eq_true rfl) d_M_word_22) (fun ad4 H locs cells slots hag hl_w3 S => ?_)
    have ha_v0 : ad4 v0 = a_v0 := (hag v0 (by omega)).trans ha_v0
    refine lv_if_eq (tgt := 45) hx hb d_M_word_25 (by decide) (fun c7 => ?_) (fun c7 => ?_)
    · rw [if_pos c7] at h
      cases h
      exact hy_jump K S (hy_okr (by omega) (hy_oki (hy_oki (hy_oki (hy_oki hy_ok0))))) (lv_sub hl [0, 1, 2, 3, 4] rfl) (by subst ha_v0; rfl) (by subst ha_v0; rfl)
    · rw [if_neg c7] at h
      refine lv_aload_n hx hb d_M_word_28 rfl (lv_at hl 0 rfl) ?_
      refine lv_iload hx hb d_M_word_29 (lv_at hl 4 rfl) ?_
      refine lv_iconst (v := 1) hx hb d_M_word_31 (by decide) ?_
      refine lv_isub hx hb d_M_word_32 ?_
      obtain ⟨ob11, h⟩ := hy_if h
      obtain ⟨fs_ob11, hf_ob11, hg_ob11⟩ := hy_ob_spec ob11
      obtain ⟨x10, w8, hq_w8, h⟩ := hy_bi_spec h
      refine hy_calli (hy_runV (rest := []) (As := [.int (v4 - 1)]) (r := v0) (b := a_v0) B S rfl ha_v0 (by rfl) (c_M_isLetter hl9 G ad4 hq_w8) (hy_okr (by omega) (hy_oki hy_ok0)) tw_841 tw_9 tw_838 tw_840 sl_M_isLetter (by decide) rfl (Nat.le_of_ble_eq_true rfl) (Nat.le_of_ble_eq_true rfl) hf_ob11 hg_ob11 rfl hl.1 (Nat.le_of_ble_eq_true rfl) d_M_word_33) (fun ad9 H locs cells slots hag hl_w8 S => ?_)
      have ha_v0 : ad9 v0 = a_v0 := (hag v0 (by omega)).trans ha_v0
      refine lv_if_ne (tgt := 45) hx hb d_M_word_36 (by decide) (fun c12 => ?_) (fun c12 => ?_)
      · rw [if_neg c12] at h
        cases h
        exact hy_jump K S (hy_okr (by omega) (hy_oki (hy_oki (hy_oki (hy_oki hy_ok0))))) (lv_sub hl [0, 1, 2, 3, 4] rfl) (by subst ha_v0; rfl) (by subst ha_v0; rfl)
      · rw [if_pos c12] at h
        refine lv_iload_n hx hb d_M_word_39 rfl (lv_at hl 3 rfl) ?_
        refine lv_iconst (v := 1) hx hb d_M_word_40 (by decide) ?_
        refine lv_iadd hx hb d_M_word_41 ?_
        refine lv_goto (tgt := 46) hx hb d_M_word_42 (by decide) ?_
        cases h
        exact hy_jump K S (hy_okr (by omega) (hy_oki (hy_oki (hy_oki (hy_oki hy_ok0))))) (lv_sub hl [0, 1, 2, 4] rfl) (by subst ha_v0; rfl) (by subst ha_v0; rfl)
set_option maxHeartbeats 4000000 in
set_option maxRecDepth 100000 in
theorem sk_M_word_45 {p : Program} {l : Launch} {e : Env} {s : State} {m : MethodId} {args : Array Value} {below : List Frame} {meth : Method} {c : Code} {G : hy_G} {A : Nat → Prop} {ad0 : Nat → Nat} {w0 : hy_W} {o : hy_O} (hl9 : l.flags = flags0) (hA : hy_A G ad0 w0 s.heap.size = A) (B : hy_B p l e (hy_rm 3 67 w0) s m args below meth c "HyphenPatternsModel" b_M_word 5 (some .int) [] G A) (v0 : Nat) (v1 : Int32) (v2 : Int32) (v3 : Int32) (v4 : Int32) (w : hy_W) (nx : hy_N) (h : sg_M_word_45 v0 v1 v2 v3 v4 w = some nx) (K : hy_Nx lay_M_word p l e (hy_rm 3 67 w0) s m args below meth c 5 G A ad0 w0.1.length (hy_Q below G ad0 w0 o args s) o nx) : hy_At lay_M_word p l e (hy_rm 3 67 w0) s m args below meth c 5 G A ad0 w0.1.length (hy_Q below G ad0 w0 o args s) (45, [.ref v0, .int v1, .int v2, .int v3, .int v4], w) := by
  intro ad H locs cells slots ls S hok hl
  have hx := B.1
  have hb := B.2.1
  dsimp only at S hok
  have hl : lv_has ls 5 [(0, .ref (ad v0)), (1, .int v1), (2, .int v2), (3, .int v3), (4, .int v4)] := hl
  show W p l e (hy_rm 3 67 w0) s m args below meth c H locs cells slots (hy_Q below G ad0 w0 o args s) (F0 m 45 ls [])
  have hv_v0 : v0 < w.1.length := hok (.ref v0) (List.mem_of_getElem? (i := 0) rfl) v0 rfl
  obtain ⟨a_v0, ha_v0⟩ : ∃ a, ad v0 = a := ⟨_, rfl⟩
  rw [ha_v0] at hl
  unfold sg_M_word_45 at h
  refine lv_iload_n hx hb d_M_word_45 rfl (lv_at hl 3 rfl) ?_
  cases h
  exact hy_jump K S (hy_okr (by omega) (hy_oki (hy_oki (hy_oki (hy_oki hy_ok0))))) (lv_sub hl [0, 1, 2, 4] rfl) (by subst ha_v0; rfl) (by subst ha_v0; rfl)
set_option maxHeartbeats 4000000 in
set_option maxRecDepth 100000 in
theorem sk_M_word_46 {p : Program} {l : Launch} {e : Env} {s : State} {m : MethodId} {args : Array Value} {below : List Frame} {meth : Method} {c : Code} {G : hy_G} {A : Nat → Prop} {ad0 : Nat → Nat} {w0 : hy_W} {o : hy_O} (hl9 : l.flags = flags0) (hA : hy_A G ad0 w0 s.heap.size = A) (B : hy_B p l e (hy_rm 3 67 w0) s m args below meth c "HyphenPatternsModel" b_M_word 5 (some .int) [] G A) (v0 : Nat) (v1 : Int32) (v2 : Int32) (v4 : Int32) (s0 : Int32) (w : hy_W) (nx : hy_N) (h : sg_M_word_46 v0 v1 v2 v4 s0 w = some nx) (K : hy_Nx lay_M_word p l e (hy_rm 3 67 w0) s m args below meth c 5 G A ad0 w0.1.length (hy_Q below G ad0 w0 o args s) o nx) : hy_At lay_M_word p l e (hy_rm 3 67 w0) s m args below meth c 5 G A ad0 w0.1.length (hy_Q below G ad0 w0 o args s) (46, [.ref v0, .int v1, .int v2, .int v4, .int s0], w) := by
  intro ad H locs cells slots ls S hok hl
  have hx := B.1
  have hb := B.2.1
  dsimp only at S hok
  have hl : lv_has ls 5 [(0, .ref (ad v0)), (1, .int v1), (2, .int v2), (4, .int v4)] := hl
  show W p l e (hy_rm 3 67 w0) s m args below meth c H locs cells slots (hy_Q below G ad0 w0 o args s) (F0 m 46 ls [.int s0])
  have hv_v0 : v0 < w.1.length := hok (.ref v0) (List.mem_of_getElem? (i := 0) rfl) v0 rfl
  obtain ⟨a_v0, ha_v0⟩ : ∃ a, ad v0 = a := ⟨_, rfl⟩
  rw [ha_v0] at hl
  unfold sg_M_word_46 at h
  refine lv_istore_n (lv' := [(3, .int s0), (0, .ref a_v0), (1, .int v1), (2, .int v2), (4, .int v4)]) hx hb d_M_word_46 rfl hl (Nat.le_of_ble_eq_true rfl) rfl (fun ls hl => ?_)
  refine lv_iload_n hx hb d_M_word_47 rfl (lv_at hl 0 rfl) ?_
  refine lv_iload_n hx hb d_M_word_48 rfl (lv_at hl 2 rfl) ?_
  refine lv_icmp_ne (tgt := 88) hx hb d_M_word_49 (by decide) (fun c1 => ?_) (fun c1 => ?_)
  · rw [if_neg c1] at h
    cases h
    exact hy_jump K S (hy_okr (by omega) (hy_oki (hy_oki (hy_oki (hy_oki hy_ok0))))) (lv_sub hl [1, 2, 3, 0, 4] rfl) (by subst ha_v0; rfl) (by subst ha_v0; rfl)
  · rw [if_pos c1] at h
    refine lv_aload_n hx hb d_M_word_52 rfl (lv_at hl 1 rfl) ?_
    refine lv_iload hx hb d_M_word_53 (lv_at hl 4 rfl) ?_
    obtain ⟨ob5, h⟩ := hy_if h
    obtain ⟨fs_ob5, hf_ob5, hg_ob5⟩ := hy_ob_spec ob5
    obtain ⟨x4, w2, hq_w2, h⟩ := hy_bi_spec h
    refine hy_calli (hy_runV (rest := []) (As := [.int v4]) (r := v0) (b := a_v0) B S rfl ha_v0 (by rfl) (c_M_isLetter hl9 G ad hq_w2) (hy_okr (by omega) (hy_oki hy_ok0)) tw_841 tw_9 tw_838 tw_840 sl_M_isLetter (by decide) rfl (Nat.le_of_ble_eq_true rfl) (Nat.le_of_ble_eq_true rfl) hf_ob5 hg_ob5 rfl hl.1 (Nat.le_of_ble_eq_true rfl) d_M_word_55) (fun ad3 H locs cells slots hag hl_w2 S => ?_)
    have ha_v0 : ad3 v0 = a_v0 := (hag v0 (by omega)).trans ha_v0
    refine lv_if_eq (tgt := 88) hx hb d_M_word_58 (by decide) (fun c6 => ?_) (fun c6 => ?_)
    · rw [if_pos c6] at h
      cases h
      exact hy_jump K S (hy_okr (by omega) (hy_oki (hy_oki (hy_oki (hy_oki hy_ok0))))) (lv_sub hl [1, 2, 3, 0, 4] rfl) (by subst ha_v0; rfl) (by subst ha_v0; rfl)
    · rw [if_neg c6] at h
      refine lv_aload_n hx hb d_M_word_61 rfl (lv_at hl 1 rfl) ?_
      refine lv_iload hx hb d_M_word_62 (lv_at hl 4 rfl) ?_
      refine lv_iconst (v := 1) hx hb d_M_word_64 (by decide) ?_
      refine lv_isub hx hb d_M_word_65 ?_
      obtain ⟨ob10, h⟩ := hy_if h
      obtain ⟨fs_ob10, hf_ob10, hg_ob10⟩ := hy_ob_spec ob10
      obtain ⟨x9, w7, hq_w7, h⟩ := hy_bi_spec h
      refine hy_calli (hy_runV (rest := []) (As := [.int (v4 - 1)]) (r := v0) (b := a_v0) B S rfl ha_v0 (by rfl) (c_M_isLetter hl9 G ad3 hq_w7) (hy_okr (by omega) (hy_oki hy_ok0)) tw_841 tw_9 tw_838 tw_840 sl_M_isLetter (by decide) rfl (Nat.le_of_ble_eq_true rfl) (Nat.le_of_ble_eq_true rfl) hf_ob10 hg_ob10 rfl hl.1 (Nat.le_of_ble_eq_true rfl) d_M_word_66) (fun ad8 H locs cells slots hag hl_w7 S => ?_)
      have ha_v0 : ad8 v0 = a_v0 := (hag v0 (by omega)).trans ha_v0
      refine lv_if_ne (tgt := 88) hx hb d_M_word_69 (by decide) (fun c11 => ?_) (fun c11 => ?_)
      · rw [if_neg c11] at h
        cases h
        exact hy_jump K S (hy_okr (by omega) (hy_oki (hy_oki (hy_oki (hy_oki hy_ok0))))) (lv_sub hl [1, 2, 3, 0, 4] rfl) (by subst ha_v0; rfl) (by subst ha_v0; rfl)
      · rw [if_pos c11] at h
        refine lv_iload_n hx hb d_M_word_72 rfl (lv_at hl 3 rfl) ?_
        refine lv_if_eq (tgt := 85) hx hb d_M_word_73 (by decide) (fun c12 => ?_) (fun c12 => ?_)
        · rw [if_pos c12] at h
          refine lv_iload hx hb d_M_word_85 (lv_at hl 4 rfl) ?_
          cases h
          cases K
          exact hy_iret hA B S d_M_word_87
        · rw [if_neg c12] at h
          refine lv_aload_n hx hb d_M_word_76 rfl (lv_at hl 1 rfl) ?_
          refine lv_iload hx hb d_M_word_77 (lv_at hl 4 rfl) ?_
          obtain ⟨ob16, h⟩ := hy_if h
          obtain ⟨fs_ob16, hf_ob16, hg_ob16⟩ := hy_ob_spec ob16
          obtain ⟨x15, w13, hq_w13, h⟩ := hy_bi_spec h
          refine hy_calli (hy_runV (rest := []) (As := [.int v4]) (r := v0) (b := a_v0) B S rfl ha_v0 (by rfl) (c_M_end hl9 G ad8 hq_w13) (hy_okr (by omega) (hy_oki hy_ok0)) tw_853 tw_9 tw_850 tw_852 sl_M_end (by decide) rfl (Nat.le_of_ble_eq_true rfl) (Nat.le_of_ble_eq_true rfl) hf_ob16 hg_ob16 rfl hl.1 (Nat.le_of_ble_eq_true rfl) d_M_word_79) (fun ad14 H locs cells slots hag hl_w13 S => ?_)
          have ha_v0 : ad14 v0 = a_v0 := (hag v0 (by omega)).trans ha_v0
          refine lv_goto (tgt := 87) hx hb d_M_word_82 (by decide) ?_
          cases h
          cases K
          exact hy_iret hA B S d_M_word_87
set_option maxHeartbeats 4000000 in
set_option maxRecDepth 100000 in
theorem sk_M_word_88 {p : Program} {l : Launch} {e : Env} {s : State} {m : MethodId} {args : Array Value} {below : List Frame} {meth : Method} {c : Code} {G : hy_G} {A : Nat → Prop} {ad0 : Nat → Nat} {w0 : hy_W} {o : hy_O} (hl9 : l.flags = flags0) (hA : hy_A G ad0 w0 s.heap.size = A) (B : hy_B p l e (hy_rm 3 67 w0) s m args below meth c "HyphenPatternsModel" b_M_word 5 (some .int) [] G A) (v0 : Nat) (v1 : Int32) (v2 : Int32) (v3 : Int32) (v4 : Int32) (w : hy_W) (nx : hy_N) (h : sg_M_word_88 v0 v1 v2 v3 v4 w = some nx) (K : hy_Nx lay_M_word p l e (hy_rm 3 67 w0) s m args below meth c 5 G A ad0 w0.1.length (hy_Q below G ad0 w0 o args s) o nx) : hy_At lay_M_word p l e (hy_rm 3 67 w0) s m args below meth c 5 G A ad0 w0.1.length (hy_Q below G ad0 w0 o args s) (88, [.ref v0, .int v1, .int v2, .int v3, .int v4], w) := by
  intro ad H locs cells slots ls S hok hl
  have hx := B.1
  have hb := B.2.1
  dsimp only at S hok
  have hl : lv_has ls 5 [(0, .ref (ad v0)), (1, .int v1), (2, .int v2), (3, .int v3), (4, .int v4)] := hl
  show W p l e (hy_rm 3 67 w0) s m args below meth c H locs cells slots (hy_Q below G ad0 w0 o args s) (F0 m 88 ls [])
  have hv_v0 : v0 < w.1.length := hok (.ref v0) (List.mem_of_getElem? (i := 0) rfl) v0 rfl
  obtain ⟨a_v0, ha_v0⟩ : ∃ a, ad v0 = a := ⟨_, rfl⟩
  rw [ha_v0] at hl
  unfold sg_M_word_88 at h
  refine lv_iinc (v := (v4 + 1)) (lv' := [(4, .int (v4 + 1)), (0, .ref a_v0), (1, .int v1), (2, .int v2), (3, .int v3)]) hx hb d_M_word_88 hl (k := 4) rfl rfl (Nat.le_of_ble_eq_true rfl) rfl (fun ls hl => ?_)
  refine lv_goto (tgt := 10) hx hb d_M_word_91 (by decide) ?_
  cases h
  exact hy_jump K S (hy_okr (by omega) (hy_oki (hy_oki (hy_oki (hy_oki hy_ok0))))) (lv_sub hl [1, 2, 3, 4, 0] rfl) (by subst ha_v0; rfl) (by subst ha_v0; rfl)
theorem nk_M_word {p : Program} {l : Launch} {e : Env} {s : State} {m : MethodId} {args : Array Value} {below : List Frame} {meth : Method} {c : Code} {G : hy_G} {A : Nat → Prop} {ad0 : Nat → Nat} {w0 : hy_W} {o : hy_O} (hl9 : l.flags = flags0) (hA : hy_A G ad0 w0 s.heap.size = A) (B : hy_B p l e (hy_rm 3 67 w0) s m args below meth c "HyphenPatternsModel" b_M_word 5 (some .int) [] G A) (q : hy_P) (nx : hy_N) (hq : nx_M_word q = some nx) (K : hy_Nx lay_M_word p l e (hy_rm 3 67 w0) s m args below meth c 5 G A ad0 w0.1.length (hy_Q below G ad0 w0 o args s) o nx) : hy_At lay_M_word p l e (hy_rm 3 67 w0) s m args below meth c 5 G A ad0 w0.1.length (hy_Q below G ad0 w0 o args s) q := by
  unfold nx_M_word at hq
  split at hq
  · exact sk_M_word_0 hl9 hA B _ _ _ _ nx hq K
  · exact sk_M_word_10 hl9 hA B _ _ _ _ _ _ nx hq K
  · exact sk_M_word_45 hl9 hA B _ _ _ _ _ _ nx hq K
  · exact sk_M_word_46 hl9 hA B _ _ _ _ _ _ nx hq K
  · exact sk_M_word_88 hl9 hA B _ _ _ _ _ _ nx hq K
  · cases hq
theorem c_M_word {l : Launch} (hl9 : l.flags = flags0) (G : hy_G) (ad : Nat → Nat) {v0 : Nat} {v1 : Int32} {v2 : Int32} {w : hy_W} {o : hy_O} (h : f_M_word [.ref v0, .int v1, .int v2] w = some o) : hy_M l y_M_word (Cond.code y_M_word b_M_word 5 (some .int) :: hy_T) 3 67 G ad [.ref v0, .int v1, .int v2] w o := by
  obtain ⟨n, hn⟩ := hy_fx_iff.mp h
  refine hy_ofW hl9 (by decide +kernel) (Nat.le_of_ble_eq_true rfl) (fun p e s m args below meth c A hA hi B S hok ls hl => ?_)
  exact hy_loop (nk_M_word hl9 hA B) n _ hn ad s.heap [] 0 0 ls S hok hl
theorem d_M_words_0 : decode b_M_words 0 = .ok (.iconst 0, 1) := by decide +kernel
theorem d_M_words_1 : decode b_M_words 1 = .ok (.istore_n 1, 1) := by decide +kernel
theorem d_M_words_2 : decode b_M_words 2 = .ok (.iconst 0, 1) := by decide +kernel
theorem d_M_words_3 : decode b_M_words 3 = .ok (.istore_n 2, 1) := by decide +kernel
theorem d_M_words_4 : decode b_M_words 4 = .ok (.iload_n 2, 1) := by decide +kernel
theorem d_M_words_5 : decode b_M_words 5 = .ok (.aload_n 0, 1) := by decide +kernel
theorem d_M_words_6 : decode b_M_words 6 = .ok (.getfield 131, 3) := by decide +kernel
theorem d_M_words_9 : decode b_M_words 9 = .ok (.if_icmp .ge 35, 3) := by decide +kernel
theorem d_M_words_12 : decode b_M_words 12 = .ok (.aload_n 0, 1) := by decide +kernel
theorem d_M_words_13 : decode b_M_words 13 = .ok (.iload_n 2, 1) := by decide +kernel
theorem d_M_words_14 : decode b_M_words 14 = .ok (.invokevirtual 138, 3) := by decide +kernel
theorem d_M_words_17 : decode b_M_words 17 = .ok (.ifCond .eq 19, 3) := by decide +kernel
theorem d_M_words_20 : decode b_M_words 20 = .ok (.aload_n 0, 1) := by decide +kernel
theorem d_M_words_21 : decode b_M_words 21 = .ok (.iload_n 2, 1) := by decide +kernel
theorem d_M_words_22 : decode b_M_words 22 = .ok (.iconst 1, 1) := by decide +kernel
theorem d_M_words_23 : decode b_M_words 23 = .ok (.isub, 1) := by decide +kernel
theorem d_M_words_24 : decode b_M_words 24 = .ok (.invokevirtual 138, 3) := by decide +kernel
theorem d_M_words_27 : decode b_M_words 27 = .ok (.ifCond .ne 9, 3) := by decide +kernel
theorem d_M_words_30 : decode b_M_words 30 = .ok (.iload_n 1, 1) := by decide +kernel
theorem d_M_words_31 : decode b_M_words 31 = .ok (.iconst 1, 1) := by decide +kernel
theorem d_M_words_32 : decode b_M_words 32 = .ok (.iadd, 1) := by decide +kernel
theorem d_M_words_33 : decode b_M_words 33 = .ok (.goto 4, 3) := by decide +kernel
theorem d_M_words_36 : decode b_M_words 36 = .ok (.iload_n 1, 1) := by decide +kernel
theorem d_M_words_37 : decode b_M_words 37 = .ok (.istore_n 1, 1) := by decide +kernel
theorem d_M_words_38 : decode b_M_words 38 = .ok (.iinc 2 1, 3) := by decide +kernel
theorem d_M_words_41 : decode b_M_words 41 = .ok (.goto (-37), 3) := by decide +kernel
theorem d_M_words_44 : decode b_M_words 44 = .ok (.iload_n 1, 1) := by decide +kernel
theorem d_M_words_45 : decode b_M_words 45 = .ok (.ireturn, 1) := by decide +kernel
def lay_M_words (pc : Nat) : List Nat := if pc = 0 then [0] else if pc = 4 then [0, 1, 2] else if pc = 36 then [0, 1, 2] else if pc = 37 then [0, 2] else []
noncomputable def sg_M_words_0 (v0 : Nat) (w : hy_W) : Option hy_N := some (.inl (4, [.ref v0, .int 0, .int 0], w))
noncomputable def sg_M_words_4 (v0 : Nat) (v1 : Int32) (v2 : Int32) (w : hy_W) : Option hy_N := (hy_gi w v0 6 24).bind fun x1 => if x1 ≤ v2 then (some (.inr (.inl (some (.int v1)), w))) else (if hy_ob w v0 6 = true then hy_bi (f_M_isLetter [.ref v0, .int v2] w) fun x5 w3 => if x5 = 0 then (some (.inl (36, [.ref v0, .int v1, .int v2], w3))) else (if hy_ob w3 v0 6 = true then hy_bi (f_M_isLetter [.ref v0, .int (v2 - 1)] w3) fun x10 w8 => if x10 = 0 then (some (.inl (37, [.ref v0, .int v2, .int (v1 + 1)], w8))) else (some (.inl (36, [.ref v0, .int v1, .int v2], w8))) else none) else none)
noncomputable def sg_M_words_36 (v0 : Nat) (v1 : Int32) (v2 : Int32) (w : hy_W) : Option hy_N := some (.inl (37, [.ref v0, .int v2, .int v1], w))
noncomputable def sg_M_words_37 (v0 : Nat) (v2 : Int32) (s0 : Int32) (w : hy_W) : Option hy_N := some (.inl (4, [.ref v0, .int s0, .int (v2 + 1)], w))
noncomputable def nx_M_words (q : hy_P) : Option hy_N := match q with
  | (0, [.ref v0], w) => sg_M_words_0 v0 w
  | (4, [.ref v0, .int v1, .int v2], w) => sg_M_words_4 v0 v1 v2 w
  | (36, [.ref v0, .int v1, .int v2], w) => sg_M_words_36 v0 v1 v2 w
  | (37, [.ref v0, .int v2, .int s0], w) => sg_M_words_37 v0 v2 s0 w
  | _ => none
noncomputable def f_M_words (av : List Value) (w : hy_W) : Option hy_O := hy_fx nx_M_words (0, av, w)
set_option maxHeartbeats 4000000 in
set_option maxRecDepth 100000 in
theorem sk_M_words_0 {p : Program} {l : Launch} {e : Env} {s : State} {m : MethodId} {args : Array Value} {below : List Frame} {meth : Method} {c : Code} {G : hy_G} {A : Nat → Prop} {ad0 : Nat → Nat} {w0 : hy_W} {o : hy_O} (hl9 : l.flags = flags0) (hA : hy_A G ad0 w0 s.heap.size = A) (B : hy_B p l e (hy_rm 2 45 w0) s m args below meth c "HyphenPatternsModel" b_M_words 3 (some .int) [] G A) (v0 : Nat) (w : hy_W) (nx : hy_N) (h : sg_M_words_0 v0 w = some nx) (K : hy_Nx lay_M_words p l e (hy_rm 2 45 w0) s m args below meth c 3 G A ad0 w0.1.length (hy_Q below G ad0 w0 o args s) o nx) : hy_At lay_M_words p l e (hy_rm 2 45 w0) s m args below meth c 3 G A ad0 w0.1.length (hy_Q below G ad0 w0 o args s) (0, [.ref v0], w) := by
  intro ad H locs cells slots ls S hok hl
  have hx := B.1
  have hb := B.2.1
  dsimp only at S hok
  have hl : lv_has ls 3 [(0, .ref (ad v0))] := hl
  show W p l e (hy_rm 2 45 w0) s m args below meth c H locs cells slots (hy_Q below G ad0 w0 o args s) (F0 m 0 ls [])
  have hv_v0 : v0 < w.1.length := hok (.ref v0) (List.mem_of_getElem? (i := 0) rfl) v0 rfl
  obtain ⟨a_v0, ha_v0⟩ : ∃ a, ad v0 = a := ⟨_, rfl⟩
  rw [ha_v0] at hl
  unfold sg_M_words_0 at h
  refine lv_iconst (v := 0) hx hb d_M_words_0 (by decide) ?_
  refine lv_istore_n (lv' := [(1, .int 0), (0, .ref a_v0)]) hx hb d_M_words_1 rfl hl (Nat.le_of_ble_eq_true rfl) rfl (fun ls hl => ?_)
  refine lv_iconst (v := 0) hx hb d_M_words_2 (by decide) ?_
  refine lv_istore_n (lv' := [(2, .int 0), (1, .int 0), (0, .ref a_v0)]) hx hb d_M_words_3 rfl hl (Nat.le_of_ble_eq_true rfl) rfl (fun ls hl => ?_)
  cases h
  exact hy_jump K S (hy_okr (by omega) (hy_oki (hy_oki hy_ok0))) (lv_sub hl [2, 1, 0] rfl) (by subst ha_v0; rfl) (by subst ha_v0; rfl)
set_option maxHeartbeats 4000000 in
set_option maxRecDepth 100000 in
theorem sk_M_words_4 {p : Program} {l : Launch} {e : Env} {s : State} {m : MethodId} {args : Array Value} {below : List Frame} {meth : Method} {c : Code} {G : hy_G} {A : Nat → Prop} {ad0 : Nat → Nat} {w0 : hy_W} {o : hy_O} (hl9 : l.flags = flags0) (hA : hy_A G ad0 w0 s.heap.size = A) (B : hy_B p l e (hy_rm 2 45 w0) s m args below meth c "HyphenPatternsModel" b_M_words 3 (some .int) [] G A) (v0 : Nat) (v1 : Int32) (v2 : Int32) (w : hy_W) (nx : hy_N) (h : sg_M_words_4 v0 v1 v2 w = some nx) (K : hy_Nx lay_M_words p l e (hy_rm 2 45 w0) s m args below meth c 3 G A ad0 w0.1.length (hy_Q below G ad0 w0 o args s) o nx) : hy_At lay_M_words p l e (hy_rm 2 45 w0) s m args below meth c 3 G A ad0 w0.1.length (hy_Q below G ad0 w0 o args s) (4, [.ref v0, .int v1, .int v2], w) := by
  intro ad H locs cells slots ls S hok hl
  have hx := B.1
  have hb := B.2.1
  dsimp only at S hok
  have hl : lv_has ls 3 [(0, .ref (ad v0)), (1, .int v1), (2, .int v2)] := hl
  show W p l e (hy_rm 2 45 w0) s m args below meth c H locs cells slots (hy_Q below G ad0 w0 o args s) (F0 m 4 ls [])
  have hv_v0 : v0 < w.1.length := hok (.ref v0) (List.mem_of_getElem? (i := 0) rfl) v0 rfl
  obtain ⟨a_v0, ha_v0⟩ : ∃ a, ad v0 = a := ⟨_, rfl⟩
  rw [ha_v0] at hl
  unfold sg_M_words_4 at h
  refine lv_iload_n hx hb d_M_words_4 rfl (lv_at hl 2 rfl) ?_
  refine lv_aload_n hx hb d_M_words_5 rfl (lv_at hl 0 rfl) ?_
  obtain ⟨x1, hx1, h⟩ := hy_bd h
  refine hy_geti B S ha_v0 hx1 rfl (Nat.le_of_ble_eq_true rfl) i_6 (j := 24) tw_674 (fun _ h => h) d_M_words_6 ?_
  refine lv_icmp_ge (tgt := 44) hx hb d_M_words_9 (by decide) (fun c2 => ?_) (fun c2 => ?_)
  · rw [if_pos c2] at h
    refine lv_iload_n hx hb d_M_words_44 rfl (lv_at hl 1 rfl) ?_
    cases h
    cases K
    exact hy_iret hA B S d_M_words_45
  · rw [if_neg c2] at h
    refine lv_aload_n hx hb d_M_words_12 rfl (lv_at hl 0 rfl) ?_
    refine lv_iload_n hx hb d_M_words_13 rfl (lv_at hl 2 rfl) ?_
    obtain ⟨ob6, h⟩ := hy_if h
    obtain ⟨fs_ob6, hf_ob6, hg_ob6⟩ := hy_ob_spec ob6
    obtain ⟨x5, w3, hq_w3, h⟩ := hy_bi_spec h
    refine hy_calli (hy_runV (rest := []) (As := [.int v2]) (r := v0) (b := a_v0) B S rfl ha_v0 (by rfl) (c_M_isLetter hl9 G ad hq_w3) (hy_okr (by omega) (hy_oki hy_ok0)) tw_841 tw_9 tw_838 tw_840 sl_M_isLetter (by decide) rfl (Nat.le_of_ble_eq_true rfl) (Nat.le_of_ble_eq_true rfl) hf_ob6 hg_ob6 rfl hl.1 (Nat.le_of_ble_eq_true rfl) d_M_words_14) (fun ad4 H locs cells slots hag hl_w3 S => ?_)
    have ha_v0 : ad4 v0 = a_v0 := (hag v0 (by omega)).trans ha_v0
    refine lv_if_eq (tgt := 36) hx hb d_M_words_17 (by decide) (fun c7 => ?_) (fun c7 => ?_)
    · rw [if_pos c7] at h
      cases h
      exact hy_jump K S (hy_okr (by omega) (hy_oki (hy_oki hy_ok0))) (lv_sub hl [0, 1, 2] rfl) (by subst ha_v0; rfl) (by subst ha_v0; rfl)
    · rw [if_neg c7] at h
      refine lv_aload_n hx hb d_M_words_20 rfl (lv_at hl 0 rfl) ?_
      refine lv_iload_n hx hb d_M_words_21 rfl (lv_at hl 2 rfl) ?_
      refine lv_iconst (v := 1) hx hb d_M_words_22 (by decide) ?_
      refine lv_isub hx hb d_M_words_23 ?_
      obtain ⟨ob11, h⟩ := hy_if h
      obtain ⟨fs_ob11, hf_ob11, hg_ob11⟩ := hy_ob_spec ob11
      obtain ⟨x10, w8, hq_w8, h⟩ := hy_bi_spec h
      refine hy_calli (hy_runV (rest := []) (As := [.int (v2 - 1)]) (r := v0) (b := a_v0) B S rfl ha_v0 (by rfl) (c_M_isLetter hl9 G ad4 hq_w8) (hy_okr (by omega) (hy_oki hy_ok0)) tw_841 tw_9 tw_838 tw_840 sl_M_isLetter (by decide) rfl (Nat.le_of_ble_eq_true rfl) (Nat.le_of_ble_eq_true rfl) hf_ob11 hg_ob11 rfl hl.1 (Nat.le_of_ble_eq_true rfl) d_M_words_24) (fun ad9 H locs cells slots hag hl_w8 S => ?_)
      have ha_v0 : ad9 v0 = a_v0 := (hag v0 (by omega)).trans ha_v0
      refine lv_if_ne (tgt := 36) hx hb d_M_words_27 (by decide) (fun c12 => ?_) (fun c12 => ?_)
      · rw [if_neg c12] at h
        cases h
        exact hy_jump K S (hy_okr (by omega) (hy_oki (hy_oki hy_ok0))) (lv_sub hl [0, 1, 2] rfl) (by subst ha_v0; rfl) (by subst ha_v0; rfl)
      · rw [if_pos c12] at h
        refine lv_iload_n hx hb d_M_words_30 rfl (lv_at hl 1 rfl) ?_
        refine lv_iconst (v := 1) hx hb d_M_words_31 (by decide) ?_
        refine lv_iadd hx hb d_M_words_32 ?_
        refine lv_goto (tgt := 37) hx hb d_M_words_33 (by decide) ?_
        cases h
        exact hy_jump K S (hy_okr (by omega) (hy_oki (hy_oki hy_ok0))) (lv_sub hl [0, 2] rfl) (by subst ha_v0; rfl) (by subst ha_v0; rfl)
set_option maxHeartbeats 4000000 in
set_option maxRecDepth 100000 in
theorem sk_M_words_36 {p : Program} {l : Launch} {e : Env} {s : State} {m : MethodId} {args : Array Value} {below : List Frame} {meth : Method} {c : Code} {G : hy_G} {A : Nat → Prop} {ad0 : Nat → Nat} {w0 : hy_W} {o : hy_O} (hl9 : l.flags = flags0) (hA : hy_A G ad0 w0 s.heap.size = A) (B : hy_B p l e (hy_rm 2 45 w0) s m args below meth c "HyphenPatternsModel" b_M_words 3 (some .int) [] G A) (v0 : Nat) (v1 : Int32) (v2 : Int32) (w : hy_W) (nx : hy_N) (h : sg_M_words_36 v0 v1 v2 w = some nx) (K : hy_Nx lay_M_words p l e (hy_rm 2 45 w0) s m args below meth c 3 G A ad0 w0.1.length (hy_Q below G ad0 w0 o args s) o nx) : hy_At lay_M_words p l e (hy_rm 2 45 w0) s m args below meth c 3 G A ad0 w0.1.length (hy_Q below G ad0 w0 o args s) (36, [.ref v0, .int v1, .int v2], w) := by
  intro ad H locs cells slots ls S hok hl
  have hx := B.1
  have hb := B.2.1
  dsimp only at S hok
  have hl : lv_has ls 3 [(0, .ref (ad v0)), (1, .int v1), (2, .int v2)] := hl
  show W p l e (hy_rm 2 45 w0) s m args below meth c H locs cells slots (hy_Q below G ad0 w0 o args s) (F0 m 36 ls [])
  have hv_v0 : v0 < w.1.length := hok (.ref v0) (List.mem_of_getElem? (i := 0) rfl) v0 rfl
  obtain ⟨a_v0, ha_v0⟩ : ∃ a, ad v0 = a := ⟨_, rfl⟩
  rw [ha_v0] at hl
  unfold sg_M_words_36 at h
  refine lv_iload_n hx hb d_M_words_36 rfl (lv_at hl 1 rfl) ?_
  cases h
  exact hy_jump K S (hy_okr (by omega) (hy_oki (hy_oki hy_ok0))) (lv_sub hl [0, 2] rfl) (by subst ha_v0; rfl) (by subst ha_v0; rfl)
set_option maxHeartbeats 4000000 in
set_option maxRecDepth 100000 in
theorem sk_M_words_37 {p : Program} {l : Launch} {e : Env} {s : State} {m : MethodId} {args : Array Value} {below : List Frame} {meth : Method} {c : Code} {G : hy_G} {A : Nat → Prop} {ad0 : Nat → Nat} {w0 : hy_W} {o : hy_O} (hl9 : l.flags = flags0) (hA : hy_A G ad0 w0 s.heap.size = A) (B : hy_B p l e (hy_rm 2 45 w0) s m args below meth c "HyphenPatternsModel" b_M_words 3 (some .int) [] G A) (v0 : Nat) (v2 : Int32) (s0 : Int32) (w : hy_W) (nx : hy_N) (h : sg_M_words_37 v0 v2 s0 w = some nx) (K : hy_Nx lay_M_words p l e (hy_rm 2 45 w0) s m args below meth c 3 G A ad0 w0.1.length (hy_Q below G ad0 w0 o args s) o nx) : hy_At lay_M_words p l e (hy_rm 2 45 w0) s m args below meth c 3 G A ad0 w0.1.length (hy_Q below G ad0 w0 o args s) (37, [.ref v0, .int v2, .int s0], w) := by
  intro ad H locs cells slots ls S hok hl
  have hx := B.1
  have hb := B.2.1
  dsimp only at S hok
  have hl : lv_has ls 3 [(0, .ref (ad v0)), (2, .int v2)] := hl
  show W p l e (hy_rm 2 45 w0) s m args below meth c H locs cells slots (hy_Q below G ad0 w0 o args s) (F0 m 37 ls [.int s0])
  have hv_v0 : v0 < w.1.length := hok (.ref v0) (List.mem_of_getElem? (i := 0) rfl) v0 rfl
  obtain ⟨a_v0, ha_v0⟩ : ∃ a, ad v0 = a := ⟨_, rfl⟩
  rw [ha_v0] at hl
  unfold sg_M_words_37 at h
  refine lv_istore_n (lv' := [(1, .int s0), (0, .ref a_v0), (2, .int v2)]) hx hb d_M_words_37 rfl hl (Nat.le_of_ble_eq_true rfl) rfl (fun ls hl => ?_)
  refine lv_iinc (v := (v2 + 1)) (lv' := [(2, .int (v2 + 1)), (1, .int s0), (0, .ref a_v0)]) hx hb d_M_words_38 hl (k := 2) rfl rfl (Nat.le_of_ble_eq_true rfl) rfl (fun ls hl => ?_)
  refine lv_goto (tgt := 4) hx hb d_M_words_41 (by decide) ?_
  cases h
  exact hy_jump K S (hy_okr (by omega) (hy_oki (hy_oki hy_ok0))) (lv_sub hl [2, 1, 0] rfl) (by subst ha_v0; rfl) (by subst ha_v0; rfl)
theorem nk_M_words {p : Program} {l : Launch} {e : Env} {s : State} {m : MethodId} {args : Array Value} {below : List Frame} {meth : Method} {c : Code} {G : hy_G} {A : Nat → Prop} {ad0 : Nat → Nat} {w0 : hy_W} {o : hy_O} (hl9 : l.flags = flags0) (hA : hy_A G ad0 w0 s.heap.size = A) (B : hy_B p l e (hy_rm 2 45 w0) s m args below meth c "HyphenPatternsModel" b_M_words 3 (some .int) [] G A) (q : hy_P) (nx : hy_N) (hq : nx_M_words q = some nx) (K : hy_Nx lay_M_words p l e (hy_rm 2 45 w0) s m args below meth c 3 G A ad0 w0.1.length (hy_Q below G ad0 w0 o args s) o nx) : hy_At lay_M_words p l e (hy_rm 2 45 w0) s m args below meth c 3 G A ad0 w0.1.length (hy_Q below G ad0 w0 o args s) q := by
  unfold nx_M_words at hq
  split at hq
  · exact sk_M_words_0 hl9 hA B _ _ nx hq K
  · exact sk_M_words_4 hl9 hA B _ _ _ _ nx hq K
  · exact sk_M_words_36 hl9 hA B _ _ _ _ nx hq K
  · exact sk_M_words_37 hl9 hA B _ _ _ _ nx hq K
  · cases hq
theorem c_M_words {l : Launch} (hl9 : l.flags = flags0) (G : hy_G) (ad : Nat → Nat) {v0 : Nat} {w : hy_W} {o : hy_O} (h : f_M_words [.ref v0] w = some o) : hy_M l y_M_words (Cond.code y_M_words b_M_words 3 (some .int) :: hy_T) 2 45 G ad [.ref v0] w o := by
  obtain ⟨n, hn⟩ := hy_fx_iff.mp h
  refine hy_ofW hl9 (by decide +kernel) (Nat.le_of_ble_eq_true rfl) (fun p e s m args below meth c A hA hi B S hok ls hl => ?_)
  exact hy_loop (nk_M_words hl9 hA B) n _ hn ad s.heap [] 0 0 ls S hok hl
theorem d_M_brokenPlaces_0 : decode b_M_brokenPlaces 0 = .ok (.iconst 0, 1) := by decide +kernel
theorem d_M_brokenPlaces_1 : decode b_M_brokenPlaces 1 = .ok (.istore_n 1, 1) := by decide +kernel
theorem d_M_brokenPlaces_2 : decode b_M_brokenPlaces 2 = .ok (.iconst 0, 1) := by decide +kernel
theorem d_M_brokenPlaces_3 : decode b_M_brokenPlaces 3 = .ok (.istore_n 2, 1) := by decide +kernel
theorem d_M_brokenPlaces_4 : decode b_M_brokenPlaces 4 = .ok (.iload_n 2, 1) := by decide +kernel
theorem d_M_brokenPlaces_5 : decode b_M_brokenPlaces 5 = .ok (.aload_n 0, 1) := by decide +kernel
theorem d_M_brokenPlaces_6 : decode b_M_brokenPlaces 6 = .ok (.getfield 131, 3) := by decide +kernel
theorem d_M_brokenPlaces_9 : decode b_M_brokenPlaces 9 = .ok (.if_icmp .gt 25, 3) := by decide +kernel
theorem d_M_brokenPlaces_12 : decode b_M_brokenPlaces 12 = .ok (.aload_n 0, 1) := by decide +kernel
theorem d_M_brokenPlaces_13 : decode b_M_brokenPlaces 13 = .ok (.iload_n 2, 1) := by decide +kernel
theorem d_M_brokenPlaces_14 : decode b_M_brokenPlaces 14 = .ok (.invokevirtual 171, 3) := by decide +kernel
theorem d_M_brokenPlaces_17 : decode b_M_brokenPlaces 17 = .ok (.ifCond .eq 9, 3) := by decide +kernel
theorem d_M_brokenPlaces_20 : decode b_M_brokenPlaces 20 = .ok (.iload_n 1, 1) := by decide +kernel
theorem d_M_brokenPlaces_21 : decode b_M_brokenPlaces 21 = .ok (.iconst 1, 1) := by decide +kernel
theorem d_M_brokenPlaces_22 : decode b_M_brokenPlaces 22 = .ok (.iadd, 1) := by decide +kernel
theorem d_M_brokenPlaces_23 : decode b_M_brokenPlaces 23 = .ok (.goto 4, 3) := by decide +kernel
theorem d_M_brokenPlaces_26 : decode b_M_brokenPlaces 26 = .ok (.iload_n 1, 1) := by decide +kernel
theorem d_M_brokenPlaces_27 : decode b_M_brokenPlaces 27 = .ok (.istore_n 1, 1) := by decide +kernel
theorem d_M_brokenPlaces_28 : decode b_M_brokenPlaces 28 = .ok (.iinc 2 1, 3) := by decide +kernel
theorem d_M_brokenPlaces_31 : decode b_M_brokenPlaces 31 = .ok (.goto (-27), 3) := by decide +kernel
theorem d_M_brokenPlaces_34 : decode b_M_brokenPlaces 34 = .ok (.iload_n 1, 1) := by decide +kernel
theorem d_M_brokenPlaces_35 : decode b_M_brokenPlaces 35 = .ok (.ireturn, 1) := by decide +kernel
def lay_M_brokenPlaces (pc : Nat) : List Nat := if pc = 0 then [0] else if pc = 4 then [0, 1, 2] else if pc = 27 then [0, 2] else []
noncomputable def sg_M_brokenPlaces_0 (v0 : Nat) (w : hy_W) : Option hy_N := some (.inl (4, [.ref v0, .int 0, .int 0], w))
noncomputable def sg_M_brokenPlaces_4 (v0 : Nat) (v1 : Int32) (v2 : Int32) (w : hy_W) : Option hy_N := (hy_gi w v0 6 24).bind fun x1 => if x1 < v2 then (some (.inr (.inl (some (.int v1)), w))) else (if hy_ob w v0 6 = true then hy_bi (f_M_isBroken [.ref v0, .int v2] w) fun x5 w3 => if x5 = 0 then (some (.inl (27, [.ref v0, .int v2, .int v1], w3))) else (some (.inl (27, [.ref v0, .int v2, .int (v1 + 1)], w3))) else none)
noncomputable def sg_M_brokenPlaces_27 (v0 : Nat) (v2 : Int32) (s0 : Int32) (w : hy_W) : Option hy_N := some (.inl (4, [.ref v0, .int s0, .int (v2 + 1)], w))
noncomputable def nx_M_brokenPlaces (q : hy_P) : Option hy_N := match q with
  | (0, [.ref v0], w) => sg_M_brokenPlaces_0 v0 w
  | (4, [.ref v0, .int v1, .int v2], w) => sg_M_brokenPlaces_4 v0 v1 v2 w
  | (27, [.ref v0, .int v2, .int s0], w) => sg_M_brokenPlaces_27 v0 v2 s0 w
  | _ => none
noncomputable def f_M_brokenPlaces (av : List Value) (w : hy_W) : Option hy_O := hy_fx nx_M_brokenPlaces (0, av, w)
set_option maxHeartbeats 4000000 in
set_option maxRecDepth 100000 in
theorem sk_M_brokenPlaces_0 {p : Program} {l : Launch} {e : Env} {s : State} {m : MethodId} {args : Array Value} {below : List Frame} {meth : Method} {c : Code} {G : hy_G} {A : Nat → Prop} {ad0 : Nat → Nat} {w0 : hy_W} {o : hy_O} (hl9 : l.flags = flags0) (hA : hy_A G ad0 w0 s.heap.size = A) (B : hy_B p l e (hy_rm 6 144 w0) s m args below meth c "HyphenPatternsModel" b_M_brokenPlaces 3 (some .int) [] G A) (v0 : Nat) (w : hy_W) (nx : hy_N) (h : sg_M_brokenPlaces_0 v0 w = some nx) (K : hy_Nx lay_M_brokenPlaces p l e (hy_rm 6 144 w0) s m args below meth c 3 G A ad0 w0.1.length (hy_Q below G ad0 w0 o args s) o nx) : hy_At lay_M_brokenPlaces p l e (hy_rm 6 144 w0) s m args below meth c 3 G A ad0 w0.1.length (hy_Q below G ad0 w0 o args s) (0, [.ref v0], w) := by
  intro ad H locs cells slots ls S hok hl
  have hx := B.1
  have hb := B.2.1
  dsimp only at S hok
  have hl : lv_has ls 3 [(0, .ref (ad v0))] := hl
  show W p l e (hy_rm 6 144 w0) s m args below meth c H locs cells slots (hy_Q below G ad0 w0 o args s) (F0 m 0 ls [])
  have hv_v0 : v0 < w.1.length := hok (.ref v0) (List.mem_of_getElem? (i := 0) rfl) v0 rfl
  obtain ⟨a_v0, ha_v0⟩ : ∃ a, ad v0 = a := ⟨_, rfl⟩
  rw [ha_v0] at hl
  unfold sg_M_brokenPlaces_0 at h
  refine lv_iconst (v := 0) hx hb d_M_brokenPlaces_0 (by decide) ?_
  refine lv_istore_n (lv' := [(1, .int 0), (0, .ref a_v0)]) hx hb d_M_brokenPlaces_1 rfl hl (Nat.le_of_ble_eq_true rfl) rfl (fun ls hl => ?_)
  refine lv_iconst (v := 0) hx hb d_M_brokenPlaces_2 (by decide) ?_
  refine lv_istore_n (lv' := [(2, .int 0), (1, .int 0), (0, .ref a_v0)]) hx hb d_M_brokenPlaces_3 rfl hl (Nat.le_of_ble_eq_true rfl) rfl (fun ls hl => ?_)
  cases h
  exact hy_jump K S (hy_okr (by omega) (hy_oki (hy_oki hy_ok0))) (lv_sub hl [2, 1, 0] rfl) (by subst ha_v0; rfl) (by subst ha_v0; rfl)
set_option maxHeartbeats 4000000 in
set_option maxRecDepth 100000 in
theorem sk_M_brokenPlaces_4 {p : Program} {l : Launch} {e : Env} {s : State} {m : MethodId} {args : Array Value} {below : List Frame} {meth : Method} {c : Code} {G : hy_G} {A : Nat → Prop} {ad0 : Nat → Nat} {w0 : hy_W} {o : hy_O} (hl9 : l.flags = flags0) (hA : hy_A G ad0 w0 s.heap.size = A) (B : hy_B p l e (hy_rm 6 144 w0) s m args below meth c "HyphenPatternsModel" b_M_brokenPlaces 3 (some .int) [] G A) (v0 : Nat) (v1 : Int32) (v2 : Int32) (w : hy_W) (nx : hy_N) (h : sg_M_brokenPlaces_4 v0 v1 v2 w = some nx) (K : hy_Nx lay_M_brokenPlaces p l e (hy_rm 6 144 w0) s m args below meth c 3 G A ad0 w0.1.length (hy_Q below G ad0 w0 o args s) o nx) : hy_At lay_M_brokenPlaces p l e (hy_rm 6 144 w0) s m args below meth c 3 G A ad0 w0.1.length (hy_Q below G ad0 w0 o args s) (4, [.ref v0, .int v1, .int v2], w) := by
  intro ad H locs cells slots ls S hok hl
  have hx := B.1
  have hb := B.2.1
  dsimp only at S hok
  have hl : lv_has ls 3 [(0, .ref (ad v0)), (1, .int v1), (2, .int v2)] := hl
  show W p l e (hy_rm 6 144 w0) s m args below meth c H locs cells slots (hy_Q below G ad0 w0 o args s) (F0 m 4 ls [])
  have hv_v0 : v0 < w.1.length := hok (.ref v0) (List.mem_of_getElem? (i := 0) rfl) v0 rfl
  obtain ⟨a_v0, ha_v0⟩ : ∃ a, ad v0 = a := ⟨_, rfl⟩
  rw [ha_v0] at hl
  unfold sg_M_brokenPlaces_4 at h
  refine lv_iload_n hx hb d_M_brokenPlaces_4 rfl (lv_at hl 2 rfl) ?_
  refine lv_aload_n hx hb d_M_brokenPlaces_5 rfl (lv_at hl 0 rfl) ?_
  obtain ⟨x1, hx1, h⟩ := hy_bd h
  refine hy_geti B S ha_v0 hx1 rfl (Nat.le_of_ble_eq_true rfl) i_6 (j := 24) tw_674 (fun _ h => h) d_M_brokenPlaces_6 ?_
  refine lv_icmp_gt (tgt := 34) hx hb d_M_brokenPlaces_9 (by decide) (fun c2 => ?_) (fun c2 => ?_)
  · rw [if_pos c2] at h
    refine lv_iload_n hx hb d_M_brokenPlaces_34 rfl (lv_at hl 1 rfl) ?_
    cases h
    cases K
    exact hy_iret hA B S d_M_brokenPlaces_35
  · rw [if_neg c2] at h
    refine lv_aload_n hx hb d_M_brokenPlaces_12 rfl (lv_at hl 0 rfl) ?_
    refine lv_iload_n hx hb d_M_brokenPlaces_13 rfl (lv_at hl 2 rfl) ?_
    obtain ⟨ob6, h⟩ := hy_if h
    obtain ⟨fs_ob6, hf_ob6, hg_ob6⟩ := hy_ob_spec ob6
    obtain ⟨x5, w3, hq_w3, h⟩ := hy_bi_spec h
    refine hy_calli (hy_runV (rest := []) (As := [.int v2]) (r := v0) (b := a_v0) B S rfl ha_v0 (by rfl) (c_M_isBroken hl9 G ad hq_w3) (hy_okr (by omega) (hy_oki hy_ok0)) tw_877 tw_9 tw_874 tw_876 sl_M_isBroken (by decide) rfl (Nat.le_of_ble_eq_true rfl) (Nat.le_of_ble_eq_true rfl) hf_ob6 hg_ob6 rfl hl.1 (Nat.le_of_ble_eq_true rfl) d_M_brokenPlaces_14) (fun ad4 H locs cells slots hag hl_w3 S => ?_)
    have ha_v0 : ad4 v0 = a_v0 := (hag v0 (by omega)).trans ha_v0
    refine lv_if_eq (tgt := 26) hx hb d_M_brokenPlaces_17 (by decide) (fun c7 => ?_) (fun c7 => ?_)
    · rw [if_pos c7] at h
      refine lv_iload_n hx hb d_M_brokenPlaces_26 rfl (lv_at hl 1 rfl) ?_
      cases h
      exact hy_jump K S (hy_okr (by omega) (hy_oki (hy_oki hy_ok0))) (lv_sub hl [0, 2] rfl) (by subst ha_v0; rfl) (by subst ha_v0; rfl)
    · rw [if_neg c7] at h
      refine lv_iload_n hx hb d_M_brokenPlaces_20 rfl (lv_at hl 1 rfl) ?_
      refine lv_iconst (v := 1) hx hb d_M_brokenPlaces_21 (by decide) ?_
      refine lv_iadd hx hb d_M_brokenPlaces_22 ?_
      refine lv_goto (tgt := 27) hx hb d_M_brokenPlaces_23 (by decide) ?_
      cases h
      exact hy_jump K S (hy_okr (by omega) (hy_oki (hy_oki hy_ok0))) (lv_sub hl [0, 2] rfl) (by subst ha_v0; rfl) (by subst ha_v0; rfl)
set_option maxHeartbeats 4000000 in
set_option maxRecDepth 100000 in
theorem sk_M_brokenPlaces_27 {p : Program} {l : Launch} {e : Env} {s : State} {m : MethodId} {args : Array Value} {below : List Frame} {meth : Method} {c : Code} {G : hy_G} {A : Nat → Prop} {ad0 : Nat → Nat} {w0 : hy_W} {o : hy_O} (hl9 : l.flags = flags0) (hA : hy_A G ad0 w0 s.heap.size = A) (B : hy_B p l e (hy_rm 6 144 w0) s m args below meth c "HyphenPatternsModel" b_M_brokenPlaces 3 (some .int) [] G A) (v0 : Nat) (v2 : Int32) (s0 : Int32) (w : hy_W) (nx : hy_N) (h : sg_M_brokenPlaces_27 v0 v2 s0 w = some nx) (K : hy_Nx lay_M_brokenPlaces p l e (hy_rm 6 144 w0) s m args below meth c 3 G A ad0 w0.1.length (hy_Q below G ad0 w0 o args s) o nx) : hy_At lay_M_brokenPlaces p l e (hy_rm 6 144 w0) s m args below meth c 3 G A ad0 w0.1.length (hy_Q below G ad0 w0 o args s) (27, [.ref v0, .int v2, .int s0], w) := by
  intro ad H locs cells slots ls S hok hl
  have hx := B.1
  have hb := B.2.1
  dsimp only at S hok
  have hl : lv_has ls 3 [(0, .ref (ad v0)), (2, .int v2)] := hl
  show W p l e (hy_rm 6 144 w0) s m args below meth c H locs cells slots (hy_Q below G ad0 w0 o args s) (F0 m 27 ls [.int s0])
  have hv_v0 : v0 < w.1.length := hok (.ref v0) (List.mem_of_getElem? (i := 0) rfl) v0 rfl
  obtain ⟨a_v0, ha_v0⟩ : ∃ a, ad v0 = a := ⟨_, rfl⟩
  rw [ha_v0] at hl
  unfold sg_M_brokenPlaces_27 at h
  refine lv_istore_n (lv' := [(1, .int s0), (0, .ref a_v0), (2, .int v2)]) hx hb d_M_brokenPlaces_27 rfl hl (Nat.le_of_ble_eq_true rfl) rfl (fun ls hl => ?_)
  refine lv_iinc (v := (v2 + 1)) (lv' := [(2, .int (v2 + 1)), (1, .int s0), (0, .ref a_v0)]) hx hb d_M_brokenPlaces_28 hl (k := 2) rfl rfl (Nat.le_of_ble_eq_true rfl) rfl (fun ls hl => ?_)
  refine lv_goto (tgt := 4) hx hb d_M_brokenPlaces_31 (by decide) ?_
  cases h
  exact hy_jump K S (hy_okr (by omega) (hy_oki (hy_oki hy_ok0))) (lv_sub hl [2, 1, 0] rfl) (by subst ha_v0; rfl) (by subst ha_v0; rfl)
theorem nk_M_brokenPlaces {p : Program} {l : Launch} {e : Env} {s : State} {m : MethodId} {args : Array Value} {below : List Frame} {meth : Method} {c : Code} {G : hy_G} {A : Nat → Prop} {ad0 : Nat → Nat} {w0 : hy_W} {o : hy_O} (hl9 : l.flags = flags0) (hA : hy_A G ad0 w0 s.heap.size = A) (B : hy_B p l e (hy_rm 6 144 w0) s m args below meth c "HyphenPatternsModel" b_M_brokenPlaces 3 (some .int) [] G A) (q : hy_P) (nx : hy_N) (hq : nx_M_brokenPlaces q = some nx) (K : hy_Nx lay_M_brokenPlaces p l e (hy_rm 6 144 w0) s m args below meth c 3 G A ad0 w0.1.length (hy_Q below G ad0 w0 o args s) o nx) : hy_At lay_M_brokenPlaces p l e (hy_rm 6 144 w0) s m args below meth c 3 G A ad0 w0.1.length (hy_Q below G ad0 w0 o args s) q := by
  unfold nx_M_brokenPlaces at hq
  split at hq
  · exact sk_M_brokenPlaces_0 hl9 hA B _ _ nx hq K
  · exact sk_M_brokenPlaces_4 hl9 hA B _ _ _ _ nx hq K
  · exact sk_M_brokenPlaces_27 hl9 hA B _ _ _ _ nx hq K
  · cases hq
theorem c_M_brokenPlaces {l : Launch} (hl9 : l.flags = flags0) (G : hy_G) (ad : Nat → Nat) {v0 : Nat} {w : hy_W} {o : hy_O} (h : f_M_brokenPlaces [.ref v0] w = some o) : hy_M l y_M_brokenPlaces (Cond.code y_M_brokenPlaces b_M_brokenPlaces 3 (some .int) :: hy_T) 6 144 G ad [.ref v0] w o := by
  obtain ⟨n, hn⟩ := hy_fx_iff.mp h
  refine hy_ofW hl9 (by decide +kernel) (Nat.le_of_ble_eq_true rfl) (fun p e s m args below meth c A hA hi B S hok ls hl => ?_)
  exact hy_loop (nk_M_brokenPlaces hl9 hA B) n _ hn ad s.heap [] 0 0 ls S hok hl
theorem d_M_timesIn_0 : decode b_M_timesIn 0 = .ok (.iconst 0, 1) := by decide +kernel
theorem d_M_timesIn_1 : decode b_M_timesIn 1 = .ok (.istore_n 3, 1) := by decide +kernel
theorem d_M_timesIn_2 : decode b_M_timesIn 2 = .ok (.iconst 0, 1) := by decide +kernel
theorem d_M_timesIn_3 : decode b_M_timesIn 3 = .ok (.istore 4, 2) := by decide +kernel
theorem d_M_timesIn_5 : decode b_M_timesIn 5 = .ok (.iload 4, 2) := by decide +kernel
theorem d_M_timesIn_7 : decode b_M_timesIn 7 = .ok (.aload_n 0, 1) := by decide +kernel
theorem d_M_timesIn_8 : decode b_M_timesIn 8 = .ok (.getfield 106, 3) := by decide +kernel
theorem d_M_timesIn_11 : decode b_M_timesIn 11 = .ok (.if_icmp .ge 47, 3) := by decide +kernel
theorem d_M_timesIn_14 : decode b_M_timesIn 14 = .ok (.iload_n 1, 1) := by decide +kernel
theorem d_M_timesIn_15 : decode b_M_timesIn 15 = .ok (.iconst 1, 1) := by decide +kernel
theorem d_M_timesIn_16 : decode b_M_timesIn 16 = .ok (.isub, 1) := by decide +kernel
theorem d_M_timesIn_17 : decode b_M_timesIn 17 = .ok (.istore 5, 2) := by decide +kernel
theorem d_M_timesIn_19 : decode b_M_timesIn 19 = .ok (.iload 5, 2) := by decide +kernel
theorem d_M_timesIn_21 : decode b_M_timesIn 21 = .ok (.iload_n 2, 1) := by decide +kernel
theorem d_M_timesIn_22 : decode b_M_timesIn 22 = .ok (.if_icmp .gt 30, 3) := by decide +kernel
theorem d_M_timesIn_25 : decode b_M_timesIn 25 = .ok (.aload_n 0, 1) := by decide +kernel
theorem d_M_timesIn_26 : decode b_M_timesIn 26 = .ok (.iload 4, 2) := by decide +kernel
theorem d_M_timesIn_28 : decode b_M_timesIn 28 = .ok (.iload 5, 2) := by decide +kernel
theorem d_M_timesIn_30 : decode b_M_timesIn 30 = .ok (.iload_n 1, 1) := by decide +kernel
theorem d_M_timesIn_31 : decode b_M_timesIn 31 = .ok (.iload_n 2, 1) := by decide +kernel
theorem d_M_timesIn_32 : decode b_M_timesIn 32 = .ok (.invokevirtual 148, 3) := by decide +kernel
theorem d_M_timesIn_35 : decode b_M_timesIn 35 = .ok (.ifCond .eq 9, 3) := by decide +kernel
theorem d_M_timesIn_38 : decode b_M_timesIn 38 = .ok (.iload_n 3, 1) := by decide +kernel
theorem d_M_timesIn_39 : decode b_M_timesIn 39 = .ok (.iconst 1, 1) := by decide +kernel
theorem d_M_timesIn_40 : decode b_M_timesIn 40 = .ok (.iadd, 1) := by decide +kernel
theorem d_M_timesIn_41 : decode b_M_timesIn 41 = .ok (.goto 4, 3) := by decide +kernel
theorem d_M_timesIn_44 : decode b_M_timesIn 44 = .ok (.iload_n 3, 1) := by decide +kernel
theorem d_M_timesIn_45 : decode b_M_timesIn 45 = .ok (.istore_n 3, 1) := by decide +kernel
theorem d_M_timesIn_46 : decode b_M_timesIn 46 = .ok (.iinc 5 1, 3) := by decide +kernel
theorem d_M_timesIn_49 : decode b_M_timesIn 49 = .ok (.goto (-30), 3) := by decide +kernel
theorem d_M_timesIn_52 : decode b_M_timesIn 52 = .ok (.iinc 4 1, 3) := by decide +kernel
theorem d_M_timesIn_55 : decode b_M_timesIn 55 = .ok (.goto (-50), 3) := by decide +kernel
theorem d_M_timesIn_58 : decode b_M_timesIn 58 = .ok (.iload_n 3, 1) := by decide +kernel
theorem d_M_timesIn_59 : decode b_M_timesIn 59 = .ok (.ireturn, 1) := by decide +kernel
def lay_M_timesIn (pc : Nat) : List Nat := if pc = 0 then [0, 1, 2] else if pc = 5 then [0, 1, 2, 3, 4] else if pc = 19 then [0, 1, 2, 3, 4, 5] else if pc = 45 then [0, 1, 2, 4, 5] else []
noncomputable def sg_M_timesIn_0 (v0 : Nat) (v1 : Int32) (v2 : Int32) (w : hy_W) : Option hy_N := some (.inl (5, [.ref v0, .int v1, .int v2, .int 0, .int 0], w))
noncomputable def sg_M_timesIn_5 (v0 : Nat) (v1 : Int32) (v2 : Int32) (v3 : Int32) (v4 : Int32) (w : hy_W) : Option hy_N := (hy_gi w v0 6 14).bind fun x1 => if x1 ≤ v4 then (some (.inr (.inl (some (.int v3)), w))) else (some (.inl (19, [.ref v0, .int v1, .int v2, .int v3, .int v4, .int (v1 - 1)], w)))
noncomputable def sg_M_timesIn_19 (v0 : Nat) (v1 : Int32) (v2 : Int32) (v3 : Int32) (v4 : Int32) (v5 : Int32) (w : hy_W) : Option hy_N := if v2 < v5 then (some (.inl (5, [.ref v0, .int v1, .int v2, .int v3, .int (v4 + 1)], w))) else (if hy_ob w v0 6 = true then hy_bi (f_M_isAt [.ref v0, .int v4, .int v5, .int v1, .int v2] w) fun x4 w2 => if x4 = 0 then (some (.inl (45, [.ref v0, .int v1, .int v2, .int v4, .int v5, .int v3], w2))) else (some (.inl (45, [.ref v0, .int v1, .int v2, .int v4, .int v5, .int (v3 + 1)], w2))) else none)
noncomputable def sg_M_timesIn_45 (v0 : Nat) (v1 : Int32) (v2 : Int32) (v4 : Int32) (v5 : Int32) (s0 : Int32) (w : hy_W) : Option hy_N := some (.inl (19, [.ref v0, .int v1, .int v2, .int s0, .int v4, .int (v5 + 1)], w))
noncomputable def nx_M_timesIn (q : hy_P) : Option hy_N := match q with
  | (0, [.ref v0, .int v1, .int v2], w) => sg_M_timesIn_0 v0 v1 v2 w
  | (5, [.ref v0, .int v1, .int v2, .int v3, .int v4], w) => sg_M_timesIn_5 v0 v1 v2 v3 v4 w
  | (19, [.ref v0, .int v1, .int v2, .int v3, .int v4, .int v5], w) => sg_M_timesIn_19 v0 v1 v2 v3 v4 v5 w
  | (45, [.ref v0, .int v1, .int v2, .int v4, .int v5, .int s0], w) => sg_M_timesIn_45 v0 v1 v2 v4 v5 s0 w
  | _ => none
noncomputable def f_M_timesIn (av : List Value) (w : hy_W) : Option hy_O := hy_fx nx_M_timesIn (0, av, w)
set_option maxHeartbeats 4000000 in
set_option maxRecDepth 100000 in
theorem sk_M_timesIn_0 {p : Program} {l : Launch} {e : Env} {s : State} {m : MethodId} {args : Array Value} {below : List Frame} {meth : Method} {c : Code} {G : hy_G} {A : Nat → Prop} {ad0 : Nat → Nat} {w0 : hy_W} {o : hy_O} (hl9 : l.flags = flags0) (hA : hy_A G ad0 w0 s.heap.size = A) (B : hy_B p l e (hy_rm 3 73 w0) s m args below meth c "HyphenPatternsModel" b_M_timesIn 6 (some .int) [] G A) (v0 : Nat) (v1 : Int32) (v2 : Int32) (w : hy_W) (nx : hy_N) (h : sg_M_timesIn_0 v0 v1 v2 w = some nx) (K : hy_Nx lay_M_timesIn p l e (hy_rm 3 73 w0) s m args below meth c 6 G A ad0 w0.1.length (hy_Q below G ad0 w0 o args s) o nx) : hy_At lay_M_timesIn p l e (hy_rm 3 73 w0) s m args below meth c 6 G A ad0 w0.1.length (hy_Q below G ad0 w0 o args s) (0, [.ref v0, .int v1, .int v2], w) := by
  intro ad H locs cells slots ls S hok hl
  have hx := B.1
  have hb := B.2.1
  dsimp only at S hok
  have hl : lv_has ls 6 [(0, .ref (ad v0)), (1, .int v1), (2, .int v2)] := hl
  show W p l e (hy_rm 3 73 w0) s m args below meth c H locs cells slots (hy_Q below G ad0 w0 o args s) (F0 m 0 ls [])
  have hv_v0 : v0 < w.1.length := hok (.ref v0) (List.mem_of_getElem? (i := 0) rfl) v0 rfl
  obtain ⟨a_v0, ha_v0⟩ : ∃ a, ad v0 = a := ⟨_, rfl⟩
  rw [ha_v0] at hl
  unfold sg_M_timesIn_0 at h
  refine lv_iconst (v := 0) hx hb d_M_timesIn_0 (by decide) ?_
  refine lv_istore_n (lv' := [(3, .int 0), (0, .ref a_v0), (1, .int v1), (2, .int v2)]) hx hb d_M_timesIn_1 rfl hl (Nat.le_of_ble_eq_true rfl) rfl (fun ls hl => ?_)
  refine lv_iconst (v := 0) hx hb d_M_timesIn_2 (by decide) ?_
  refine lv_istore (lv' := [(4, .int 0), (3, .int 0), (0, .ref a_v0), (1, .int v1), (2, .int v2)]) hx hb d_M_timesIn_3 hl (Nat.le_of_ble_eq_true rfl) rfl (fun ls hl => ?_)
  cases h
  exact hy_jump K S (hy_okr (by omega) (hy_oki (hy_oki (hy_oki (hy_oki hy_ok0))))) (lv_sub hl [2, 3, 4, 1, 0] rfl) (by subst ha_v0; rfl) (by subst ha_v0; rfl)
set_option maxHeartbeats 4000000 in
set_option maxRecDepth 100000 in
theorem sk_M_timesIn_5 {p : Program} {l : Launch} {e : Env} {s : State} {m : MethodId} {args : Array Value} {below : List Frame} {meth : Method} {c : Code} {G : hy_G} {A : Nat → Prop} {ad0 : Nat → Nat} {w0 : hy_W} {o : hy_O} (hl9 : l.flags = flags0) (hA : hy_A G ad0 w0 s.heap.size = A) (B : hy_B p l e (hy_rm 3 73 w0) s m args below meth c "HyphenPatternsModel" b_M_timesIn 6 (some .int) [] G A) (v0 : Nat) (v1 : Int32) (v2 : Int32) (v3 : Int32) (v4 : Int32) (w : hy_W) (nx : hy_N) (h : sg_M_timesIn_5 v0 v1 v2 v3 v4 w = some nx) (K : hy_Nx lay_M_timesIn p l e (hy_rm 3 73 w0) s m args below meth c 6 G A ad0 w0.1.length (hy_Q below G ad0 w0 o args s) o nx) : hy_At lay_M_timesIn p l e (hy_rm 3 73 w0) s m args below meth c 6 G A ad0 w0.1.length (hy_Q below G ad0 w0 o args s) (5, [.ref v0, .int v1, .int v2, .int v3, .int v4], w) := by
  intro ad H locs cells slots ls S hok hl
  have hx := B.1
  have hb := B.2.1
  dsimp only at S hok
  have hl : lv_has ls 6 [(0, .ref (ad v0)), (1, .int v1), (2, .int v2), (3, .int v3), (4, .int v4)] := hl
  show W p l e (hy_rm 3 73 w0) s m args below meth c H locs cells slots (hy_Q below G ad0 w0 o args s) (F0 m 5 ls [])
  have hv_v0 : v0 < w.1.length := hok (.ref v0) (List.mem_of_getElem? (i := 0) rfl) v0 rfl
  obtain ⟨a_v0, ha_v0⟩ : ∃ a, ad v0 = a := ⟨_, rfl⟩
  rw [ha_v0] at hl
  unfold sg_M_timesIn_5 at h
  refine lv_iload hx hb d_M_timesIn_5 (lv_at hl 4 rfl) ?_
  refine lv_aload_n hx hb d_M_timesIn_7 rfl (lv_at hl 0 rfl) ?_
  obtain ⟨x1, hx1, h⟩ := hy_bd h
  refine hy_geti B S ha_v0 hx1 rfl (Nat.le_of_ble_eq_true rfl) i_6 (j := 14) tw_664 (fun _ h => h) d_M_timesIn_8 ?_
  refine lv_icmp_ge (tgt := 58) hx hb d_M_timesIn_11 (by decide) (fun c2 => ?_) (fun c2 => ?_)
  · rw [if_pos c2] at h
    refine lv_iload_n hx hb d_M_timesIn_58 rfl (lv_at hl 3 rfl) ?_
    cases h
    cases K
    exact hy_iret hA B S d_M_timesIn_59
  · rw [if_neg c2] at h
    refine lv_iload_n hx hb d_M_timesIn_14 rfl (lv_at hl 1 rfl) ?_
    refine lv_iconst (v := 1) hx hb d_M_timesIn_15 (by decide) ?_
    refine lv_isub hx hb d_M_timesIn_16 ?_
    refine lv_istore (lv' := [(5, .int (v1 - 1)), (0, .ref a_v0), (1, .int v1), (2, .int v2), (3, .int v3), (4, .int v4)]) hx hb d_M_timesIn_17 hl (Nat.le_of_ble_eq_true rfl) rfl (fun ls hl => ?_)
    cases h
    exact hy_jump K S (hy_okr (by omega) (hy_oki (hy_oki (hy_oki (hy_oki (hy_oki hy_ok0)))))) (lv_sub hl [1, 2, 3, 4, 5, 0] rfl) (by subst ha_v0; rfl) (by subst ha_v0; rfl)
set_option maxHeartbeats 4000000 in
set_option maxRecDepth 100000 in
theorem sk_M_timesIn_19 {p : Program} {l : Launch} {e : Env} {s : State} {m : MethodId} {args : Array Value} {below : List Frame} {meth : Method} {c : Code} {G : hy_G} {A : Nat → Prop} {ad0 : Nat → Nat} {w0 : hy_W} {o : hy_O} (hl9 : l.flags = flags0) (hA : hy_A G ad0 w0 s.heap.size = A) (B : hy_B p l e (hy_rm 3 73 w0) s m args below meth c "HyphenPatternsModel" b_M_timesIn 6 (some .int) [] G A) (v0 : Nat) (v1 : Int32) (v2 : Int32) (v3 : Int32) (v4 : Int32) (v5 : Int32) (w : hy_W) (nx : hy_N) (h : sg_M_timesIn_19 v0 v1 v2 v3 v4 v5 w = some nx) (K : hy_Nx lay_M_timesIn p l e (hy_rm 3 73 w0) s m args below meth c 6 G A ad0 w0.1.length (hy_Q below G ad0 w0 o args s) o nx) : hy_At lay_M_timesIn p l e (hy_rm 3 73 w0) s m args below meth c 6 G A ad0 w0.1.length (hy_Q below G ad0 w0 o args s) (19, [.ref v0, .int v1, .int v2, .int v3, .int v4, .int v5], w) := by
  intro ad H locs cells slots ls S hok hl
  have hx := B.1
  have hb := B.2.1
  dsimp only at S hok
  have hl : lv_has ls 6 [(0, .ref (ad v0)), (1, .int v1), (2, .int v2), (3, .int v3), (4, .int v4), (5, .int v5)] := hl
  show W p l e (hy_rm 3 73 w0) s m args below meth c H locs cells slots (hy_Q below G ad0 w0 o args s) (F0 m 19 ls [])
  have hv_v0 : v0 < w.1.length := hok (.ref v0) (List.mem_of_getElem? (i := 0) rfl) v0 rfl
  obtain ⟨a_v0, ha_v0⟩ : ∃ a, ad v0 = a := ⟨_, rfl⟩
  rw [ha_v0] at hl
  unfold sg_M_timesIn_19 at h
  refine lv_iload hx hb d_M_timesIn_19 (lv_at hl 5 rfl) ?_
  refine lv_iload_n hx hb d_M_timesIn_21 rfl (lv_at hl 2 rfl) ?_
  refine lv_icmp_gt (tgt := 52) hx hb d_M_timesIn_22 (by decide) (fun c1 => ?_) (fun c1 => ?_)
  · rw [if_pos c1] at h
    refine lv_iinc (v := (v4 + 1)) (lv' := [(4, .int (v4 + 1)), (0, .ref a_v0), (1, .int v1), (2, .int v2), (3, .int v3), (5, .int v5)]) hx hb d_M_timesIn_52 hl (k := 4) rfl rfl (Nat.le_of_ble_eq_true rfl) rfl (fun ls hl => ?_)
    refine lv_goto (tgt := 5) hx hb d_M_timesIn_55 (by decide) ?_
    cases h
    exact hy_jump K S (hy_okr (by omega) (hy_oki (hy_oki (hy_oki (hy_oki hy_ok0))))) (lv_sub hl [1, 2, 3, 4, 0] rfl) (by subst ha_v0; rfl) (by subst ha_v0; rfl)
  · rw [if_neg c1] at h
    refine lv_aload_n hx hb d_M_timesIn_25 rfl (lv_at hl 0 rfl) ?_
    refine lv_iload hx hb d_M_timesIn_26 (lv_at hl 4 rfl) ?_
    refine lv_iload hx hb d_M_timesIn_28 (lv_at hl 5 rfl) ?_
    refine lv_iload_n hx hb d_M_timesIn_30 rfl (lv_at hl 1 rfl) ?_
    refine lv_iload_n hx hb d_M_timesIn_31 rfl (lv_at hl 2 rfl) ?_
    obtain ⟨ob5, h⟩ := hy_if h
    obtain ⟨fs_ob5, hf_ob5, hg_ob5⟩ := hy_ob_spec ob5
    obtain ⟨x4, w2, hq_w2, h⟩ := hy_bi_spec h
    refine hy_calli (hy_runV (rest := []) (As := [.int v4, .int v5, .int v1, .int v2]) (r := v0) (b := a_v0) B S rfl ha_v0 (by rfl) (c_M_isAt hl9 G ad hq_w2) (hy_okr (by omega) (hy_oki (hy_oki (hy_oki (hy_oki hy_ok0))))) tw_869 tw_9 tw_866 tw_868 sl_M_isAt (by decide) rfl (Nat.le_of_ble_eq_true rfl) (Nat.le_of_ble_eq_true rfl) hf_ob5 hg_ob5 rfl hl.1 (Nat.le_of_ble_eq_true rfl) d_M_timesIn_32) (fun ad3 H locs cells slots hag hl_w2 S => ?_)
    have ha_v0 : ad3 v0 = a_v0 := (hag v0 (by omega)).trans ha_v0
    refine lv_if_eq (tgt := 44) hx hb d_M_timesIn_35 (by decide) (fun c6 => ?_) (fun c6 => ?_)
    · rw [if_pos c6] at h
      refine lv_iload_n hx hb d_M_timesIn_44 rfl (lv_at hl 3 rfl) ?_
      cases h
      exact hy_jump K S (hy_okr (by omega) (hy_oki (hy_oki (hy_oki (hy_oki (hy_oki hy_ok0)))))) (lv_sub hl [0, 1, 2, 4, 5] rfl) (by subst ha_v0; rfl) (by subst ha_v0; rfl)
    · rw [if_neg c6] at h
      refine lv_iload_n hx hb d_M_timesIn_38 rfl (lv_at hl 3 rfl) ?_
      refine lv_iconst (v := 1) hx hb d_M_timesIn_39 (by decide) ?_
      refine lv_iadd hx hb d_M_timesIn_40 ?_
      refine lv_goto (tgt := 45) hx hb d_M_timesIn_41 (by decide) ?_
      cases h
      exact hy_jump K S (hy_okr (by omega) (hy_oki (hy_oki (hy_oki (hy_oki (hy_oki hy_ok0)))))) (lv_sub hl [0, 1, 2, 4, 5] rfl) (by subst ha_v0; rfl) (by subst ha_v0; rfl)
set_option maxHeartbeats 4000000 in
set_option maxRecDepth 100000 in
theorem sk_M_timesIn_45 {p : Program} {l : Launch} {e : Env} {s : State} {m : MethodId} {args : Array Value} {below : List Frame} {meth : Method} {c : Code} {G : hy_G} {A : Nat → Prop} {ad0 : Nat → Nat} {w0 : hy_W} {o : hy_O} (hl9 : l.flags = flags0) (hA : hy_A G ad0 w0 s.heap.size = A) (B : hy_B p l e (hy_rm 3 73 w0) s m args below meth c "HyphenPatternsModel" b_M_timesIn 6 (some .int) [] G A) (v0 : Nat) (v1 : Int32) (v2 : Int32) (v4 : Int32) (v5 : Int32) (s0 : Int32) (w : hy_W) (nx : hy_N) (h : sg_M_timesIn_45 v0 v1 v2 v4 v5 s0 w = some nx) (K : hy_Nx lay_M_timesIn p l e (hy_rm 3 73 w0) s m args below meth c 6 G A ad0 w0.1.length (hy_Q below G ad0 w0 o args s) o nx) : hy_At lay_M_timesIn p l e (hy_rm 3 73 w0) s m args below meth c 6 G A ad0 w0.1.length (hy_Q below G ad0 w0 o args s) (45, [.ref v0, .int v1, .int v2, .int v4, .int v5, .int s0], w) := by
  intro ad H locs cells slots ls S hok hl
  have hx := B.1
  have hb := B.2.1
  dsimp only at S hok
  have hl : lv_has ls 6 [(0, .ref (ad v0)), (1, .int v1), (2, .int v2), (4, .int v4), (5, .int v5)] := hl
  show W p l e (hy_rm 3 73 w0) s m args below meth c H locs cells slots (hy_Q below G ad0 w0 o args s) (F0 m 45 ls [.int s0])
  have hv_v0 : v0 < w.1.length := hok (.ref v0) (List.mem_of_getElem? (i := 0) rfl) v0 rfl
  obtain ⟨a_v0, ha_v0⟩ : ∃ a, ad v0 = a := ⟨_, rfl⟩
  rw [ha_v0] at hl
  unfold sg_M_timesIn_45 at h
  refine lv_istore_n (lv' := [(3, .int s0), (0, .ref a_v0), (1, .int v1), (2, .int v2), (4, .int v4), (5, .int v5)]) hx hb d_M_timesIn_45 rfl hl (Nat.le_of_ble_eq_true rfl) rfl (fun ls hl => ?_)
  refine lv_iinc (v := (v5 + 1)) (lv' := [(5, .int (v5 + 1)), (3, .int s0), (0, .ref a_v0), (1, .int v1), (2, .int v2), (4, .int v4)]) hx hb d_M_timesIn_46 hl (k := 5) rfl rfl (Nat.le_of_ble_eq_true rfl) rfl (fun ls hl => ?_)
  refine lv_goto (tgt := 19) hx hb d_M_timesIn_49 (by decide) ?_
  cases h
  exact hy_jump K S (hy_okr (by omega) (hy_oki (hy_oki (hy_oki (hy_oki (hy_oki hy_ok0)))))) (lv_sub hl [2, 3, 4, 1, 5, 0] rfl) (by subst ha_v0; rfl) (by subst ha_v0; rfl)
theorem nk_M_timesIn {p : Program} {l : Launch} {e : Env} {s : State} {m : MethodId} {args : Array Value} {below : List Frame} {meth : Method} {c : Code} {G : hy_G} {A : Nat → Prop} {ad0 : Nat → Nat} {w0 : hy_W} {o : hy_O} (hl9 : l.flags = flags0) (hA : hy_A G ad0 w0 s.heap.size = A) (B : hy_B p l e (hy_rm 3 73 w0) s m args below meth c "HyphenPatternsModel" b_M_timesIn 6 (some .int) [] G A) (q : hy_P) (nx : hy_N) (hq : nx_M_timesIn q = some nx) (K : hy_Nx lay_M_timesIn p l e (hy_rm 3 73 w0) s m args below meth c 6 G A ad0 w0.1.length (hy_Q below G ad0 w0 o args s) o nx) : hy_At lay_M_timesIn p l e (hy_rm 3 73 w0) s m args below meth c 6 G A ad0 w0.1.length (hy_Q below G ad0 w0 o args s) q := by
  unfold nx_M_timesIn at hq
  split at hq
  · exact sk_M_timesIn_0 hl9 hA B _ _ _ _ nx hq K
  · exact sk_M_timesIn_5 hl9 hA B _ _ _ _ _ _ nx hq K
  · exact sk_M_timesIn_19 hl9 hA B _ _ _ _ _ _ _ nx hq K
  · exact sk_M_timesIn_45 hl9 hA B _ _ _ _ _ _ _ nx hq K
  · cases hq
theorem c_M_timesIn {l : Launch} (hl9 : l.flags = flags0) (G : hy_G) (ad : Nat → Nat) {v0 : Nat} {v1 : Int32} {v2 : Int32} {w : hy_W} {o : hy_O} (h : f_M_timesIn [.ref v0, .int v1, .int v2] w = some o) : hy_M l y_M_timesIn (Cond.code y_M_timesIn b_M_timesIn 6 (some .int) :: hy_T) 3 73 G ad [.ref v0, .int v1, .int v2] w o := by
  obtain ⟨n, hn⟩ := hy_fx_iff.mp h
  refine hy_ofW hl9 (by decide +kernel) (Nat.le_of_ble_eq_true rfl) (fun p e s m args below meth c A hA hi B S hok ls hl => ?_)
  exact hy_loop (nk_M_timesIn hl9 hA B) n _ hn ad s.heap [] 0 0 ls S hok hl
theorem d_M_times_0 : decode b_M_times 0 = .ok (.iconst 0, 1) := by decide +kernel
theorem d_M_times_1 : decode b_M_times 1 = .ok (.istore_n 1, 1) := by decide +kernel
theorem d_M_times_2 : decode b_M_times 2 = .ok (.iconst 0, 1) := by decide +kernel
theorem d_M_times_3 : decode b_M_times 3 = .ok (.istore_n 2, 1) := by decide +kernel
theorem d_M_times_4 : decode b_M_times 4 = .ok (.iload_n 2, 1) := by decide +kernel
theorem d_M_times_5 : decode b_M_times 5 = .ok (.aload_n 0, 1) := by decide +kernel
theorem d_M_times_6 : decode b_M_times 6 = .ok (.getfield 131, 3) := by decide +kernel
theorem d_M_times_9 : decode b_M_times 9 = .ok (.if_icmp .ge 53, 3) := by decide +kernel
theorem d_M_times_12 : decode b_M_times 12 = .ok (.aload_n 0, 1) := by decide +kernel
theorem d_M_times_13 : decode b_M_times 13 = .ok (.iload_n 2, 1) := by decide +kernel
theorem d_M_times_14 : decode b_M_times 14 = .ok (.invokevirtual 138, 3) := by decide +kernel
theorem d_M_times_17 : decode b_M_times 17 = .ok (.ifCond .eq 39, 3) := by decide +kernel
theorem d_M_times_20 : decode b_M_times 20 = .ok (.aload_n 0, 1) := by decide +kernel
theorem d_M_times_21 : decode b_M_times 21 = .ok (.iload_n 2, 1) := by decide +kernel
theorem d_M_times_22 : decode b_M_times 22 = .ok (.iconst 1, 1) := by decide +kernel
theorem d_M_times_23 : decode b_M_times 23 = .ok (.isub, 1) := by decide +kernel
theorem d_M_times_24 : decode b_M_times 24 = .ok (.invokevirtual 138, 3) := by decide +kernel
theorem d_M_times_27 : decode b_M_times 27 = .ok (.ifCond .ne 29, 3) := by decide +kernel
theorem d_M_times_30 : decode b_M_times 30 = .ok (.aload_n 0, 1) := by decide +kernel
theorem d_M_times_31 : decode b_M_times 31 = .ok (.iload_n 2, 1) := by decide +kernel
theorem d_M_times_32 : decode b_M_times 32 = .ok (.aload_n 0, 1) := by decide +kernel
theorem d_M_times_33 : decode b_M_times 33 = .ok (.iload_n 2, 1) := by decide +kernel
theorem d_M_times_34 : decode b_M_times 34 = .ok (.invokevirtual 158, 3) := by decide +kernel
theorem d_M_times_37 : decode b_M_times 37 = .ok (.invokevirtual 144, 3) := by decide +kernel
theorem d_M_times_40 : decode b_M_times 40 = .ok (.ifCond .ge 16, 3) := by decide +kernel
theorem d_M_times_43 : decode b_M_times 43 = .ok (.iload_n 1, 1) := by decide +kernel
theorem d_M_times_44 : decode b_M_times 44 = .ok (.aload_n 0, 1) := by decide +kernel
theorem d_M_times_45 : decode b_M_times 45 = .ok (.iload_n 2, 1) := by decide +kernel
theorem d_M_times_46 : decode b_M_times 46 = .ok (.aload_n 0, 1) := by decide +kernel
theorem d_M_times_47 : decode b_M_times 47 = .ok (.iload_n 2, 1) := by decide +kernel
theorem d_M_times_48 : decode b_M_times 48 = .ok (.invokevirtual 158, 3) := by decide +kernel
theorem d_M_times_51 : decode b_M_times 51 = .ok (.invokevirtual 174, 3) := by decide +kernel
theorem d_M_times_54 : decode b_M_times 54 = .ok (.iadd, 1) := by decide +kernel
theorem d_M_times_55 : decode b_M_times 55 = .ok (.istore_n 1, 1) := by decide +kernel
theorem d_M_times_56 : decode b_M_times 56 = .ok (.iinc 2 1, 3) := by decide +kernel
theorem d_M_times_59 : decode b_M_times 59 = .ok (.goto (-55), 3) := by decide +kernel
theorem d_M_times_62 : decode b_M_times 62 = .ok (.iload_n 1, 1) := by decide +kernel
theorem d_M_times_63 : decode b_M_times 63 = .ok (.ireturn, 1) := by decide +kernel
def lay_M_times (pc : Nat) : List Nat := if pc = 0 then [0] else if pc = 4 then [0, 1, 2] else if pc = 56 then [0, 1, 2] else []
noncomputable def sg_M_times_0 (v0 : Nat) (w : hy_W) : Option hy_N := some (.inl (4, [.ref v0, .int 0, .int 0], w))
noncomputable def sg_M_times_4 (v0 : Nat) (v1 : Int32) (v2 : Int32) (w : hy_W) : Option hy_N := (hy_gi w v0 6 24).bind fun x1 => if x1 ≤ v2 then (some (.inr (.inl (some (.int v1)), w))) else (if hy_ob w v0 6 = true then hy_bi (f_M_isLetter [.ref v0, .int v2] w) fun x5 w3 => if x5 = 0 then (some (.inl (56, [.ref v0, .int v1, .int v2], w3))) else (if hy_ob w3 v0 6 = true then hy_bi (f_M_isLetter [.ref v0, .int (v2 - 1)] w3) fun x10 w8 => if x10 = 0 then (if hy_ob w8 v0 6 = true then hy_bi (f_M_end [.ref v0, .int v2] w8) fun x15 w13 => if hy_ob w13 v0 6 = true then hy_bi (f_M_exceptionFor [.ref v0, .int v2, .int x15] w13) fun x19 w17 => if (0 : Int32) ≤ x19 then (some (.inl (56, [.ref v0, .int v1, .int v2], w17))) else (if hy_ob w17 v0 6 = true then hy_bi (f_M_end [.ref v0, .int v2] w17) fun x24 w22 => if hy_ob w22 v0 6 = true then hy_bi (f_M_timesIn [.ref v0, .int v2, .int x24] w22) fun x28 w26 => some (.inl (56, [.ref v0, .int (v1 + x28), .int v2], w26)) else none else none) else none else none) else (some (.inl (56, [.ref v0, .int v1, .int v2], w8))) else none) else none)
noncomputable def sg_M_times_56 (v0 : Nat) (v1 : Int32) (v2 : Int32) (w : hy_W) : Option hy_N := some (.inl (4, [.ref v0, .int v1, .int (v2 + 1)], w))
noncomputable def nx_M_times (q : hy_P) : Option hy_N := match q with
  | (0, [.ref v0], w) => sg_M_times_0 v0 w
  | (4, [.ref v0, .int v1, .int v2], w) => sg_M_times_4 v0 v1 v2 w
  | (56, [.ref v0, .int v1, .int v2], w) => sg_M_times_56 v0 v1 v2 w
  | _ => none
noncomputable def f_M_times (av : List Value) (w : hy_W) : Option hy_O := hy_fx nx_M_times (0, av, w)
set_option maxHeartbeats 4000000 in
set_option maxRecDepth 100000 in
theorem sk_M_times_0 {p : Program} {l : Launch} {e : Env} {s : State} {m : MethodId} {args : Array Value} {below : List Frame} {meth : Method} {c : Code} {G : hy_G} {A : Nat → Prop} {ad0 : Nat → Nat} {w0 : hy_W} {o : hy_O} (hl9 : l.flags = flags0) (hA : hy_A G ad0 w0 s.heap.size = A) (B : hy_B p l e (hy_rm 4 98 w0) s m args below meth c "HyphenPatternsModel" b_M_times 3 (some .int) [] G A) (v0 : Nat) (w : hy_W) (nx : hy_N) (h : sg_M_times_0 v0 w = some nx) (K : hy_Nx lay_M_times p l e (hy_rm 4 98 w0) s m args below meth c 3 G A ad0 w0.1.length (hy_Q below G ad0 w0 o args s) o nx) : hy_At lay_M_times p l e (hy_rm 4 98 w0) s m args below meth c 3 G A ad0 w0.1.length (hy_Q below G ad0 w0 o args s) (0, [.ref v0], w) := by
  intro ad H locs cells slots ls S hok hl
  have hx := B.1
  have hb := B.2.1
  dsimp only at S hok
  have hl : lv_has ls 3 [(0, .ref (ad v0))] := hl
  show W p l e (hy_rm 4 98 w0) s m args below meth c H locs cells slots (hy_Q below G ad0 w0 o args s) (F0 m 0 ls [])
  have hv_v0 : v0 < w.1.length := hok (.ref v0) (List.mem_of_getElem? (i := 0) rfl) v0 rfl
  obtain ⟨a_v0, ha_v0⟩ : ∃ a, ad v0 = a := ⟨_, rfl⟩
  rw [ha_v0] at hl
  unfold sg_M_times_0 at h
  refine lv_iconst (v := 0) hx hb d_M_times_0 (by decide) ?_
  refine lv_istore_n (lv' := [(1, .int 0), (0, .ref a_v0)]) hx hb d_M_times_1 rfl hl (Nat.le_of_ble_eq_true rfl) rfl (fun ls hl => ?_)
  refine lv_iconst (v := 0) hx hb d_M_times_2 (by decide) ?_
  refine lv_istore_n (lv' := [(2, .int 0), (1, .int 0), (0, .ref a_v0)]) hx hb d_M_times_3 rfl hl (Nat.le_of_ble_eq_true rfl) rfl (fun ls hl => ?_)
  cases h
  exact hy_jump K S (hy_okr (by omega) (hy_oki (hy_oki hy_ok0))) (lv_sub hl [2, 1, 0] rfl) (by subst ha_v0; rfl) (by subst ha_v0; rfl)
set_option maxHeartbeats 4000000 in
set_option maxRecDepth 100000 in
theorem sk_M_times_4 {p : Program} {l : Launch} {e : Env} {s : State} {m : MethodId} {args : Array Value} {below : List Frame} {meth : Method} {c : Code} {G : hy_G} {A : Nat → Prop} {ad0 : Nat → Nat} {w0 : hy_W} {o : hy_O} (hl9 : l.flags = flags0) (hA : hy_A G ad0 w0 s.heap.size = A) (B : hy_B p l e (hy_rm 4 98 w0) s m args below meth c "HyphenPatternsModel" b_M_times 3 (some .int) [] G A) (v0 : Nat) (v1 : Int32) (v2 : Int32) (w : hy_W) (nx : hy_N) (h : sg_M_times_4 v0 v1 v2 w = some nx) (K : hy_Nx lay_M_times p l e (hy_rm 4 98 w0) s m args below meth c 3 G A ad0 w0.1.length (hy_Q below G ad0 w0 o args s) o nx) : hy_At lay_M_times p l e (hy_rm 4 98 w0) s m args below meth c 3 G A ad0 w0.1.length (hy_Q below G ad0 w0 o args s) (4, [.ref v0, .int v1, .int v2], w) := by
  intro ad H locs cells slots ls S hok hl
  have hx := B.1
  have hb := B.2.1
  dsimp only at S hok
  have hl : lv_has ls 3 [(0, .ref (ad v0)), (1, .int v1), (2, .int v2)] := hl
  show W p l e (hy_rm 4 98 w0) s m args below meth c H locs cells slots (hy_Q below G ad0 w0 o args s) (F0 m 4 ls [])
  have hv_v0 : v0 < w.1.length := hok (.ref v0) (List.mem_of_getElem? (i := 0) rfl) v0 rfl
  obtain ⟨a_v0, ha_v0⟩ : ∃ a, ad v0 = a := ⟨_, rfl⟩
  rw [ha_v0] at hl
  unfold sg_M_times_4 at h
  refine lv_iload_n hx hb d_M_times_4 rfl (lv_at hl 2 rfl) ?_
  refine lv_aload_n hx hb d_M_times_5 rfl (lv_at hl 0 rfl) ?_
  obtain ⟨x1, hx1, h⟩ := hy_bd h
  refine hy_geti B S ha_v0 hx1 rfl (Nat.le_of_ble_eq_true rfl) i_6 (j := 24) tw_674 (fun _ h => h) d_M_times_6 ?_
  refine lv_icmp_ge (tgt := 62) hx hb d_M_times_9 (by decide) (fun c2 => ?_) (fun c2 => ?_)
  · rw [if_pos c2] at h
    refine lv_iload_n hx hb d_M_times_62 rfl (lv_at hl 1 rfl) ?_
    cases h
    cases K
    exact hy_iret hA B S d_M_times_63
  · rw [if_neg c2] at h
    refine lv_aload_n hx hb d_M_times_12 rfl (lv_at hl 0 rfl) ?_
    refine lv_iload_n hx hb d_M_times_13 rfl (lv_at hl 2 rfl) ?_
    obtain ⟨ob6, h⟩ := hy_if h
    obtain ⟨fs_ob6, hf_ob6, hg_ob6⟩ := hy_ob_spec ob6
    obtain ⟨x5, w3, hq_w3, h⟩ := hy_bi_spec h
    refine hy_calli (hy_runV (rest := []) (As := [.int v2]) (r := v0) (b := a_v0) B S rfl ha_v0 (by rfl) (c_M_isLetter hl9 G ad hq_w3) (hy_okr (by omega) (hy_oki hy_ok0)) tw_841 tw_9 tw_838 tw_840 sl_M_isLetter (by decide) rfl (Nat.le_of_ble_eq_true rfl) (Nat.le_of_ble_eq_true rfl) hf_ob6 hg_ob6 rfl hl.1 (Nat.le_of_ble_eq_true rfl) d_M_times_14) (fun ad4 H locs cells slots hag hl_w3 S => ?_)
    have ha_v0 : ad4 v0 = a_v0 := (hag v0 (by omega)).trans ha_v0
    refine lv_if_eq (tgt := 56) hx hb d_M_times_17 (by decide) (fun c7 => ?_) (fun c7 => ?_)
    · rw [if_pos c7] at h
      cases h
      exact hy_jump K S (hy_okr (by omega) (hy_oki (hy_oki hy_ok0))) (lv_sub hl [0, 1, 2] rfl) (by subst ha_v0; rfl) (by subst ha_v0; rfl)
    · rw [if_neg c7] at h
      refine lv_aload_n hx hb d_M_times_20 rfl (lv_at hl 0 rfl) ?_
      refine lv_iload_n hx hb d_M_times_21 rfl (lv_at hl 2 rfl) ?_
      refine lv_iconst (v := 1) hx hb d_M_times_22 (by decide) ?_
      refine lv_isub hx hb d_M_times_23 ?_
      obtain ⟨ob11, h⟩ := hy_if h
      obtain ⟨fs_ob11, hf_ob11, hg_ob11⟩ := hy_ob_spec ob11
      obtain ⟨x10, w8, hq_w8, h⟩ := hy_bi_spec h
      refine hy_calli (hy_runV (rest := []) (As := [.int (v2 - 1)]) (r := v0) (b := a_v0) B S rfl ha_v0 (by rfl) (c_M_isLetter hl9 G ad4 hq_w8) (hy_okr (by omega) (hy_oki hy_ok0)) tw_841 tw_9 tw_838 tw_840 sl_M_isLetter (by decide) rfl (Nat.le_of_ble_eq_true rfl) (Nat.le_of_ble_eq_true rfl) hf_ob11 hg_ob11 rfl hl.1 (Nat.le_of_ble_eq_true rfl) d_M_times_24) (fun ad9 H locs cells slots hag hl_w8 S => ?_)
      have ha_v0 : ad9 v0 = a_v0 := (hag v0 (by omega)).trans ha_v0
      refine lv_if_ne (tgt := 56) hx hb d_M_times_27 (by decide) (fun c12 => ?_) (fun c12 => ?_)
      · rw [if_neg c12] at h
        cases h
        exact hy_jump K S (hy_okr (by omega) (hy_oki (hy_oki hy_ok0))) (lv_sub hl [0, 1, 2] rfl) (by subst ha_v0; rfl) (by subst ha_v0; rfl)
      · rw [if_pos c12] at h
        refine lv_aload_n hx hb d_M_times_30 rfl (lv_at hl 0 rfl) ?_
        refine lv_iload_n hx hb d_M_times_31 rfl (lv_at hl 2 rfl) ?_
        refine lv_aload_n hx hb d_M_times_32 rfl (lv_at hl 0 rfl) ?_
        refine lv_iload_n hx hb d_M_times_33 rfl (lv_at hl 2 rfl) ?_
        obtain ⟨ob16, h⟩ := hy_if h
        obtain ⟨fs_ob16, hf_ob16, hg_ob16⟩ := hy_ob_spec ob16
        obtain ⟨x15, w13, hq_w13, h⟩ := hy_bi_spec h
        refine hy_calli (hy_runV (rest := [.int v2, .ref a_v0]) (As := [.int v2]) (r := v0) (b := a_v0) B S rfl ha_v0 (by rfl) (c_M_end hl9 G ad9 hq_w13) (hy_okr (by omega) (hy_oki hy_ok0)) tw_853 tw_9 tw_850 tw_852 sl_M_end (by decide) rfl (Nat.le_of_ble_eq_true rfl) (Nat.le_of_ble_eq_true rfl) hf_ob16 hg_ob16 rfl hl.1 (Nat.le_of_ble_eq_true rfl) d_M_times_34) (fun ad14 H locs cells slots hag hl_w13 S => ?_)
        have ha_v0 : ad14 v0 = a_v0 := (hag v0 (by omega)).trans ha_v0
        obtain ⟨ob20, h⟩ := hy_if h
        obtain ⟨fs_ob20, hf_ob20, hg_ob20⟩ := hy_ob_spec ob20
        obtain ⟨x19, w17, hq_w17, h⟩ := hy_bi_spec h
        refine hy_calli (hy_runV (rest := []) (As := [.int v2, .int x15]) (r := v0) (b := a_v0) B S rfl ha_v0 (by rfl) (c_M_exceptionFor hl9 G ad14 hq_w17) (hy_okr (by omega) (hy_oki (hy_oki hy_ok0))) tw_861 tw_9 tw_858 tw_860 sl_M_exceptionFor (by decide) rfl (Nat.le_of_ble_eq_true rfl) (Nat.le_of_ble_eq_true rfl) hf_ob20 hg_ob20 rfl hl.1 (Nat.le_of_ble_eq_true rfl) d_M_times_37) (fun ad18 H locs cells slots hag hl_w17 S => ?_)
        have ha_v0 : ad18 v0 = a_v0 := (hag v0 (by omega)).trans ha_v0
        refine lv_if_ge (tgt := 56) hx hb d_M_times_40 (by decide) (fun c21 => ?_) (fun c21 => ?_)
        · rw [if_pos c21] at h
          cases h
          exact hy_jump K S (hy_okr (by omega) (hy_oki (hy_oki hy_ok0))) (lv_sub hl [0, 1, 2] rfl) (by subst ha_v0; rfl) (by subst ha_v0; rfl)
        · rw [if_neg c21] at h
          refine lv_iload_n hx hb d_M_times_43 rfl (lv_at hl 1 rfl) ?_
          refine lv_aload_n hx hb d_M_times_44 rfl (lv_at hl 0 rfl) ?_
          refine lv_iload_n hx hb d_M_times_45 rfl (lv_at hl 2 rfl) ?_
          refine lv_aload_n hx hb d_M_times_46 rfl (lv_at hl 0 rfl) ?_
          refine lv_iload_n hx hb d_M_times_47 rfl (lv_at hl 2 rfl) ?_
          obtain ⟨ob25, h⟩ := hy_if h
          obtain ⟨fs_ob25, hf_ob25, hg_ob25⟩ := hy_ob_spec ob25
          obtain ⟨x24, w22, hq_w22, h⟩ := hy_bi_spec h
          refine hy_calli (hy_runV (rest := [.int v2, .ref a_v0, .int v1]) (As := [.int v2]) (r := v0) (b := a_v0) B S rfl ha_v0 (by rfl) (c_M_end hl9 G ad18 hq_w22) (hy_okr (by omega) (hy_oki hy_ok0)) tw_853 tw_9 tw_850 tw_852 sl_M_end (by decide) rfl (Nat.le_of_ble_eq_true rfl) (Nat.le_of_ble_eq_true rfl) hf_ob25 hg_ob25 rfl hl.1 (Nat.le_of_ble_eq_true rfl) d_M_times_48) (fun ad23 H locs cells slots hag hl_w22 S => ?_)
          have ha_v0 : ad23 v0 = a_v0 := (hag v0 (by omega)).trans ha_v0
          obtain ⟨ob29, h⟩ := hy_if h
          obtain ⟨fs_ob29, hf_ob29, hg_ob29⟩ := hy_ob_spec ob29
          obtain ⟨x28, w26, hq_w26, h⟩ := hy_bi_spec h
          refine hy_calli (hy_runV (rest := [.int v1]) (As := [.int v2, .int x24]) (r := v0) (b := a_v0) B S rfl ha_v0 (by rfl) (c_M_timesIn hl9 G ad23 hq_w26) (hy_okr (by omega) (hy_oki (hy_oki hy_ok0))) tw_901 tw_9 tw_898 tw_900 sl_M_timesIn (by decide) rfl (Nat.le_of_ble_eq_true rfl) (Nat.le_of_ble_eq_true rfl) hf_ob29 hg_ob29 rfl hl.1 (Nat.le_of_ble_eq_true rfl) d_M_times_51) (fun ad27 H locs cells slots hag hl_w26 S => ?_)
          have ha_v0 : ad27 v0 = a_v0 := (hag v0 (by omega)).trans ha_v0
          refine lv_iadd hx hb d_M_times_54 ?_
          refine lv_istore_n (lv' := [(1, .int (v1 + x28)), (0, .ref a_v0), (2, .int v2)]) hx hb d_M_times_55 rfl hl (Nat.le_of_ble_eq_true rfl) rfl (fun ls hl => ?_)
          cases h
          exact hy_jump K S (hy_okr (by omega) (hy_oki (hy_oki hy_ok0))) (lv_sub hl [1, 0, 2] rfl) (by subst ha_v0; rfl) (by subst ha_v0; rfl)
set_option maxHeartbeats 4000000 in
set_option maxRecDepth 100000 in
theorem sk_M_times_56 {p : Program} {l : Launch} {e : Env} {s : State} {m : MethodId} {args : Array Value} {below : List Frame} {meth : Method} {c : Code} {G : hy_G} {A : Nat → Prop} {ad0 : Nat → Nat} {w0 : hy_W} {o : hy_O} (hl9 : l.flags = flags0) (hA : hy_A G ad0 w0 s.heap.size = A) (B : hy_B p l e (hy_rm 4 98 w0) s m args below meth c "HyphenPatternsModel" b_M_times 3 (some .int) [] G A) (v0 : Nat) (v1 : Int32) (v2 : Int32) (w : hy_W) (nx : hy_N) (h : sg_M_times_56 v0 v1 v2 w = some nx) (K : hy_Nx lay_M_times p l e (hy_rm 4 98 w0) s m args below meth c 3 G A ad0 w0.1.length (hy_Q below G ad0 w0 o args s) o nx) : hy_At lay_M_times p l e (hy_rm 4 98 w0) s m args below meth c 3 G A ad0 w0.1.length (hy_Q below G ad0 w0 o args s) (56, [.ref v0, .int v1, .int v2], w) := by
  intro ad H locs cells slots ls S hok hl
  have hx := B.1
  have hb := B.2.1
  dsimp only at S hok
  have hl : lv_has ls 3 [(0, .ref (ad v0)), (1, .int v1), (2, .int v2)] := hl
  show W p l e (hy_rm 4 98 w0) s m args below meth c H locs cells slots (hy_Q below G ad0 w0 o args s) (F0 m 56 ls [])
  have hv_v0 : v0 < w.1.length := hok (.ref v0) (List.mem_of_getElem? (i := 0) rfl) v0 rfl
  obtain ⟨a_v0, ha_v0⟩ : ∃ a, ad v0 = a := ⟨_, rfl⟩
  rw [ha_v0] at hl
  unfold sg_M_times_56 at h
  refine lv_iinc (v := (v2 + 1)) (lv' := [(2, .int (v2 + 1)), (0, .ref a_v0), (1, .int v1)]) hx hb d_M_times_56 hl (k := 2) rfl rfl (Nat.le_of_ble_eq_true rfl) rfl (fun ls hl => ?_)
  refine lv_goto (tgt := 4) hx hb d_M_times_59 (by decide) ?_
  cases h
  exact hy_jump K S (hy_okr (by omega) (hy_oki (hy_oki hy_ok0))) (lv_sub hl [1, 2, 0] rfl) (by subst ha_v0; rfl) (by subst ha_v0; rfl)
theorem nk_M_times {p : Program} {l : Launch} {e : Env} {s : State} {m : MethodId} {args : Array Value} {below : List Frame} {meth : Method} {c : Code} {G : hy_G} {A : Nat → Prop} {ad0 : Nat → Nat} {w0 : hy_W} {o : hy_O} (hl9 : l.flags = flags0) (hA : hy_A G ad0 w0 s.heap.size = A) (B : hy_B p l e (hy_rm 4 98 w0) s m args below meth c "HyphenPatternsModel" b_M_times 3 (some .int) [] G A) (q : hy_P) (nx : hy_N) (hq : nx_M_times q = some nx) (K : hy_Nx lay_M_times p l e (hy_rm 4 98 w0) s m args below meth c 3 G A ad0 w0.1.length (hy_Q below G ad0 w0 o args s) o nx) : hy_At lay_M_times p l e (hy_rm 4 98 w0) s m args below meth c 3 G A ad0 w0.1.length (hy_Q below G ad0 w0 o args s) q := by
  unfold nx_M_times at hq
  split at hq
  · exact sk_M_times_0 hl9 hA B _ _ nx hq K
  · exact sk_M_times_4 hl9 hA B _ _ _ _ nx hq K
  · exact sk_M_times_56 hl9 hA B _ _ _ _ nx hq K
  · cases hq
theorem c_M_times {l : Launch} (hl9 : l.flags = flags0) (G : hy_G) (ad : Nat → Nat) {v0 : Nat} {w : hy_W} {o : hy_O} (h : f_M_times [.ref v0] w = some o) : hy_M l y_M_times (Cond.code y_M_times b_M_times 3 (some .int) :: hy_T) 4 98 G ad [.ref v0] w o := by
  obtain ⟨n, hn⟩ := hy_fx_iff.mp h
  refine hy_ofW hl9 (by decide +kernel) (Nat.le_of_ble_eq_true rfl) (fun p e s m args below meth c A hA hi B S hok ls hl => ?_)
  exact hy_loop (nk_M_times hl9 hA B) n _ hn ad s.heap [] 0 0 ls S hok hl
