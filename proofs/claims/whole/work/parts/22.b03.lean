/-! BODIES (printed by our translator): H_indexOfRule, G_lay, G_layEverywhere, G_weigh, H_readWord, G_weightAt, G_canBreakAt, G_breakCount, H_countBreaks -/
theorem d_H_indexOfRule_0 : decode b_H_indexOfRule 0 = .ok (.iconst 0, 1) := by decide +kernel
theorem d_H_indexOfRule_1 : decode b_H_indexOfRule 1 = .ok (.istore 4, 2) := by decide +kernel
theorem d_H_indexOfRule_3 : decode b_H_indexOfRule 3 = .ok (.iload 4, 2) := by decide +kernel
theorem d_H_indexOfRule_5 : decode b_H_indexOfRule 5 = .ok (.aload_n 0, 1) := by decide +kernel
theorem d_H_indexOfRule_6 : decode b_H_indexOfRule 6 = .ok (.invokevirtual 121, 3) := by decide +kernel
theorem d_H_indexOfRule_9 : decode b_H_indexOfRule 9 = .ok (.if_icmp .ge 43, 3) := by decide +kernel
theorem d_H_indexOfRule_12 : decode b_H_indexOfRule 12 = .ok (.aload_n 0, 1) := by decide +kernel
theorem d_H_indexOfRule_13 : decode b_H_indexOfRule 13 = .ok (.iload 4, 2) := by decide +kernel
theorem d_H_indexOfRule_15 : decode b_H_indexOfRule 15 = .ok (.invokevirtual 189, 3) := by decide +kernel
theorem d_H_indexOfRule_18 : decode b_H_indexOfRule 18 = .ok (.checkcast 193, 3) := by decide +kernel
theorem d_H_indexOfRule_21 : decode b_H_indexOfRule 21 = .ok (.astore 5, 2) := by decide +kernel
theorem d_H_indexOfRule_23 : decode b_H_indexOfRule 23 = .ok (.aload 5, 2) := by decide +kernel
theorem d_H_indexOfRule_25 : decode b_H_indexOfRule 25 = .ok (.getfield 195, 3) := by decide +kernel
theorem d_H_indexOfRule_28 : decode b_H_indexOfRule 28 = .ok (.arraylength, 1) := by decide +kernel
theorem d_H_indexOfRule_29 : decode b_H_indexOfRule 29 = .ok (.iload_n 3, 1) := by decide +kernel
theorem d_H_indexOfRule_30 : decode b_H_indexOfRule 30 = .ok (.if_icmp .ne 16, 3) := by decide +kernel
theorem d_H_indexOfRule_33 : decode b_H_indexOfRule 33 = .ok (.aload 5, 2) := by decide +kernel
theorem d_H_indexOfRule_35 : decode b_H_indexOfRule 35 = .ok (.aload_n 1, 1) := by decide +kernel
theorem d_H_indexOfRule_36 : decode b_H_indexOfRule 36 = .ok (.iload_n 2, 1) := by decide +kernel
theorem d_H_indexOfRule_37 : decode b_H_indexOfRule 37 = .ok (.invokevirtual 196, 3) := by decide +kernel
theorem d_H_indexOfRule_40 : decode b_H_indexOfRule 40 = .ok (.ifCond .eq 6, 3) := by decide +kernel
theorem d_H_indexOfRule_43 : decode b_H_indexOfRule 43 = .ok (.iload 4, 2) := by decide +kernel
theorem d_H_indexOfRule_45 : decode b_H_indexOfRule 45 = .ok (.ireturn, 1) := by decide +kernel
theorem d_H_indexOfRule_46 : decode b_H_indexOfRule 46 = .ok (.iinc 4 1, 3) := by decide +kernel
theorem d_H_indexOfRule_49 : decode b_H_indexOfRule 49 = .ok (.goto (-46), 3) := by decide +kernel
theorem d_H_indexOfRule_52 : decode b_H_indexOfRule 52 = .ok (.iconst (-1), 1) := by decide +kernel
theorem d_H_indexOfRule_53 : decode b_H_indexOfRule 53 = .ok (.ireturn, 1) := by decide +kernel
def lay_H_indexOfRule (pc : Nat) : List Nat := if pc = 0 then [0, 1, 2, 3] else if pc = 3 then [0, 1, 2, 3, 4] else if pc = 46 then [0, 1, 2, 3, 4] else []
noncomputable def sg_H_indexOfRule_0 (v0 : Nat) (v1 : Nat) (v2 : Int32) (v3 : Int32) (w : hy_W) : Option hy_N := some (.inl (3, [.ref v0, .ref v1, .int v2, .int v3, .int 0], w))
noncomputable def sg_H_indexOfRule_3 (v0 : Nat) (v1 : Nat) (v2 : Int32) (v3 : Int32) (v4 : Int32) (w : hy_W) : Option hy_N := if hy_ob w v0 7 = true then hy_bi (f_A_size [.ref v0] w) fun x3 w1 => if x3 ≤ v4 then (some (.inr (.inl (some (.int (-1))), w1))) else (if hy_ob w1 v0 7 = true then hy_br (f_A_get [.ref v0, .int v4] w1) fun r8 w6 => if hy_ob w6 r8 4 = true then (hy_gr w6 r8 4 0).bind fun r11 => if r11 ≠ 1 then (hy_ln w6 0 r11).bind fun n12 => if (nI n12) = v3 then (if hy_ob w6 r8 4 = true then hy_bi (f_U_standsAt [.ref r8, .ref v1, .int v2] w6) fun x16 w14 => if x16 = 0 then (some (.inl (46, [.ref v0, .ref v1, .int v2, .int v3, .int v4], w14))) else (some (.inr (.inl (some (.int v4)), w14))) else none) else (some (.inl (46, [.ref v0, .ref v1, .int v2, .int v3, .int v4], w6))) else none else none else none) else none
noncomputable def sg_H_indexOfRule_46 (v0 : Nat) (v1 : Nat) (v2 : Int32) (v3 : Int32) (v4 : Int32) (w : hy_W) : Option hy_N := some (.inl (3, [.ref v0, .ref v1, .int v2, .int v3, .int (v4 + 1)], w))
noncomputable def nx_H_indexOfRule (q : hy_P) : Option hy_N := match q with
  | (0, [.ref v0, .ref v1, .int v2, .int v3], w) => sg_H_indexOfRule_0 v0 v1 v2 v3 w
  | (3, [.ref v0, .ref v1, .int v2, .int v3, .int v4], w) => sg_H_indexOfRule_3 v0 v1 v2 v3 v4 w
  | (46, [.ref v0, .ref v1, .int v2, .int v3, .int v4], w) => sg_H_indexOfRule_46 v0 v1 v2 v3 v4 w
  | _ => none
noncomputable def f_H_indexOfRule (av : List Value) (w : hy_W) : Option hy_O := hy_fx nx_H_indexOfRule (0, av, w)
set_option maxHeartbeats 4000000 in
set_option maxRecDepth 100000 in
theorem sk_H_indexOfRule_0 {p : Program} {l : Launch} {e : Env} {s : State} {m : MethodId} {args : Array Value} {below : List Frame} {meth : Method} {c : Code} {G : hy_G} {A : Nat → Prop} {ad0 : Nat → Nat} {w0 : hy_W} {o : hy_O} (hl9 : l.flags = flags0) (hA : hy_A G ad0 w0 s.heap.size = A) (B : hy_B p l e (hy_rm 3 64 w0) s m args below meth c "HyphenPatterns" b_H_indexOfRule 6 (some .int) [] G A) (v0 : Nat) (v1 : Nat) (v2 : Int32) (v3 : Int32) (w : hy_W) (nx : hy_N) (h : sg_H_indexOfRule_0 v0 v1 v2 v3 w = some nx) (K : hy_Nx lay_H_indexOfRule p l e (hy_rm 3 64 w0) s m args below meth c 6 G A ad0 w0.1.length (hy_Q below G ad0 w0 o args s) o nx) : hy_At lay_H_indexOfRule p l e (hy_rm 3 64 w0) s m args below meth c 6 G A ad0 w0.1.length (hy_Q below G ad0 w0 o args s) (0, [.ref v0, .ref v1, .int v2, .int v3], w) := by
  intro ad H locs cells slots ls S hok hl
  have hx := B.1
  have hb := B.2.1
  dsimp only at S hok
  have hl : lv_has ls 6 [(0, .ref (ad v0)), (1, .ref (ad v1)), (2, .int v2), (3, .int v3)] := hl
  show W p l e (hy_rm 3 64 w0) s m args below meth c H locs cells slots (hy_Q below G ad0 w0 o args s) (F0 m 0 ls [])
  have hv_v0 : v0 < w.1.length := hok (.ref v0) (List.mem_of_getElem? (i := 0) rfl) v0 rfl
  obtain ⟨a_v0, ha_v0⟩ : ∃ a, ad v0 = a := ⟨_, rfl⟩
  rw [ha_v0] at hl
  have hv_v1 : v1 < w.1.length := hok (.ref v1) (List.mem_of_getElem? (i := 1) rfl) v1 rfl
  obtain ⟨a_v1, ha_v1⟩ : ∃ a, ad v1 = a := ⟨_, rfl⟩
  rw [ha_v1] at hl
  unfold sg_H_indexOfRule_0 at h
  refine lv_iconst (v := 0) hx hb d_H_indexOfRule_0 (by decide) ?_
  refine lv_istore (lv' := [(4, .int 0), (0, .ref a_v0), (1, .ref a_v1), (2, .int v2), (3, .int v3)]) hx hb d_H_indexOfRule_1 hl (Nat.le_of_ble_eq_true rfl) rfl (fun ls hl => ?_)
  cases h
  exact hy_jump K S (hy_okr (by omega) (hy_okr (by omega) (hy_oki (hy_oki (hy_oki hy_ok0))))) (lv_sub hl [1, 2, 3, 4, 0] rfl) (by subst ha_v0 ha_v1; rfl) (by subst ha_v0 ha_v1; rfl)
set_option maxHeartbeats 4000000 in
set_option maxRecDepth 100000 in
theorem sk_H_indexOfRule_3 {p : Program} {l : Launch} {e : Env} {s : State} {m : MethodId} {args : Array Value} {below : List Frame} {meth : Method} {c : Code} {G : hy_G} {A : Nat → Prop} {ad0 : Nat → Nat} {w0 : hy_W} {o : hy_O} (hl9 : l.flags = flags0) (hA : hy_A G ad0 w0 s.heap.size = A) (B : hy_B p l e (hy_rm 3 64 w0) s m args below meth c "HyphenPatterns" b_H_indexOfRule 6 (some .int) [] G A) (v0 : Nat) (v1 : Nat) (v2 : Int32) (v3 : Int32) (v4 : Int32) (w : hy_W) (nx : hy_N) (h : sg_H_indexOfRule_3 v0 v1 v2 v3 v4 w = some nx) (K : hy_Nx lay_H_indexOfRule p l e (hy_rm 3 64 w0) s m args below meth c 6 G A ad0 w0.1.length (hy_Q below G ad0 w0 o args s) o nx) : hy_At lay_H_indexOfRule p l e (hy_rm 3 64 w0) s m args below meth c 6 G A ad0 w0.1.length (hy_Q below G ad0 w0 o args s) (3, [.ref v0, .ref v1, .int v2, .int v3, .int v4], w) := by
  intro ad H locs cells slots ls S hok hl
  have hx := B.1
  have hb := B.2.1
  dsimp only at S hok
  have hl : lv_has ls 6 [(0, .ref (ad v0)), (1, .ref (ad v1)), (2, .int v2), (3, .int v3), (4, .int v4)] := hl
  show W p l e (hy_rm 3 64 w0) s m args below meth c H locs cells slots (hy_Q below G ad0 w0 o args s) (F0 m 3 ls [])
  have hv_v0 : v0 < w.1.length := hok (.ref v0) (List.mem_of_getElem? (i := 0) rfl) v0 rfl
  obtain ⟨a_v0, ha_v0⟩ : ∃ a, ad v0 = a := ⟨_, rfl⟩
  rw [ha_v0] at hl
  have hv_v1 : v1 < w.1.length := hok (.ref v1) (List.mem_of_getElem? (i := 1) rfl) v1 rfl
  obtain ⟨a_v1, ha_v1⟩ : ∃ a, ad v1 = a := ⟨_, rfl⟩
  rw [ha_v1] at hl
  unfold sg_H_indexOfRule_3 at h
  refine lv_iload hx hb d_H_indexOfRule_3 (lv_at hl 4 rfl) ?_
  refine lv_aload_n hx hb d_H_indexOfRule_5 rfl (lv_at hl 0 rfl) ?_
  obtain ⟨ob4, h⟩ := hy_if h
  obtain ⟨fs_ob4, hf_ob4, hg_ob4⟩ := hy_ob_spec ob4
  obtain ⟨x3, w1, hq_w1, h⟩ := hy_bi_spec h
  refine hy_calli (hy_runV (rest := [.int v4]) (As := []) (r := v0) (b := a_v0) B S rfl ha_v0 (by rfl) (c_A_size hl9 G ad hq_w1) (hy_okr (by omega) hy_ok0) tw_197 tw_8 tw_194 tw_195 sl_A_size (by decide) rfl (Nat.le_of_ble_eq_true rfl) (Nat.le_of_ble_eq_true rfl) hf_ob4 hg_ob4 rfl hl.1 (Nat.le_of_ble_eq_true rfl) d_H_indexOfRule_6) (fun ad2 H locs cells slots hag hl_w1 S => ?_)
  have ha_v0 : ad2 v0 = a_v0 := (hag v0 (by omega)).trans ha_v0
  have ha_v1 : ad2 v1 = a_v1 := (hag v1 (by omega)).trans ha_v1
  refine lv_icmp_ge (tgt := 52) hx hb d_H_indexOfRule_9 (by decide) (fun c5 => ?_) (fun c5 => ?_)
  · rw [if_pos c5] at h
    refine lv_iconst (v := (-1)) hx hb d_H_indexOfRule_52 (by decide) ?_
    cases h
    cases K
    exact hy_iret hA B S d_H_indexOfRule_53
  · rw [if_neg c5] at h
    refine lv_aload_n hx hb d_H_indexOfRule_12 rfl (lv_at hl 0 rfl) ?_
    refine lv_iload hx hb d_H_indexOfRule_13 (lv_at hl 4 rfl) ?_
    obtain ⟨ob9, h⟩ := hy_if h
    obtain ⟨fs_ob9, hf_ob9, hg_ob9⟩ := hy_ob_spec ob9
    obtain ⟨r8, w6, hq_w6, h⟩ := hy_br_spec h
    refine hy_callr (hy_runV (rest := []) (As := [.int v4]) (r := v0) (b := a_v0) B S rfl ha_v0 (by rfl) (c_A_get hl9 G ad2 hq_w6) (hy_okr (by omega) (hy_oki hy_ok0)) tw_260 tw_8 tw_257 tw_258 sl_A_get (by decide) rfl (Nat.le_of_ble_eq_true rfl) (Nat.le_of_ble_eq_true rfl) hf_ob9 hg_ob9 rfl hl.1 (Nat.le_of_ble_eq_true rfl) d_H_indexOfRule_15) (fun ad7 H locs cells slots hag hl_w6 S a_r8 ha_r8 hv_r8 => ?_)
    have ha_v0 : ad7 v0 = a_v0 := (hag v0 (by omega)).trans ha_v0
    have ha_v1 : ad7 v1 = a_v1 := (hag v1 (by omega)).trans ha_v1
    obtain ⟨ob10, h⟩ := hy_if h
    obtain ⟨fs_ob10, hf_ob10, hg_ob10⟩ := hy_ob_spec ob10
    refine hy_cast B S ha_r8 hf_ob10 hg_ob10 rfl tw_271 d_H_indexOfRule_18 ?_
    refine lv_astore (lv' := [(5, .ref a_r8), (0, .ref a_v0), (1, .ref a_v1), (2, .int v2), (3, .int v3), (4, .int v4)]) hx hb d_H_indexOfRule_21 hl (Nat.le_of_ble_eq_true rfl) rfl (fun ls hl => ?_)
    refine lv_aload hx hb d_H_indexOfRule_23 (lv_at hl 0 rfl) ?_
    obtain ⟨r11, hr11, h⟩ := hy_bd h
    refine hy_getr B S ha_r8 hr11 rfl (Nat.le_of_ble_eq_true rfl) i_4 (j := 0) tw_534 (fun _ h => h) d_H_indexOfRule_25 (fun a_r11 ha_r11 hv_r11 => ?_)
    obtain ⟨h1n12, h⟩ := hy_if h
    obtain ⟨n12, hn12, h⟩ := hy_bd h
    refine hy_alen B S ha_r11 (t := 0) (Nat.le_of_ble_eq_true rfl) hn12 h1n12 d_H_indexOfRule_28 ?_
    refine lv_iload_n hx hb d_H_indexOfRule_29 rfl (lv_at hl 4 rfl) ?_
    refine lv_icmp_ne (tgt := 46) hx hb d_H_indexOfRule_30 (by decide) (fun c13 => ?_) (fun c13 => ?_)
    · rw [if_neg c13] at h
      cases h
      exact hy_jump K S (hy_okr (by omega) (hy_okr (by omega) (hy_oki (hy_oki (hy_oki hy_ok0))))) (lv_sub hl [1, 2, 3, 4, 5] rfl) (by subst ha_v0 ha_v1; rfl) (by subst ha_v0 ha_v1; rfl)
    · rw [if_pos c13] at h
      refine lv_aload hx hb d_H_indexOfRule_33 (lv_at hl 0 rfl) ?_
      refine lv_aload_n hx hb d_H_indexOfRule_35 rfl (lv_at hl 2 rfl) ?_
      refine lv_iload_n hx hb d_H_indexOfRule_36 rfl (lv_at hl 3 rfl) ?_
      obtain ⟨ob17, h⟩ := hy_if h
      obtain ⟨fs_ob17, hf_ob17, hg_ob17⟩ := hy_ob_spec ob17
      obtain ⟨x16, w14, hq_w14, h⟩ := hy_bi_spec h
      refine hy_calli (hy_runV (rest := []) (As := [.ref a_v1, .int v2]) (r := r8) (b := a_r8) B S rfl ha_r8 (by subst ha_v1; rfl) (c_U_standsAt hl9 G ad7 hq_w14) (hy_okr (by omega) (hy_okr (by omega) (hy_oki hy_ok0))) tw_275 tw_19 tw_272 tw_273 sl_U_standsAt (by decide) rfl (Nat.le_of_ble_eq_true rfl) (Nat.le_of_ble_eq_true rfl) hf_ob17 hg_ob17 rfl hl.1 (Nat.le_of_ble_eq_true rfl) d_H_indexOfRule_37) (fun ad15 H locs cells slots hag hl_w14 S => ?_)
      have ha_v0 : ad15 v0 = a_v0 := (hag v0 (by omega)).trans ha_v0
      have ha_v1 : ad15 v1 = a_v1 := (hag v1 (by omega)).trans ha_v1
      have ha_r8 : ad15 r8 = a_r8 := (hag r8 (by omega)).trans ha_r8
      refine lv_if_eq (tgt := 46) hx hb d_H_indexOfRule_40 (by decide) (fun c18 => ?_) (fun c18 => ?_)
      · rw [if_pos c18] at h
        cases h
        exact hy_jump K S (hy_okr (by omega) (hy_okr (by omega) (hy_oki (hy_oki (hy_oki hy_ok0))))) (lv_sub hl [1, 2, 3, 4, 5] rfl) (by subst ha_v0 ha_v1; rfl) (by subst ha_v0 ha_v1; rfl)
      · rw [if_neg c18] at h
        refine lv_iload hx hb d_H_indexOfRule_43 (lv_at hl 5 rfl) ?_
        cases h
        cases K
        exact hy_iret hA B S d_H_indexOfRule_45
set_option maxHeartbeats 4000000 in
set_option maxRecDepth 100000 in
theorem sk_H_indexOfRule_46 {p : Program} {l : Launch} {e : Env} {s : State} {m : MethodId} {args : Array Value} {below : List Frame} {meth : Method} {c : Code} {G : hy_G} {A : Nat → Prop} {ad0 : Nat → Nat} {w0 : hy_W} {o : hy_O} (hl9 : l.flags = flags0) (hA : hy_A G ad0 w0 s.heap.size = A) (B : hy_B p l e (hy_rm 3 64 w0) s m args below meth c "HyphenPatterns" b_H_indexOfRule 6 (some .int) [] G A) (v0 : Nat) (v1 : Nat) (v2 : Int32) (v3 : Int32) (v4 : Int32) (w : hy_W) (nx : hy_N) (h : sg_H_indexOfRule_46 v0 v1 v2 v3 v4 w = some nx) (K : hy_Nx lay_H_indexOfRule p l e (hy_rm 3 64 w0) s m args below meth c 6 G A ad0 w0.1.length (hy_Q below G ad0 w0 o args s) o nx) : hy_At lay_H_indexOfRule p l e (hy_rm 3 64 w0) s m args below meth c 6 G A ad0 w0.1.length (hy_Q below G ad0 w0 o args s) (46, [.ref v0, .ref v1, .int v2, .int v3, .int v4], w) := by
  intro ad H locs cells slots ls S hok hl
  have hx := B.1
  have hb := B.2.1
  dsimp only at S hok
  have hl : lv_has ls 6 [(0, .ref (ad v0)), (1, .ref (ad v1)), (2, .int v2), (3, .int v3), (4, .int v4)] := hl
  show W p l e (hy_rm 3 64 w0) s m args below meth c H locs cells slots (hy_Q below G ad0 w0 o args s) (F0 m 46 ls [])
  have hv_v0 : v0 < w.1.length := hok (.ref v0) (List.mem_of_getElem? (i := 0) rfl) v0 rfl
  obtain ⟨a_v0, ha_v0⟩ : ∃ a, ad v0 = a := ⟨_, rfl⟩
  rw [ha_v0] at hl
  have hv_v1 : v1 < w.1.length := hok (.ref v1) (List.mem_of_getElem? (i := 1) rfl) v1 rfl
  obtain ⟨a_v1, ha_v1⟩ : ∃ a, ad v1 = a := ⟨_, rfl⟩
  rw [ha_v1] at hl
  unfold sg_H_indexOfRule_46 at h
  refine lv_iinc (v := (v4 + 1)) (lv' := [(4, .int (v4 + 1)), (0, .ref a_v0), (1, .ref a_v1), (2, .int v2), (3, .int v3)]) hx hb d_H_indexOfRule_46 hl (k := 4) rfl rfl (Nat.le_of_ble_eq_true rfl) rfl (fun ls hl => ?_)
  refine lv_goto (tgt := 3) hx hb d_H_indexOfRule_49 (by decide) ?_
  cases h
  exact hy_jump K S (hy_okr (by omega) (hy_okr (by omega) (hy_oki (hy_oki (hy_oki hy_ok0))))) (lv_sub hl [1, 2, 3, 4, 0] rfl) (by subst ha_v0 ha_v1; rfl) (by subst ha_v0 ha_v1; rfl)
theorem nk_H_indexOfRule {p : Program} {l : Launch} {e : Env} {s : State} {m : MethodId} {args : Array Value} {below : List Frame} {meth : Method} {c : Code} {G : hy_G} {A : Nat → Prop} {ad0 : Nat → Nat} {w0 : hy_W} {o : hy_O} (hl9 : l.flags = flags0) (hA : hy_A G ad0 w0 s.heap.size = A) (B : hy_B p l e (hy_rm 3 64 w0) s m args below meth c "HyphenPatterns" b_H_indexOfRule 6 (some .int) [] G A) (q : hy_P) (nx : hy_N) (hq : nx_H_indexOfRule q = some nx) (K : hy_Nx lay_H_indexOfRule p l e (hy_rm 3 64 w0) s m args below meth c 6 G A ad0 w0.1.length (hy_Q below G ad0 w0 o args s) o nx) : hy_At lay_H_indexOfRule p l e (hy_rm 3 64 w0) s m args below meth c 6 G A ad0 w0.1.length (hy_Q below G ad0 w0 o args s) q := by
  unfold nx_H_indexOfRule at hq
  split at hq
  · exact sk_H_indexOfRule_0 hl9 hA B _ _ _ _ _ nx hq K
  · exact sk_H_indexOfRule_3 hl9 hA B _ _ _ _ _ _ nx hq K
  · exact sk_H_indexOfRule_46 hl9 hA B _ _ _ _ _ _ nx hq K
  · cases hq
theorem c_H_indexOfRule {l : Launch} (hl9 : l.flags = flags0) (G : hy_G) (ad : Nat → Nat) {v0 : Nat} {v1 : Nat} {v2 : Int32} {v3 : Int32} {w : hy_W} {o : hy_O} (h : f_H_indexOfRule [.ref v0, .ref v1, .int v2, .int v3] w = some o) : hy_M l y_H_indexOfRule (Cond.code y_H_indexOfRule b_H_indexOfRule 6 (some .int) :: hy_T) 3 64 G ad [.ref v0, .ref v1, .int v2, .int v3] w o := by
  obtain ⟨n, hn⟩ := hy_fx_iff.mp h
  refine hy_ofW hl9 (by decide +kernel) (Nat.le_of_ble_eq_true rfl) (fun p e s m args below meth c A hA hi B S hok ls hl => ?_)
  exact hy_loop (nk_H_indexOfRule hl9 hA B) n _ hn ad s.heap [] 0 0 ls S hok hl
theorem d_G_lay_0 : decode b_G_lay 0 = .ok (.iconst 0, 1) := by decide +kernel
theorem d_G_lay_1 : decode b_G_lay 1 = .ok (.istore_n 3, 1) := by decide +kernel
theorem d_G_lay_2 : decode b_G_lay 2 = .ok (.iload_n 3, 1) := by decide +kernel
theorem d_G_lay_3 : decode b_G_lay 3 = .ok (.aload_n 1, 1) := by decide +kernel
theorem d_G_lay_4 : decode b_G_lay 4 = .ok (.getfield 91, 3) := by decide +kernel
theorem d_G_lay_7 : decode b_G_lay 7 = .ok (.arraylength, 1) := by decide +kernel
theorem d_G_lay_8 : decode b_G_lay 8 = .ok (.if_icmp .ge 45, 3) := by decide +kernel
theorem d_G_lay_11 : decode b_G_lay 11 = .ok (.iload_n 2, 1) := by decide +kernel
theorem d_G_lay_12 : decode b_G_lay 12 = .ok (.iload_n 3, 1) := by decide +kernel
theorem d_G_lay_13 : decode b_G_lay 13 = .ok (.iadd, 1) := by decide +kernel
theorem d_G_lay_14 : decode b_G_lay 14 = .ok (.aload_n 0, 1) := by decide +kernel
theorem d_G_lay_15 : decode b_G_lay 15 = .ok (.getfield 15, 3) := by decide +kernel
theorem d_G_lay_18 : decode b_G_lay 18 = .ok (.arraylength, 1) := by decide +kernel
theorem d_G_lay_19 : decode b_G_lay 19 = .ok (.if_icmp .ge 34, 3) := by decide +kernel
theorem d_G_lay_22 : decode b_G_lay 22 = .ok (.aload_n 0, 1) := by decide +kernel
theorem d_G_lay_23 : decode b_G_lay 23 = .ok (.getfield 15, 3) := by decide +kernel
theorem d_G_lay_26 : decode b_G_lay 26 = .ok (.iload_n 2, 1) := by decide +kernel
theorem d_G_lay_27 : decode b_G_lay 27 = .ok (.iload_n 3, 1) := by decide +kernel
theorem d_G_lay_28 : decode b_G_lay 28 = .ok (.iadd, 1) := by decide +kernel
theorem d_G_lay_29 : decode b_G_lay 29 = .ok (.aload_n 0, 1) := by decide +kernel
theorem d_G_lay_30 : decode b_G_lay 30 = .ok (.getfield 15, 3) := by decide +kernel
theorem d_G_lay_33 : decode b_G_lay 33 = .ok (.iload_n 2, 1) := by decide +kernel
theorem d_G_lay_34 : decode b_G_lay 34 = .ok (.iload_n 3, 1) := by decide +kernel
theorem d_G_lay_35 : decode b_G_lay 35 = .ok (.iadd, 1) := by decide +kernel
theorem d_G_lay_36 : decode b_G_lay 36 = .ok (.iaload, 1) := by decide +kernel
theorem d_G_lay_37 : decode b_G_lay 37 = .ok (.aload_n 1, 1) := by decide +kernel
theorem d_G_lay_38 : decode b_G_lay 38 = .ok (.getfield 91, 3) := by decide +kernel
theorem d_G_lay_41 : decode b_G_lay 41 = .ok (.iload_n 3, 1) := by decide +kernel
theorem d_G_lay_42 : decode b_G_lay 42 = .ok (.iaload, 1) := by decide +kernel
theorem d_G_lay_43 : decode b_G_lay 43 = .ok (.invokestatic 94, 3) := by decide +kernel
theorem d_G_lay_46 : decode b_G_lay 46 = .ok (.iastore, 1) := by decide +kernel
theorem d_G_lay_47 : decode b_G_lay 47 = .ok (.iinc 3 1, 3) := by decide +kernel
theorem d_G_lay_50 : decode b_G_lay 50 = .ok (.goto (-48), 3) := by decide +kernel
theorem d_G_lay_53 : decode b_G_lay 53 = .ok (.return_, 1) := by decide +kernel
def lay_G_lay (pc : Nat) : List Nat := if pc = 0 then [0, 1, 2] else if pc = 2 then [0, 1, 2, 3] else []
noncomputable def sg_G_lay_0 (v0 : Nat) (v1 : Nat) (v2 : Int32) (w : hy_W) : Option hy_N := some (.inl (2, [.ref v0, .ref v1, .int v2, .int 0], w))
noncomputable def sg_G_lay_2 (v0 : Nat) (v1 : Nat) (v2 : Int32) (v3 : Int32) (w : hy_W) : Option hy_N := (hy_gr w v1 4 1).bind fun r1 => if r1 ≠ 1 then (hy_ln w 0 r1).bind fun n2 => if (nI n2) ≤ v3 then (some (.inr (.inl none, w))) else ((hy_gr w v0 3 1).bind fun r4 => if r4 ≠ 1 then (hy_ln w 0 r4).bind fun n5 => if (nI n5) ≤ (v2 + v3) then (some (.inr (.inl none, w))) else ((hy_gr w v0 3 1).bind fun r7 => (hy_gr w v0 3 1).bind fun r8 => (hy_ai w r8 (v2 + v3)).bind fun x9 => (hy_gr w v1 4 1).bind fun r10 => (hy_ai w r10 v3).bind fun x11 => (hy_pa w 0 r7 (v2 + v3) (.int (if x9 < x11 then x11 else x9))).bind fun w12 => some (.inl (2, [.ref v0, .ref v1, .int v2, .int (v3 + 1)], w12))) else none) else none
noncomputable def nx_G_lay (q : hy_P) : Option hy_N := match q with
  | (0, [.ref v0, .ref v1, .int v2], w) => sg_G_lay_0 v0 v1 v2 w
  | (2, [.ref v0, .ref v1, .int v2, .int v3], w) => sg_G_lay_2 v0 v1 v2 v3 w
  | _ => none
noncomputable def f_G_lay (av : List Value) (w : hy_W) : Option hy_O := hy_fx nx_G_lay (0, av, w)
set_option maxHeartbeats 4000000 in
set_option maxRecDepth 100000 in
theorem sk_G_lay_0 {p : Program} {l : Launch} {e : Env} {s : State} {m : MethodId} {args : Array Value} {below : List Frame} {meth : Method} {c : Code} {G : hy_G} {A : Nat → Prop} {ad0 : Nat → Nat} {w0 : hy_W} {o : hy_O} (hl9 : l.flags = flags0) (hA : hy_A G ad0 w0 s.heap.size = A) (B : hy_B p l e (hy_rm 1 15 w0) s m args below meth c "HyphenPatterns$Reading" b_G_lay 4 none [] G A) (v0 : Nat) (v1 : Nat) (v2 : Int32) (w : hy_W) (nx : hy_N) (h : sg_G_lay_0 v0 v1 v2 w = some nx) (K : hy_Nx lay_G_lay p l e (hy_rm 1 15 w0) s m args below meth c 4 G A ad0 w0.1.length (hy_Q below G ad0 w0 o args s) o nx) : hy_At lay_G_lay p l e (hy_rm 1 15 w0) s m args below meth c 4 G A ad0 w0.1.length (hy_Q below G ad0 w0 o args s) (0, [.ref v0, .ref v1, .int v2], w) := by
  intro ad H locs cells slots ls S hok hl
  have hx := B.1
  have hb := B.2.1
  dsimp only at S hok
  have hl : lv_has ls 4 [(0, .ref (ad v0)), (1, .ref (ad v1)), (2, .int v2)] := hl
  show W p l e (hy_rm 1 15 w0) s m args below meth c H locs cells slots (hy_Q below G ad0 w0 o args s) (F0 m 0 ls [])
  have hv_v0 : v0 < w.1.length := hok (.ref v0) (List.mem_of_getElem? (i := 0) rfl) v0 rfl
  obtain ⟨a_v0, ha_v0⟩ : ∃ a, ad v0 = a := ⟨_, rfl⟩
  rw [ha_v0] at hl
  have hv_v1 : v1 < w.1.length := hok (.ref v1) (List.mem_of_getElem? (i := 1) rfl) v1 rfl
  obtain ⟨a_v1, ha_v1⟩ : ∃ a, ad v1 = a := ⟨_, rfl⟩
  rw [ha_v1] at hl
  unfold sg_G_lay_0 at h
  refine lv_iconst (v := 0) hx hb d_G_lay_0 (by decide) ?_
  refine lv_istore_n (lv' := [(3, .int 0), (0, .ref a_v0), (1, .ref a_v1), (2, .int v2)]) hx hb d_G_lay_1 rfl hl (Nat.le_of_ble_eq_true rfl) rfl (fun ls hl => ?_)
  cases h
  exact hy_jump K S (hy_okr (by omega) (hy_okr (by omega) (hy_oki (hy_oki hy_ok0)))) (lv_sub hl [1, 2, 3, 0] rfl) (by subst ha_v0 ha_v1; rfl) (by subst ha_v0 ha_v1; rfl)
set_option maxHeartbeats 4000000 in
set_option maxRecDepth 100000 in
theorem sk_G_lay_2 {p : Program} {l : Launch} {e : Env} {s : State} {m : MethodId} {args : Array Value} {below : List Frame} {meth : Method} {c : Code} {G : hy_G} {A : Nat → Prop} {ad0 : Nat → Nat} {w0 : hy_W} {o : hy_O} (hl9 : l.flags = flags0) (hA : hy_A G ad0 w0 s.heap.size = A) (B : hy_B p l e (hy_rm 1 15 w0) s m args below meth c "HyphenPatterns$Reading" b_G_lay 4 none [] G A) (v0 : Nat) (v1 : Nat) (v2 : Int32) (v3 : Int32) (w : hy_W) (nx : hy_N) (h : sg_G_lay_2 v0 v1 v2 v3 w = some nx) (K : hy_Nx lay_G_lay p l e (hy_rm 1 15 w0) s m args below meth c 4 G A ad0 w0.1.length (hy_Q below G ad0 w0 o args s) o nx) : hy_At lay_G_lay p l e (hy_rm 1 15 w0) s m args below meth c 4 G A ad0 w0.1.length (hy_Q below G ad0 w0 o args s) (2, [.ref v0, .ref v1, .int v2, .int v3], w) := by
  intro ad H locs cells slots ls S hok hl
  have hx := B.1
  have hb := B.2.1
  dsimp only at S hok
  have hl : lv_has ls 4 [(0, .ref (ad v0)), (1, .ref (ad v1)), (2, .int v2), (3, .int v3)] := hl
  show W p l e (hy_rm 1 15 w0) s m args below meth c H locs cells slots (hy_Q below G ad0 w0 o args s) (F0 m 2 ls [])
  have hv_v0 : v0 < w.1.length := hok (.ref v0) (List.mem_of_getElem? (i := 0) rfl) v0 rfl
  obtain ⟨a_v0, ha_v0⟩ : ∃ a, ad v0 = a := ⟨_, rfl⟩
  rw [ha_v0] at hl
  have hv_v1 : v1 < w.1.length := hok (.ref v1) (List.mem_of_getElem? (i := 1) rfl) v1 rfl
  obtain ⟨a_v1, ha_v1⟩ : ∃ a, ad v1 = a := ⟨_, rfl⟩
  rw [ha_v1] at hl
  unfold sg_G_lay_2 at h
  refine lv_iload_n hx hb d_G_lay_2 rfl (lv_at hl 3 rfl) ?_
  refine lv_aload_n hx hb d_G_lay_3 rfl (lv_at hl 1 rfl) ?_
  obtain ⟨r1, hr1, h⟩ := hy_bd h
  refine hy_getr B S ha_v1 hr1 rfl (Nat.le_of_ble_eq_true rfl) i_4 (j := 1) tw_536 (fun _ h => h) d_G_lay_4 (fun a_r1 ha_r1 hv_r1 => ?_)
  obtain ⟨h1n2, h⟩ := hy_if h
  obtain ⟨n2, hn2, h⟩ := hy_bd h
  refine hy_alen B S ha_r1 (t := 0) (Nat.le_of_ble_eq_true rfl) hn2 h1n2 d_G_lay_7 ?_
  refine lv_icmp_ge (tgt := 53) hx hb d_G_lay_8 (by decide) (fun c3 => ?_) (fun c3 => ?_)
  · rw [if_pos c3] at h
    cases h
    cases K
    exact hy_vret hA B S d_G_lay_53
  · rw [if_neg c3] at h
    refine lv_iload_n hx hb d_G_lay_11 rfl (lv_at hl 2 rfl) ?_
    refine lv_iload_n hx hb d_G_lay_12 rfl (lv_at hl 3 rfl) ?_
    refine lv_iadd hx hb d_G_lay_13 ?_
    refine lv_aload_n hx hb d_G_lay_14 rfl (lv_at hl 0 rfl) ?_
    obtain ⟨r4, hr4, h⟩ := hy_bd h
    refine hy_getr B S ha_v0 hr4 rfl (Nat.le_of_ble_eq_true rfl) i_3 (j := 1) tw_82 (fun _ h => h) d_G_lay_15 (fun a_r4 ha_r4 hv_r4 => ?_)
    obtain ⟨h1n5, h⟩ := hy_if h
    obtain ⟨n5, hn5, h⟩ := hy_bd h
    refine hy_alen B S ha_r4 (t := 0) (Nat.le_of_ble_eq_true rfl) hn5 h1n5 d_G_lay_18 ?_
    refine lv_icmp_ge (tgt := 53) hx hb d_G_lay_19 (by decide) (fun c6 => ?_) (fun c6 => ?_)
    · rw [if_pos c6] at h
      cases h
      cases K
      exact hy_vret hA B S d_G_lay_53
    · rw [if_neg c6] at h
      refine lv_aload_n hx hb d_G_lay_22 rfl (lv_at hl 0 rfl) ?_
      obtain ⟨r7, hr7, h⟩ := hy_bd h
      refine hy_getr B S ha_v0 hr7 rfl (Nat.le_of_ble_eq_true rfl) i_3 (j := 1) tw_82 (fun _ h => h) d_G_lay_23 (fun a_r7 ha_r7 hv_r7 => ?_)
      refine lv_iload_n hx hb d_G_lay_26 rfl (lv_at hl 2 rfl) ?_
      refine lv_iload_n hx hb d_G_lay_27 rfl (lv_at hl 3 rfl) ?_
      refine lv_iadd hx hb d_G_lay_28 ?_
      refine lv_aload_n hx hb d_G_lay_29 rfl (lv_at hl 0 rfl) ?_
      obtain ⟨r8, hr8, h⟩ := hy_bd h
      refine hy_getr B S ha_v0 hr8 rfl (Nat.le_of_ble_eq_true rfl) i_3 (j := 1) tw_82 (fun _ h => h) d_G_lay_30 (fun a_r8 ha_r8 hv_r8 => ?_)
      refine lv_iload_n hx hb d_G_lay_33 rfl (lv_at hl 2 rfl) ?_
      refine lv_iload_n hx hb d_G_lay_34 rfl (lv_at hl 3 rfl) ?_
      refine lv_iadd hx hb d_G_lay_35 ?_
      obtain ⟨x9, hx9, h⟩ := hy_bd h
      refine hy_iald B S ha_r8 hx9 d_G_lay_36 ?_
      refine lv_aload_n hx hb d_G_lay_37 rfl (lv_at hl 1 rfl) ?_
      obtain ⟨r10, hr10, h⟩ := hy_bd h
      refine hy_getr B S ha_v1 hr10 rfl (Nat.le_of_ble_eq_true rfl) i_4 (j := 1) tw_536 (fun _ h => h) d_G_lay_38 (fun a_r10 ha_r10 hv_r10 => ?_)
      refine lv_iload_n hx hb d_G_lay_41 rfl (lv_at hl 3 rfl) ?_
      obtain ⟨x11, hx11, h⟩ := hy_bd h
      refine hy_iald B S ha_r10 hx11 d_G_lay_42 ?_
      refine va_mmax hx hb (by rw [B.2.2.1]; exact hl.1.symm) B.2.2.2.1 (B.2.2.2.2.1 _ tw_282) (B.2.2.2.2.1 _ tw_283) (B.2.2.2.2.1 _ tw_21) (B.2.2.2.2.1 _ tw_284) (Nat.le_of_ble_eq_true rfl) (Nat.le_of_ble_eq_true rfl) (by have := S.2.2.2.2.1; omega) (by have := S.2.2.2.2.2; omega) d_G_lay_43 ?_
      obtain ⟨w12, hw12, h⟩ := hy_bd h
      refine hy_iast B S ha_r7 hw12 d_G_lay_46 (fun H locs S hl_w12 => ?_)
      refine lv_iinc (v := (v3 + 1)) (lv' := [(3, .int (v3 + 1)), (0, .ref a_v0), (1, .ref a_v1), (2, .int v2)]) hx hb d_G_lay_47 hl (k := 3) rfl rfl (Nat.le_of_ble_eq_true rfl) rfl (fun ls hl => ?_)
      refine lv_goto (tgt := 2) hx hb d_G_lay_50 (by decide) ?_
      cases h
      exact hy_jump K S (hy_okr (by omega) (hy_okr (by omega) (hy_oki (hy_oki hy_ok0)))) (lv_sub hl [1, 2, 3, 0] rfl) (by subst ha_v0 ha_v1; rfl) (by subst ha_v0 ha_v1; rfl)
theorem nk_G_lay {p : Program} {l : Launch} {e : Env} {s : State} {m : MethodId} {args : Array Value} {below : List Frame} {meth : Method} {c : Code} {G : hy_G} {A : Nat → Prop} {ad0 : Nat → Nat} {w0 : hy_W} {o : hy_O} (hl9 : l.flags = flags0) (hA : hy_A G ad0 w0 s.heap.size = A) (B : hy_B p l e (hy_rm 1 15 w0) s m args below meth c "HyphenPatterns$Reading" b_G_lay 4 none [] G A) (q : hy_P) (nx : hy_N) (hq : nx_G_lay q = some nx) (K : hy_Nx lay_G_lay p l e (hy_rm 1 15 w0) s m args below meth c 4 G A ad0 w0.1.length (hy_Q below G ad0 w0 o args s) o nx) : hy_At lay_G_lay p l e (hy_rm 1 15 w0) s m args below meth c 4 G A ad0 w0.1.length (hy_Q below G ad0 w0 o args s) q := by
  unfold nx_G_lay at hq
  split at hq
  · exact sk_G_lay_0 hl9 hA B _ _ _ _ nx hq K
  · exact sk_G_lay_2 hl9 hA B _ _ _ _ _ nx hq K
  · cases hq
theorem c_G_lay {l : Launch} (hl9 : l.flags = flags0) (G : hy_G) (ad : Nat → Nat) {v0 : Nat} {v1 : Nat} {v2 : Int32} {w : hy_W} {o : hy_O} (h : f_G_lay [.ref v0, .ref v1, .int v2] w = some o) : hy_M l y_G_lay (Cond.code y_G_lay b_G_lay 4 none :: hy_T) 1 15 G ad [.ref v0, .ref v1, .int v2] w o := by
  obtain ⟨n, hn⟩ := hy_fx_iff.mp h
  refine hy_ofW hl9 (by decide +kernel) (Nat.le_of_ble_eq_true rfl) (fun p e s m args below meth c A hA hi B S hok ls hl => ?_)
  exact hy_loop (nk_G_lay hl9 hA B) n _ hn ad s.heap [] 0 0 ls S hok hl
theorem d_G_layEverywhere_0 : decode b_G_layEverywhere 0 = .ok (.aload_n 0, 1) := by decide +kernel
theorem d_G_layEverywhere_1 : decode b_G_layEverywhere 1 = .ok (.getfield 22, 3) := by decide +kernel
theorem d_G_layEverywhere_4 : decode b_G_layEverywhere 4 = .ok (.iconst 2, 1) := by decide +kernel
theorem d_G_layEverywhere_5 : decode b_G_layEverywhere 5 = .ok (.iadd, 1) := by decide +kernel
theorem d_G_layEverywhere_6 : decode b_G_layEverywhere 6 = .ok (.aload_n 1, 1) := by decide +kernel
theorem d_G_layEverywhere_7 : decode b_G_layEverywhere 7 = .ok (.getfield 84, 3) := by decide +kernel
theorem d_G_layEverywhere_10 : decode b_G_layEverywhere 10 = .ok (.arraylength, 1) := by decide +kernel
theorem d_G_layEverywhere_11 : decode b_G_layEverywhere 11 = .ok (.isub, 1) := by decide +kernel
theorem d_G_layEverywhere_12 : decode b_G_layEverywhere 12 = .ok (.istore_n 2, 1) := by decide +kernel
theorem d_G_layEverywhere_13 : decode b_G_layEverywhere 13 = .ok (.iconst 0, 1) := by decide +kernel
theorem d_G_layEverywhere_14 : decode b_G_layEverywhere 14 = .ok (.istore_n 3, 1) := by decide +kernel
theorem d_G_layEverywhere_15 : decode b_G_layEverywhere 15 = .ok (.iload_n 3, 1) := by decide +kernel
theorem d_G_layEverywhere_16 : decode b_G_layEverywhere 16 = .ok (.iload_n 2, 1) := by decide +kernel
theorem d_G_layEverywhere_17 : decode b_G_layEverywhere 17 = .ok (.if_icmp .gt 37, 3) := by decide +kernel
theorem d_G_layEverywhere_20 : decode b_G_layEverywhere 20 = .ok (.aload_n 1, 1) := by decide +kernel
theorem d_G_layEverywhere_21 : decode b_G_layEverywhere 21 = .ok (.aload_n 0, 1) := by decide +kernel
theorem d_G_layEverywhere_22 : decode b_G_layEverywhere 22 = .ok (.getfield 9, 3) := by decide +kernel
theorem d_G_layEverywhere_25 : decode b_G_layEverywhere 25 = .ok (.iload_n 3, 1) := by decide +kernel
theorem d_G_layEverywhere_26 : decode b_G_layEverywhere 26 = .ok (.invokevirtual 87, 3) := by decide +kernel
theorem d_G_layEverywhere_29 : decode b_G_layEverywhere 29 = .ok (.ifCond .eq 19, 3) := by decide +kernel
theorem d_G_layEverywhere_32 : decode b_G_layEverywhere 32 = .ok (.aload_n 0, 1) := by decide +kernel
theorem d_G_layEverywhere_33 : decode b_G_layEverywhere 33 = .ok (.dup, 1) := by decide +kernel
theorem d_G_layEverywhere_34 : decode b_G_layEverywhere 34 = .ok (.getfield 25, 3) := by decide +kernel
theorem d_G_layEverywhere_37 : decode b_G_layEverywhere 37 = .ok (.iconst 1, 1) := by decide +kernel
theorem d_G_layEverywhere_38 : decode b_G_layEverywhere 38 = .ok (.iadd, 1) := by decide +kernel
theorem d_G_layEverywhere_39 : decode b_G_layEverywhere 39 = .ok (.putfield 25, 3) := by decide +kernel
theorem d_G_layEverywhere_42 : decode b_G_layEverywhere 42 = .ok (.aload_n 0, 1) := by decide +kernel
theorem d_G_layEverywhere_43 : decode b_G_layEverywhere 43 = .ok (.aload_n 1, 1) := by decide +kernel
theorem d_G_layEverywhere_44 : decode b_G_layEverywhere 44 = .ok (.iload_n 3, 1) := by decide +kernel
theorem d_G_layEverywhere_45 : decode b_G_layEverywhere 45 = .ok (.invokevirtual 56, 3) := by decide +kernel
theorem d_G_layEverywhere_48 : decode b_G_layEverywhere 48 = .ok (.iinc 3 1, 3) := by decide +kernel
theorem d_G_layEverywhere_51 : decode b_G_layEverywhere 51 = .ok (.goto (-36), 3) := by decide +kernel
theorem d_G_layEverywhere_54 : decode b_G_layEverywhere 54 = .ok (.return_, 1) := by decide +kernel
def lay_G_layEverywhere (pc : Nat) : List Nat := if pc = 0 then [0, 1] else if pc = 15 then [0, 1, 2, 3] else if pc = 48 then [0, 1, 2, 3] else []
noncomputable def sg_G_layEverywhere_0 (v0 : Nat) (v1 : Nat) (w : hy_W) : Option hy_N := (hy_gi w v0 3 3).bind fun x1 => (hy_gr w v1 4 0).bind fun r2 => if r2 ≠ 1 then (hy_ln w 0 r2).bind fun n3 => some (.inl (15, [.ref v0, .ref v1, .int ((x1 + 2) - (nI n3)), .int 0], w)) else none
noncomputable def sg_G_layEverywhere_15 (v0 : Nat) (v1 : Nat) (v2 : Int32) (v3 : Int32) (w : hy_W) : Option hy_N := if v2 < v3 then (some (.inr (.inl none, w))) else ((hy_gr w v0 3 0).bind fun r2 => if hy_ob w v1 4 = true then hy_bi (f_U_standsAt [.ref v1, .ref r2, .int v3] w) fun x5 w3 => if x5 = 0 then (some (.inl (48, [.ref v0, .ref v1, .int v2, .int v3], w3))) else ((hy_gi w3 v0 3 4).bind fun x8 => (hy_pf w3 v0 3 4 (.int (x8 + 1))).bind fun w9 => if hy_ob w9 v0 3 = true then hy_bv (f_G_lay [.ref v0, .ref v1, .int v3] w9) fun w10 => some (.inl (48, [.ref v0, .ref v1, .int v2, .int v3], w10)) else none) else none)
noncomputable def sg_G_layEverywhere_48 (v0 : Nat) (v1 : Nat) (v2 : Int32) (v3 : Int32) (w : hy_W) : Option hy_N := some (.inl (15, [.ref v0, .ref v1, .int v2, .int (v3 + 1)], w))
noncomputable def nx_G_layEverywhere (q : hy_P) : Option hy_N := match q with
  | (0, [.ref v0, .ref v1], w) => sg_G_layEverywhere_0 v0 v1 w
  | (15, [.ref v0, .ref v1, .int v2, .int v3], w) => sg_G_layEverywhere_15 v0 v1 v2 v3 w
  | (48, [.ref v0, .ref v1, .int v2, .int v3], w) => sg_G_layEverywhere_48 v0 v1 v2 v3 w
  | _ => none
noncomputable def f_G_layEverywhere (av : List Value) (w : hy_W) : Option hy_O := hy_fx nx_G_layEverywhere (0, av, w)
set_option maxHeartbeats 4000000 in
set_option maxRecDepth 100000 in
theorem sk_G_layEverywhere_0 {p : Program} {l : Launch} {e : Env} {s : State} {m : MethodId} {args : Array Value} {below : List Frame} {meth : Method} {c : Code} {G : hy_G} {A : Nat → Prop} {ad0 : Nat → Nat} {w0 : hy_W} {o : hy_O} (hl9 : l.flags = flags0) (hA : hy_A G ad0 w0 s.heap.size = A) (B : hy_B p l e (hy_rm 2 38 w0) s m args below meth c "HyphenPatterns$Reading" b_G_layEverywhere 4 none [] G A) (v0 : Nat) (v1 : Nat) (w : hy_W) (nx : hy_N) (h : sg_G_layEverywhere_0 v0 v1 w = some nx) (K : hy_Nx lay_G_layEverywhere p l e (hy_rm 2 38 w0) s m args below meth c 4 G A ad0 w0.1.length (hy_Q below G ad0 w0 o args s) o nx) : hy_At lay_G_layEverywhere p l e (hy_rm 2 38 w0) s m args below meth c 4 G A ad0 w0.1.length (hy_Q below G ad0 w0 o args s) (0, [.ref v0, .ref v1], w) := by
  intro ad H locs cells slots ls S hok hl
  have hx := B.1
  have hb := B.2.1
  dsimp only at S hok
  have hl : lv_has ls 4 [(0, .ref (ad v0)), (1, .ref (ad v1))] := hl
  show W p l e (hy_rm 2 38 w0) s m args below meth c H locs cells slots (hy_Q below G ad0 w0 o args s) (F0 m 0 ls [])
  have hv_v0 : v0 < w.1.length := hok (.ref v0) (List.mem_of_getElem? (i := 0) rfl) v0 rfl
  obtain ⟨a_v0, ha_v0⟩ : ∃ a, ad v0 = a := ⟨_, rfl⟩
  rw [ha_v0] at hl
  have hv_v1 : v1 < w.1.length := hok (.ref v1) (List.mem_of_getElem? (i := 1) rfl) v1 rfl
  obtain ⟨a_v1, ha_v1⟩ : ∃ a, ad v1 = a := ⟨_, rfl⟩
  rw [ha_v1] at hl
  unfold sg_G_layEverywhere_0 at h
  refine lv_aload_n hx hb d_G_layEverywhere_0 rfl (lv_at hl 0 rfl) ?_
  obtain ⟨x1, hx1, h⟩ := hy_bd h
  refine hy_geti B S ha_v0 hx1 rfl (Nat.le_of_ble_eq_true rfl) i_3 (j := 3) tw_84 (fun _ h => h) d_G_layEverywhere_1 ?_
  refine lv_iconst (v := 2) hx hb d_G_layEverywhere_4 (by decide) ?_
  refine lv_iadd hx hb d_G_layEverywhere_5 ?_
  refine lv_aload_n hx hb d_G_layEverywhere_6 rfl (lv_at hl 1 rfl) ?_
  obtain ⟨r2, hr2, h⟩ := hy_bd h
  refine hy_getr B S ha_v1 hr2 rfl (Nat.le_of_ble_eq_true rfl) i_4 (j := 0) tw_533 (fun _ h => h) d_G_layEverywhere_7 (fun a_r2 ha_r2 hv_r2 => ?_)
  obtain ⟨h1n3, h⟩ := hy_if h
  obtain ⟨n3, hn3, h⟩ := hy_bd h
  refine hy_alen B S ha_r2 (t := 0) (Nat.le_of_ble_eq_true rfl) hn3 h1n3 d_G_layEverywhere_10 ?_
  refine lv_isub hx hb d_G_layEverywhere_11 ?_
  refine lv_istore_n (lv' := [(2, .int ((x1 + 2) - (nI n3))), (0, .ref a_v0), (1, .ref a_v1)]) hx hb d_G_layEverywhere_12 rfl hl (Nat.le_of_ble_eq_true rfl) rfl (fun ls hl => ?_)
  refine lv_iconst (v := 0) hx hb d_G_layEverywhere_13 (by decide) ?_
  refine lv_istore_n (lv' := [(3, .int 0), (2, .int ((x1 + 2) - (nI n3))), (0, .ref a_v0), (1, .ref a_v1)]) hx hb d_G_layEverywhere_14 rfl hl (Nat.le_of_ble_eq_true rfl) rfl (fun ls hl => ?_)
  cases h
  exact hy_jump K S (hy_okr (by omega) (hy_okr (by omega) (hy_oki (hy_oki hy_ok0)))) (lv_sub hl [2, 3, 1, 0] rfl) (by subst ha_v0 ha_v1; rfl) (by subst ha_v0 ha_v1; rfl)
set_option maxHeartbeats 4000000 in
set_option maxRecDepth 100000 in
theorem sk_G_layEverywhere_15 {p : Program} {l : Launch} {e : Env} {s : State} {m : MethodId} {args : Array Value} {below : List Frame} {meth : Method} {c : Code} {G : hy_G} {A : Nat → Prop} {ad0 : Nat → Nat} {w0 : hy_W} {o : hy_O} (hl9 : l.flags = flags0) (hA : hy_A G ad0 w0 s.heap.size = A) (B : hy_B p l e (hy_rm 2 38 w0) s m args below meth c "HyphenPatterns$Reading" b_G_layEverywhere 4 none [] G A) (v0 : Nat) (v1 : Nat) (v2 : Int32) (v3 : Int32) (w : hy_W) (nx : hy_N) (h : sg_G_layEverywhere_15 v0 v1 v2 v3 w = some nx) (K : hy_Nx lay_G_layEverywhere p l e (hy_rm 2 38 w0) s m args below meth c 4 G A ad0 w0.1.length (hy_Q below G ad0 w0 o args s) o nx) : hy_At lay_G_layEverywhere p l e (hy_rm 2 38 w0) s m args below meth c 4 G A ad0 w0.1.length (hy_Q below G ad0 w0 o args s) (15, [.ref v0, .ref v1, .int v2, .int v3], w) := by
  intro ad H locs cells slots ls S hok hl
  have hx := B.1
  have hb := B.2.1
  dsimp only at S hok
  have hl : lv_has ls 4 [(0, .ref (ad v0)), (1, .ref (ad v1)), (2, .int v2), (3, .int v3)] := hl
  show W p l e (hy_rm 2 38 w0) s m args below meth c H locs cells slots (hy_Q below G ad0 w0 o args s) (F0 m 15 ls [])
  have hv_v0 : v0 < w.1.length := hok (.ref v0) (List.mem_of_getElem? (i := 0) rfl) v0 rfl
  obtain ⟨a_v0, ha_v0⟩ : ∃ a, ad v0 = a := ⟨_, rfl⟩
  rw [ha_v0] at hl
  have hv_v1 : v1 < w.1.length := hok (.ref v1) (List.mem_of_getElem? (i := 1) rfl) v1 rfl
  obtain ⟨a_v1, ha_v1⟩ : ∃ a, ad v1 = a := ⟨_, rfl⟩
  rw [ha_v1] at hl
  unfold sg_G_layEverywhere_15 at h
  refine lv_iload_n hx hb d_G_layEverywhere_15 rfl (lv_at hl 3 rfl) ?_
  refine lv_iload_n hx hb d_G_layEverywhere_16 rfl (lv_at hl 2 rfl) ?_
  refine lv_icmp_gt (tgt := 54) hx hb d_G_layEverywhere_17 (by decide) (fun c1 => ?_) (fun c1 => ?_)
  · rw [if_pos c1] at h
    cases h
    cases K
    exact hy_vret hA B S d_G_layEverywhere_54
  · rw [if_neg c1] at h
    refine lv_aload_n hx hb d_G_layEverywhere_20 rfl (lv_at hl 1 rfl) ?_
    refine lv_aload_n hx hb d_G_layEverywhere_21 rfl (lv_at hl 0 rfl) ?_
    obtain ⟨r2, hr2, h⟩ := hy_bd h
    refine hy_getr B S ha_v0 hr2 rfl (Nat.le_of_ble_eq_true rfl) i_3 (j := 0) tw_81 (fun _ h => h) d_G_layEverywhere_22 (fun a_r2 ha_r2 hv_r2 => ?_)
    refine lv_iload_n hx hb d_G_layEverywhere_25 rfl (lv_at hl 3 rfl) ?_
    obtain ⟨ob6, h⟩ := hy_if h
    obtain ⟨fs_ob6, hf_ob6, hg_ob6⟩ := hy_ob_spec ob6
    obtain ⟨x5, w3, hq_w3, h⟩ := hy_bi_spec h
    refine hy_calli (hy_runV (rest := []) (As := [.ref a_r2, .int v3]) (r := v1) (b := a_v1) B S rfl ha_v1 (by subst ha_r2; rfl) (c_U_standsAt hl9 G ad hq_w3) (hy_okr (by omega) (hy_okr (by omega) (hy_oki hy_ok0))) tw_275 tw_19 tw_290 tw_273 sl_U_standsAt (by decide) rfl (Nat.le_of_ble_eq_true rfl) (Nat.le_of_ble_eq_true rfl) hf_ob6 hg_ob6 rfl hl.1 (Nat.le_of_ble_eq_true rfl) d_G_layEverywhere_26) (fun ad4 H locs cells slots hag hl_w3 S => ?_)
    have ha_v0 : ad4 v0 = a_v0 := (hag v0 (by omega)).trans ha_v0
    have ha_v1 : ad4 v1 = a_v1 := (hag v1 (by omega)).trans ha_v1
    refine lv_if_eq (tgt := 48) hx hb d_G_layEverywhere_29 (by decide) (fun c7 => ?_) (fun c7 => ?_)
    · rw [if_pos c7] at h
      cases h
      exact hy_jump K S (hy_okr (by omega) (hy_okr (by omega) (hy_oki (hy_oki hy_ok0)))) (lv_sub hl [0, 1, 2, 3] rfl) (by subst ha_v0 ha_v1; rfl) (by subst ha_v0 ha_v1; rfl)
    · rw [if_neg c7] at h
      refine lv_aload_n hx hb d_G_layEverywhere_32 rfl (lv_at hl 0 rfl) ?_
      refine lv_dup hx hb d_G_layEverywhere_33 rfl ?_
      obtain ⟨x8, hx8, h⟩ := hy_bd h
      refine hy_geti B S ha_v0 hx8 rfl (Nat.le_of_ble_eq_true rfl) i_3 (j := 4) tw_85 (fun _ h => h) d_G_layEverywhere_34 ?_
      refine lv_iconst (v := 1) hx hb d_G_layEverywhere_37 (by decide) ?_
      refine lv_iadd hx hb d_G_layEverywhere_38 ?_
      obtain ⟨w9, hw9, h⟩ := hy_bd h
      refine hy_put B S ha_v0 rfl hy_cvi hw9 rfl (Nat.le_of_ble_eq_true rfl) i_3 t_3 t_3_ok n_3 (j := 4) tw_85 (fun _ h => h) rfl rfl rfl d_G_layEverywhere_39 (fun H locs S hl_w9 => ?_)
      refine lv_aload_n hx hb d_G_layEverywhere_42 rfl (lv_at hl 0 rfl) ?_
      refine lv_aload_n hx hb d_G_layEverywhere_43 rfl (lv_at hl 1 rfl) ?_
      refine lv_iload_n hx hb d_G_layEverywhere_44 rfl (lv_at hl 3 rfl) ?_
      obtain ⟨ob13, h⟩ := hy_if h
      obtain ⟨fs_ob13, hf_ob13, hg_ob13⟩ := hy_ob_spec ob13
      obtain ⟨w10, hq_w10, h⟩ := hy_bv_spec h
      refine hy_callv (hy_runV (rest := []) (As := [.ref a_v1, .int v3]) (r := v0) (b := a_v0) B S rfl ha_v0 (by subst ha_v1; rfl) (c_G_lay hl9 G ad4 hq_w10) (hy_okr (by omega) (hy_okr (by omega) (hy_oki hy_ok0))) tw_281 tw_4 tw_278 tw_280 sl_G_lay (by decide) rfl (Nat.le_of_ble_eq_true rfl) (Nat.le_of_ble_eq_true rfl) hf_ob13 hg_ob13 rfl hl.1 (Nat.le_of_ble_eq_true rfl) d_G_layEverywhere_45) (fun ad11 H locs cells slots hag hl_w10 S => ?_)
      have ha_v0 : ad11 v0 = a_v0 := (hag v0 (by omega)).trans ha_v0
      have ha_v1 : ad11 v1 = a_v1 := (hag v1 (by omega)).trans ha_v1
      cases h
      exact hy_jump K S (hy_okr (by omega) (hy_okr (by omega) (hy_oki (hy_oki hy_ok0)))) (lv_sub hl [0, 1, 2, 3] rfl) (by subst ha_v0 ha_v1; rfl) (by subst ha_v0 ha_v1; rfl)
set_option maxHeartbeats 4000000 in
set_option maxRecDepth 100000 in
theorem sk_G_layEverywhere_48 {p : Program} {l : Launch} {e : Env} {s : State} {m : MethodId} {args : Array Value} {below : List Frame} {meth : Method} {c : Code} {G : hy_G} {A : Nat → Prop} {ad0 : Nat → Nat} {w0 : hy_W} {o : hy_O} (hl9 : l.flags = flags0) (hA : hy_A G ad0 w0 s.heap.size = A) (B : hy_B p l e (hy_rm 2 38 w0) s m args below meth c "HyphenPatterns$Reading" b_G_layEverywhere 4 none [] G A) (v0 : Nat) (v1 : Nat) (v2 : Int32) (v3 : Int32) (w : hy_W) (nx : hy_N) (h : sg_G_layEverywhere_48 v0 v1 v2 v3 w = some nx) (K : hy_Nx lay_G_layEverywhere p l e (hy_rm 2 38 w0) s m args below meth c 4 G A ad0 w0.1.length (hy_Q below G ad0 w0 o args s) o nx) : hy_At lay_G_layEverywhere p l e (hy_rm 2 38 w0) s m args below meth c 4 G A ad0 w0.1.length (hy_Q below G ad0 w0 o args s) (48, [.ref v0, .ref v1, .int v2, .int v3], w) := by
  intro ad H locs cells slots ls S hok hl
  have hx := B.1
  have hb := B.2.1
  dsimp only at S hok
  have hl : lv_has ls 4 [(0, .ref (ad v0)), (1, .ref (ad v1)), (2, .int v2), (3, .int v3)] := hl
  show W p l e (hy_rm 2 38 w0) s m args below meth c H locs cells slots (hy_Q below G ad0 w0 o args s) (F0 m 48 ls [])
  have hv_v0 : v0 < w.1.length := hok (.ref v0) (List.mem_of_getElem? (i := 0) rfl) v0 rfl
  obtain ⟨a_v0, ha_v0⟩ : ∃ a, ad v0 = a := ⟨_, rfl⟩
  rw [ha_v0] at hl
  have hv_v1 : v1 < w.1.length := hok (.ref v1) (List.mem_of_getElem? (i := 1) rfl) v1 rfl
  obtain ⟨a_v1, ha_v1⟩ : ∃ a, ad v1 = a := ⟨_, rfl⟩
  rw [ha_v1] at hl
  unfold sg_G_layEverywhere_48 at h
  refine lv_iinc (v := (v3 + 1)) (lv' := [(3, .int (v3 + 1)), (0, .ref a_v0), (1, .ref a_v1), (2, .int v2)]) hx hb d_G_layEverywhere_48 hl (k := 3) rfl rfl (Nat.le_of_ble_eq_true rfl) rfl (fun ls hl => ?_)
  refine lv_goto (tgt := 15) hx hb d_G_layEverywhere_51 (by decide) ?_
  cases h
  exact hy_jump K S (hy_okr (by omega) (hy_okr (by omega) (hy_oki (hy_oki hy_ok0)))) (lv_sub hl [1, 2, 3, 0] rfl) (by subst ha_v0 ha_v1; rfl) (by subst ha_v0 ha_v1; rfl)
theorem nk_G_layEverywhere {p : Program} {l : Launch} {e : Env} {s : State} {m : MethodId} {args : Array Value} {below : List Frame} {meth : Method} {c : Code} {G : hy_G} {A : Nat → Prop} {ad0 : Nat → Nat} {w0 : hy_W} {o : hy_O} (hl9 : l.flags = flags0) (hA : hy_A G ad0 w0 s.heap.size = A) (B : hy_B p l e (hy_rm 2 38 w0) s m args below meth c "HyphenPatterns$Reading" b_G_layEverywhere 4 none [] G A) (q : hy_P) (nx : hy_N) (hq : nx_G_layEverywhere q = some nx) (K : hy_Nx lay_G_layEverywhere p l e (hy_rm 2 38 w0) s m args below meth c 4 G A ad0 w0.1.length (hy_Q below G ad0 w0 o args s) o nx) : hy_At lay_G_layEverywhere p l e (hy_rm 2 38 w0) s m args below meth c 4 G A ad0 w0.1.length (hy_Q below G ad0 w0 o args s) q := by
  unfold nx_G_layEverywhere at hq
  split at hq
  · exact sk_G_layEverywhere_0 hl9 hA B _ _ _ nx hq K
  · exact sk_G_layEverywhere_15 hl9 hA B _ _ _ _ _ nx hq K
  · exact sk_G_layEverywhere_48 hl9 hA B _ _ _ _ _ nx hq K
  · cases hq
theorem c_G_layEverywhere {l : Launch} (hl9 : l.flags = flags0) (G : hy_G) (ad : Nat → Nat) {v0 : Nat} {v1 : Nat} {w : hy_W} {o : hy_O} (h : f_G_layEverywhere [.ref v0, .ref v1] w = some o) : hy_M l y_G_layEverywhere (Cond.code y_G_layEverywhere b_G_layEverywhere 4 none :: hy_T) 2 38 G ad [.ref v0, .ref v1] w o := by
  obtain ⟨n, hn⟩ := hy_fx_iff.mp h
  refine hy_ofW hl9 (by decide +kernel) (Nat.le_of_ble_eq_true rfl) (fun p e s m args below meth c A hA hi B S hok ls hl => ?_)
  exact hy_loop (nk_G_layEverywhere hl9 hA B) n _ hn ad s.heap [] 0 0 ls S hok hl
theorem d_G_weigh_0 : decode b_G_weigh 0 = .ok (.aload_n 0, 1) := by decide +kernel
theorem d_G_weigh_1 : decode b_G_weigh 1 = .ok (.getfield 15, 3) := by decide +kernel
theorem d_G_weigh_4 : decode b_G_weigh 4 = .ok (.iconst 0, 1) := by decide +kernel
theorem d_G_weigh_5 : decode b_G_weigh 5 = .ok (.invokestatic 34, 3) := by decide +kernel
theorem d_G_weigh_8 : decode b_G_weigh 8 = .ok (.aload_n 0, 1) := by decide +kernel
theorem d_G_weigh_9 : decode b_G_weigh 9 = .ok (.iconst 0, 1) := by decide +kernel
theorem d_G_weigh_10 : decode b_G_weigh 10 = .ok (.putfield 25, 3) := by decide +kernel
theorem d_G_weigh_13 : decode b_G_weigh 13 = .ok (.aload_n 1, 1) := by decide +kernel
theorem d_G_weigh_14 : decode b_G_weigh 14 = .ok (.getfield 40, 3) := by decide +kernel
theorem d_G_weigh_17 : decode b_G_weigh 17 = .ok (.aload_n 0, 1) := by decide +kernel
theorem d_G_weigh_18 : decode b_G_weigh 18 = .ok (.getfield 9, 3) := by decide +kernel
theorem d_G_weigh_21 : decode b_G_weigh 21 = .ok (.iconst 1, 1) := by decide +kernel
theorem d_G_weigh_22 : decode b_G_weigh 22 = .ok (.aload_n 0, 1) := by decide +kernel
theorem d_G_weigh_23 : decode b_G_weigh 23 = .ok (.getfield 22, 3) := by decide +kernel
theorem d_G_weigh_26 : decode b_G_weigh 26 = .ok (.invokestatic 44, 3) := by decide +kernel
theorem d_G_weigh_29 : decode b_G_weigh 29 = .ok (.istore_n 2, 1) := by decide +kernel
theorem d_G_weigh_30 : decode b_G_weigh 30 = .ok (.iload_n 2, 1) := by decide +kernel
theorem d_G_weigh_31 : decode b_G_weigh 31 = .ok (.iconst (-1), 1) := by decide +kernel
theorem d_G_weigh_32 : decode b_G_weigh 32 = .ok (.if_icmp .eq 20, 3) := by decide +kernel
theorem d_G_weigh_35 : decode b_G_weigh 35 = .ok (.aload_n 0, 1) := by decide +kernel
theorem d_G_weigh_36 : decode b_G_weigh 36 = .ok (.aload_n 1, 1) := by decide +kernel
theorem d_G_weigh_37 : decode b_G_weigh 37 = .ok (.getfield 40, 3) := by decide +kernel
theorem d_G_weigh_40 : decode b_G_weigh 40 = .ok (.iload_n 2, 1) := by decide +kernel
theorem d_G_weigh_41 : decode b_G_weigh 41 = .ok (.invokevirtual 48, 3) := by decide +kernel
theorem d_G_weigh_44 : decode b_G_weigh 44 = .ok (.checkcast 54, 3) := by decide +kernel
theorem d_G_weigh_47 : decode b_G_weigh 47 = .ok (.iconst 1, 1) := by decide +kernel
theorem d_G_weigh_48 : decode b_G_weigh 48 = .ok (.invokevirtual 56, 3) := by decide +kernel
theorem d_G_weigh_51 : decode b_G_weigh 51 = .ok (.return_, 1) := by decide +kernel
theorem d_G_weigh_52 : decode b_G_weigh 52 = .ok (.iconst 0, 1) := by decide +kernel
theorem d_G_weigh_53 : decode b_G_weigh 53 = .ok (.istore_n 3, 1) := by decide +kernel
theorem d_G_weigh_54 : decode b_G_weigh 54 = .ok (.iload_n 3, 1) := by decide +kernel
theorem d_G_weigh_55 : decode b_G_weigh 55 = .ok (.aload_n 1, 1) := by decide +kernel
theorem d_G_weigh_56 : decode b_G_weigh 56 = .ok (.getfield 60, 3) := by decide +kernel
theorem d_G_weigh_59 : decode b_G_weigh 59 = .ok (.invokevirtual 63, 3) := by decide +kernel
theorem d_G_weigh_62 : decode b_G_weigh 62 = .ok (.if_icmp .ge 24, 3) := by decide +kernel
theorem d_G_weigh_65 : decode b_G_weigh 65 = .ok (.aload_n 0, 1) := by decide +kernel
theorem d_G_weigh_66 : decode b_G_weigh 66 = .ok (.aload_n 1, 1) := by decide +kernel
theorem d_G_weigh_67 : decode b_G_weigh 67 = .ok (.getfield 60, 3) := by decide +kernel
theorem d_G_weigh_70 : decode b_G_weigh 70 = .ok (.iload_n 3, 1) := by decide +kernel
theorem d_G_weigh_71 : decode b_G_weigh 71 = .ok (.invokevirtual 48, 3) := by decide +kernel
theorem d_G_weigh_74 : decode b_G_weigh 74 = .ok (.checkcast 54, 3) := by decide +kernel
theorem d_G_weigh_77 : decode b_G_weigh 77 = .ok (.invokevirtual 67, 3) := by decide +kernel
theorem d_G_weigh_80 : decode b_G_weigh 80 = .ok (.iinc 3 1, 3) := by decide +kernel
theorem d_G_weigh_83 : decode b_G_weigh 83 = .ok (.goto (-29), 3) := by decide +kernel
theorem d_G_weigh_86 : decode b_G_weigh 86 = .ok (.return_, 1) := by decide +kernel
def lay_G_weigh (pc : Nat) : List Nat := if pc = 0 then [0, 1] else if pc = 54 then [0, 1, 3] else []
noncomputable def sg_G_weigh_0 (v0 : Nat) (v1 : Nat) (w : hy_W) : Option hy_N := (hy_gr w v0 3 1).bind fun r1 => hy_bv (f_J_fill [.ref r1, .int 0] w) fun w2 => (hy_pf w2 v0 3 4 (.int 0)).bind fun w5 => (hy_gr w5 v1 1 4).bind fun r6 => (hy_gr w5 v0 3 0).bind fun r7 => (hy_gi w5 v0 3 3).bind fun x8 => hy_bi (f_H_indexOfRule [.ref r6, .ref r7, .int 1, .int x8] w5) fun x11 w9 => if x11 = (-1) then (some (.inl (54, [.ref v0, .ref v1, .int 0], w9))) else ((hy_gr w9 v1 1 4).bind fun r13 => if hy_ob w9 r13 7 = true then hy_br (f_A_get [.ref r13, .int x11] w9) fun r16 w14 => if hy_ob w14 r16 4 = true then if hy_ob w14 v0 3 = true then hy_bv (f_G_lay [.ref v0, .ref r16, .int 1] w14) fun w19 => some (.inr (.inl none, w19)) else none else none else none)
noncomputable def sg_G_weigh_54 (v0 : Nat) (v1 : Nat) (v3 : Int32) (w : hy_W) : Option hy_N := (hy_gr w v1 1 3).bind fun r1 => if hy_ob w r1 7 = true then hy_bi (f_A_size [.ref r1] w) fun x4 w2 => if x4 ≤ v3 then (some (.inr (.inl none, w2))) else ((hy_gr w2 v1 1 3).bind fun r7 => if hy_ob w2 r7 7 = true then hy_br (f_A_get [.ref r7, .int v3] w2) fun r10 w8 => if hy_ob w8 r10 4 = true then if hy_ob w8 v0 3 = true then hy_bv (f_G_layEverywhere [.ref v0, .ref r10] w8) fun w13 => some (.inl (54, [.ref v0, .ref v1, .int (v3 + 1)], w13)) else none else none else none) else none
noncomputable def nx_G_weigh (q : hy_P) : Option hy_N := match q with
  | (0, [.ref v0, .ref v1], w) => sg_G_weigh_0 v0 v1 w
  | (54, [.ref v0, .ref v1, .int v3], w) => sg_G_weigh_54 v0 v1 v3 w
  | _ => none
noncomputable def f_G_weigh (av : List Value) (w : hy_W) : Option hy_O := hy_fx nx_G_weigh (0, av, w)
set_option maxHeartbeats 4000000 in
set_option maxRecDepth 100000 in
theorem sk_G_weigh_0 {p : Program} {l : Launch} {e : Env} {s : State} {m : MethodId} {args : Array Value} {below : List Frame} {meth : Method} {c : Code} {G : hy_G} {A : Nat → Prop} {ad0 : Nat → Nat} {w0 : hy_W} {o : hy_O} (hl9 : l.flags = flags0) (hA : hy_A G ad0 w0 s.heap.size = A) (B : hy_B p l e (hy_rm 4 89 w0) s m args below meth c "HyphenPatterns$Reading" b_G_weigh 4 none [] G A) (v0 : Nat) (v1 : Nat) (w : hy_W) (nx : hy_N) (h : sg_G_weigh_0 v0 v1 w = some nx) (K : hy_Nx lay_G_weigh p l e (hy_rm 4 89 w0) s m args below meth c 4 G A ad0 w0.1.length (hy_Q below G ad0 w0 o args s) o nx) : hy_At lay_G_weigh p l e (hy_rm 4 89 w0) s m args below meth c 4 G A ad0 w0.1.length (hy_Q below G ad0 w0 o args s) (0, [.ref v0, .ref v1], w) := by
  intro ad H locs cells slots ls S hok hl
  have hx := B.1
  have hb := B.2.1
  dsimp only at S hok
  have hl : lv_has ls 4 [(0, .ref (ad v0)), (1, .ref (ad v1))] := hl
  show W p l e (hy_rm 4 89 w0) s m args below meth c H locs cells slots (hy_Q below G ad0 w0 o args s) (F0 m 0 ls [])
  have hv_v0 : v0 < w.1.length := hok (.ref v0) (List.mem_of_getElem? (i := 0) rfl) v0 rfl
  obtain ⟨a_v0, ha_v0⟩ : ∃ a, ad v0 = a := ⟨_, rfl⟩
  rw [ha_v0] at hl
  have hv_v1 : v1 < w.1.length := hok (.ref v1) (List.mem_of_getElem? (i := 1) rfl) v1 rfl
  obtain ⟨a_v1, ha_v1⟩ : ∃ a, ad v1 = a := ⟨_, rfl⟩
  rw [ha_v1] at hl
  unfold sg_G_weigh_0 at h
  refine lv_aload_n hx hb d_G_weigh_0 rfl (lv_at hl 0 rfl) ?_
  obtain ⟨r1, hr1, h⟩ := hy_bd h
  refine hy_getr B S ha_v0 hr1 rfl (Nat.le_of_ble_eq_true rfl) i_3 (j := 1) tw_82 (fun _ h => h) d_G_weigh_1 (fun a_r1 ha_r1 hv_r1 => ?_)
  refine lv_iconst (v := 0) hx hb d_G_weigh_4 (by decide) ?_
  obtain ⟨w2, hq_w2, h⟩ := hy_bv_spec h
  refine hy_callv (hy_runS (rest := []) (As := [.ref a_r1, .int 0]) B S (by subst ha_r1; rfl) (c_J_fill hl9 G ad hq_w2) (hy_okr (by omega) (hy_oki hy_ok0)) tw_253 tw_20 tw_251 tw_252 (by decide) rfl (Nat.le_of_ble_eq_true rfl) (Nat.le_of_ble_eq_true rfl) hl.1 (Nat.le_of_ble_eq_true rfl) d_G_weigh_5) (fun ad3 H locs cells slots hag hl_w2 S => ?_)
  have ha_v0 : ad3 v0 = a_v0 := (hag v0 (by omega)).trans ha_v0
  have ha_v1 : ad3 v1 = a_v1 := (hag v1 (by omega)).trans ha_v1
  refine lv_aload_n hx hb d_G_weigh_8 rfl (lv_at hl 0 rfl) ?_
  refine lv_iconst (v := 0) hx hb d_G_weigh_9 (by decide) ?_
  obtain ⟨w5, hw5, h⟩ := hy_bd h
  refine hy_put B S ha_v0 rfl hy_cvi hw5 rfl (Nat.le_of_ble_eq_true rfl) i_3 t_3 t_3_ok n_3 (j := 4) tw_85 (fun _ h => h) rfl rfl rfl d_G_weigh_10 (fun H locs S hl_w5 => ?_)
  refine lv_aload_n hx hb d_G_weigh_13 rfl (lv_at hl 1 rfl) ?_
  obtain ⟨r6, hr6, h⟩ := hy_bd h
  refine hy_getr B S ha_v1 hr6 rfl (Nat.le_of_ble_eq_true rfl) i_1 (j := 4) tw_136 (fun _ h => h) d_G_weigh_14 (fun a_r6 ha_r6 hv_r6 => ?_)
  refine lv_aload_n hx hb d_G_weigh_17 rfl (lv_at hl 0 rfl) ?_
  obtain ⟨r7, hr7, h⟩ := hy_bd h
  refine hy_getr B S ha_v0 hr7 rfl (Nat.le_of_ble_eq_true rfl) i_3 (j := 0) tw_81 (fun _ h => h) d_G_weigh_18 (fun a_r7 ha_r7 hv_r7 => ?_)
  refine lv_iconst (v := 1) hx hb d_G_weigh_21 (by decide) ?_
  refine lv_aload_n hx hb d_G_weigh_22 rfl (lv_at hl 0 rfl) ?_
  obtain ⟨x8, hx8, h⟩ := hy_bd h
  refine hy_geti B S ha_v0 hx8 rfl (Nat.le_of_ble_eq_true rfl) i_3 (j := 3) tw_84 (fun _ h => h) d_G_weigh_23 ?_
  obtain ⟨x11, w9, hq_w9, h⟩ := hy_bi_spec h
  refine hy_calli (hy_runSN (host := "HyphenPatterns") (rest := []) (As := [.ref a_r6, .ref a_r7, .int 1, .int x8]) B S (by subst ha_r6 ha_r7; rfl) (c_H_indexOfRule hl9 G ad3 hq_w9) (hy_okr (by omega) (hy_okr (by omega) (hy_oki (hy_oki hy_ok0)))) tw_256 tw_1 (by decide +kernel) tw_255 (by decide) rfl (Nat.le_of_ble_eq_true rfl) (Nat.le_of_ble_eq_true rfl) hl.1 (Nat.le_of_ble_eq_true rfl) d_G_weigh_26) (fun ad10 H locs cells slots hag hl_w9 S => ?_)
  have ha_v0 : ad10 v0 = a_v0 := (hag v0 (by omega)).trans ha_v0
  have ha_v1 : ad10 v1 = a_v1 := (hag v1 (by omega)).trans ha_v1
  refine lv_istore_n (lv' := [(2, .int x11), (0, .ref a_v0), (1, .ref a_v1)]) hx hb d_G_weigh_29 rfl hl (Nat.le_of_ble_eq_true rfl) rfl (fun ls hl => ?_)
  refine lv_iload_n hx hb d_G_weigh_30 rfl (lv_at hl 0 rfl) ?_
  refine lv_iconst (v := (-1)) hx hb d_G_weigh_31 (by decide) ?_
  refine lv_icmp_eq (tgt := 52) hx hb d_G_weigh_32 (by decide) (fun c12 => ?_) (fun c12 => ?_)
  · rw [if_pos c12] at h
    refine lv_iconst (v := 0) hx hb d_G_weigh_52 (by decide) ?_
    refine lv_istore_n (lv' := [(3, .int 0), (2, .int x11), (0, .ref a_v0), (1, .ref a_v1)]) hx hb d_G_weigh_53 rfl hl (Nat.le_of_ble_eq_true rfl) rfl (fun ls hl => ?_)
    cases h
    exact hy_jump K S (hy_okr (by omega) (hy_okr (by omega) (hy_oki hy_ok0))) (lv_sub hl [2, 3, 0] rfl) (by subst ha_v0 ha_v1; rfl) (by subst ha_v0 ha_v1; rfl)
  · rw [if_neg c12] at h
    refine lv_aload_n hx hb d_G_weigh_35 rfl (lv_at hl 1 rfl) ?_
    refine lv_aload_n hx hb d_G_weigh_36 rfl (lv_at hl 2 rfl) ?_
    obtain ⟨r13, hr13, h⟩ := hy_bd h
    refine hy_getr B S ha_v1 hr13 rfl (Nat.le_of_ble_eq_true rfl) i_1 (j := 4) tw_136 (fun _ h => h) d_G_weigh_37 (fun a_r13 ha_r13 hv_r13 => ?_)
    refine lv_iload_n hx hb d_G_weigh_40 rfl (lv_at hl 0 rfl) ?_
    obtain ⟨ob17, h⟩ := hy_if h
    obtain ⟨fs_ob17, hf_ob17, hg_ob17⟩ := hy_ob_spec ob17
    obtain ⟨r16, w14, hq_w14, h⟩ := hy_br_spec h
    refine hy_callr (hy_runV (rest := [.ref a_v0]) (As := [.int x11]) (r := r13) (b := a_r13) B S rfl ha_r13 (by rfl) (c_A_get hl9 G ad10 hq_w14) (hy_okr (by omega) (hy_oki hy_ok0)) tw_260 tw_8 tw_276 tw_258 sl_A_get (by decide) rfl (Nat.le_of_ble_eq_true rfl) (Nat.le_of_ble_eq_true rfl) hf_ob17 hg_ob17 rfl hl.1 (Nat.le_of_ble_eq_true rfl) d_G_weigh_41) (fun ad15 H locs cells slots hag hl_w14 S a_r16 ha_r16 hv_r16 => ?_)
    have ha_v0 : ad15 v0 = a_v0 := (hag v0 (by omega)).trans ha_v0
    have ha_v1 : ad15 v1 = a_v1 := (hag v1 (by omega)).trans ha_v1
    obtain ⟨ob18, h⟩ := hy_if h
    obtain ⟨fs_ob18, hf_ob18, hg_ob18⟩ := hy_ob_spec ob18
    refine hy_cast B S ha_r16 hf_ob18 hg_ob18 rfl tw_277 d_G_weigh_44 ?_
    refine lv_iconst (v := 1) hx hb d_G_weigh_47 (by decide) ?_
    obtain ⟨ob22, h⟩ := hy_if h
    obtain ⟨fs_ob22, hf_ob22, hg_ob22⟩ := hy_ob_spec ob22
    obtain ⟨w19, hq_w19, h⟩ := hy_bv_spec h
    refine hy_callv (hy_runV (rest := []) (As := [.ref a_r16, .int 1]) (r := v0) (b := a_v0) B S rfl ha_v0 (by subst ha_r16; rfl) (c_G_lay hl9 G ad15 hq_w19) (hy_okr (by omega) (hy_okr (by omega) (hy_oki hy_ok0))) tw_281 tw_4 tw_278 tw_280 sl_G_lay (by decide) rfl (Nat.le_of_ble_eq_true rfl) (Nat.le_of_ble_eq_true rfl) hf_ob22 hg_ob22 rfl hl.1 (Nat.le_of_ble_eq_true rfl) d_G_weigh_48) (fun ad20 H locs cells slots hag hl_w19 S => ?_)
    have ha_v0 : ad20 v0 = a_v0 := (hag v0 (by omega)).trans ha_v0
    have ha_v1 : ad20 v1 = a_v1 := (hag v1 (by omega)).trans ha_v1
    cases h
    cases K
    exact hy_vret hA B S d_G_weigh_51
set_option maxHeartbeats 4000000 in
set_option maxRecDepth 100000 in
theorem sk_G_weigh_54 {p : Program} {l : Launch} {e : Env} {s : State} {m : MethodId} {args : Array Value} {below : List Frame} {meth : Method} {c : Code} {G : hy_G} {A : Nat → Prop} {ad0 : Nat → Nat} {w0 : hy_W} {o : hy_O} (hl9 : l.flags = flags0) (hA : hy_A G ad0 w0 s.heap.size = A) (B : hy_B p l e (hy_rm 4 89 w0) s m args below meth c "HyphenPatterns$Reading" b_G_weigh 4 none [] G A) (v0 : Nat) (v1 : Nat) (v3 : Int32) (w : hy_W) (nx : hy_N) (h : sg_G_weigh_54 v0 v1 v3 w = some nx) (K : hy_Nx lay_G_weigh p l e (hy_rm 4 89 w0) s m args below meth c 4 G A ad0 w0.1.length (hy_Q below G ad0 w0 o args s) o nx) : hy_At lay_G_weigh p l e (hy_rm 4 89 w0) s m args below meth c 4 G A ad0 w0.1.length (hy_Q below G ad0 w0 o args s) (54, [.ref v0, .ref v1, .int v3], w) := by
  intro ad H locs cells slots ls S hok hl
  have hx := B.1
  have hb := B.2.1
  dsimp only at S hok
  have hl : lv_has ls 4 [(0, .ref (ad v0)), (1, .ref (ad v1)), (3, .int v3)] := hl
  show W p l e (hy_rm 4 89 w0) s m args below meth c H locs cells slots (hy_Q below G ad0 w0 o args s) (F0 m 54 ls [])
  have hv_v0 : v0 < w.1.length := hok (.ref v0) (List.mem_of_getElem? (i := 0) rfl) v0 rfl
  obtain ⟨a_v0, ha_v0⟩ : ∃ a, ad v0 = a := ⟨_, rfl⟩
  rw [ha_v0] at hl
  have hv_v1 : v1 < w.1.length := hok (.ref v1) (List.mem_of_getElem? (i := 1) rfl) v1 rfl
  obtain ⟨a_v1, ha_v1⟩ : ∃ a, ad v1 = a := ⟨_, rfl⟩
  rw [ha_v1] at hl
  unfold sg_G_weigh_54 at h
  refine lv_iload_n hx hb d_G_weigh_54 rfl (lv_at hl 2 rfl) ?_
  refine lv_aload_n hx hb d_G_weigh_55 rfl (lv_at hl 1 rfl) ?_
  obtain ⟨r1, hr1, h⟩ := hy_bd h
  refine hy_getr B S ha_v1 hr1 rfl (Nat.le_of_ble_eq_true rfl) i_1 (j := 3) tw_133 (fun _ h => h) d_G_weigh_56 (fun a_r1 ha_r1 hv_r1 => ?_)
  obtain ⟨ob5, h⟩ := hy_if h
  obtain ⟨fs_ob5, hf_ob5, hg_ob5⟩ := hy_ob_spec ob5
  obtain ⟨x4, w2, hq_w2, h⟩ := hy_bi_spec h
  refine hy_calli (hy_runV (rest := [.int v3]) (As := []) (r := r1) (b := a_r1) B S rfl ha_r1 (by rfl) (c_A_size hl9 G ad hq_w2) (hy_okr (by omega) hy_ok0) tw_197 tw_8 tw_285 tw_195 sl_A_size (by decide) rfl (Nat.le_of_ble_eq_true rfl) (Nat.le_of_ble_eq_true rfl) hf_ob5 hg_ob5 rfl hl.1 (Nat.le_of_ble_eq_true rfl) d_G_weigh_59) (fun ad3 H locs cells slots hag hl_w2 S => ?_)
  have ha_v0 : ad3 v0 = a_v0 := (hag v0 (by omega)).trans ha_v0
  have ha_v1 : ad3 v1 = a_v1 := (hag v1 (by omega)).trans ha_v1
  refine lv_icmp_ge (tgt := 86) hx hb d_G_weigh_62 (by decide) (fun c6 => ?_) (fun c6 => ?_)
  · rw [if_pos c6] at h
    cases h
    cases K
    exact hy_vret hA B S d_G_weigh_86
  · rw [if_neg c6] at h
    refine lv_aload_n hx hb d_G_weigh_65 rfl (lv_at hl 0 rfl) ?_
    refine lv_aload_n hx hb d_G_weigh_66 rfl (lv_at hl 1 rfl) ?_
    obtain ⟨r7, hr7, h⟩ := hy_bd h
    refine hy_getr B S ha_v1 hr7 rfl (Nat.le_of_ble_eq_true rfl) i_1 (j := 3) tw_133 (fun _ h => h) d_G_weigh_67 (fun a_r7 ha_r7 hv_r7 => ?_)
    refine lv_iload_n hx hb d_G_weigh_70 rfl (lv_at hl 2 rfl) ?_
    obtain ⟨ob11, h⟩ := hy_if h
    obtain ⟨fs_ob11, hf_ob11, hg_ob11⟩ := hy_ob_spec ob11
    obtain ⟨r10, w8, hq_w8, h⟩ := hy_br_spec h
    refine hy_callr (hy_runV (rest := [.ref a_v0]) (As := [.int v3]) (r := r7) (b := a_r7) B S rfl ha_r7 (by rfl) (c_A_get hl9 G ad3 hq_w8) (hy_okr (by omega) (hy_oki hy_ok0)) tw_260 tw_8 tw_276 tw_258 sl_A_get (by decide) rfl (Nat.le_of_ble_eq_true rfl) (Nat.le_of_ble_eq_true rfl) hf_ob11 hg_ob11 rfl hl.1 (Nat.le_of_ble_eq_true rfl) d_G_weigh_71) (fun ad9 H locs cells slots hag hl_w8 S a_r10 ha_r10 hv_r10 => ?_)
    have ha_v0 : ad9 v0 = a_v0 := (hag v0 (by omega)).trans ha_v0
    have ha_v1 : ad9 v1 = a_v1 := (hag v1 (by omega)).trans ha_v1
    obtain ⟨ob12, h⟩ := hy_if h
    obtain ⟨fs_ob12, hf_ob12, hg_ob12⟩ := hy_ob_spec ob12
    refine hy_cast B S ha_r10 hf_ob12 hg_ob12 rfl tw_277 d_G_weigh_74 ?_
    obtain ⟨ob16, h⟩ := hy_if h
    obtain ⟨fs_ob16, hf_ob16, hg_ob16⟩ := hy_ob_spec ob16
    obtain ⟨w13, hq_w13, h⟩ := hy_bv_spec h
    refine hy_callv (hy_runV (rest := []) (As := [.ref a_r10]) (r := v0) (b := a_v0) B S rfl ha_v0 (by subst ha_r10; rfl) (c_G_layEverywhere hl9 G ad9 hq_w13) (hy_okr (by omega) (hy_okr (by omega) hy_ok0)) tw_289 tw_4 tw_286 tw_288 sl_G_layEverywhere (by decide) rfl (Nat.le_of_ble_eq_true rfl) (Nat.le_of_ble_eq_true rfl) hf_ob16 hg_ob16 rfl hl.1 (Nat.le_of_ble_eq_true rfl) d_G_weigh_77) (fun ad14 H locs cells slots hag hl_w13 S => ?_)
    have ha_v0 : ad14 v0 = a_v0 := (hag v0 (by omega)).trans ha_v0
    have ha_v1 : ad14 v1 = a_v1 := (hag v1 (by omega)).trans ha_v1
    refine lv_iinc (v := (v3 + 1)) (lv' := [(3, .int (v3 + 1)), (0, .ref a_v0), (1, .ref a_v1)]) hx hb d_G_weigh_80 hl (k := 2) rfl rfl (Nat.le_of_ble_eq_true rfl) rfl (fun ls hl => ?_)
    refine lv_goto (tgt := 54) hx hb d_G_weigh_83 (by decide) ?_
    cases h
    exact hy_jump K S (hy_okr (by omega) (hy_okr (by omega) (hy_oki hy_ok0))) (lv_sub hl [1, 2, 0] rfl) (by subst ha_v0 ha_v1; rfl) (by subst ha_v0 ha_v1; rfl)
theorem nk_G_weigh {p : Program} {l : Launch} {e : Env} {s : State} {m : MethodId} {args : Array Value} {below : List Frame} {meth : Method} {c : Code} {G : hy_G} {A : Nat → Prop} {ad0 : Nat → Nat} {w0 : hy_W} {o : hy_O} (hl9 : l.flags = flags0) (hA : hy_A G ad0 w0 s.heap.size = A) (B : hy_B p l e (hy_rm 4 89 w0) s m args below meth c "HyphenPatterns$Reading" b_G_weigh 4 none [] G A) (q : hy_P) (nx : hy_N) (hq : nx_G_weigh q = some nx) (K : hy_Nx lay_G_weigh p l e (hy_rm 4 89 w0) s m args below meth c 4 G A ad0 w0.1.length (hy_Q below G ad0 w0 o args s) o nx) : hy_At lay_G_weigh p l e (hy_rm 4 89 w0) s m args below meth c 4 G A ad0 w0.1.length (hy_Q below G ad0 w0 o args s) q := by
  unfold nx_G_weigh at hq
  split at hq
  · exact sk_G_weigh_0 hl9 hA B _ _ _ nx hq K
  · exact sk_G_weigh_54 hl9 hA B _ _ _ _ nx hq K
  · cases hq
theorem c_G_weigh {l : Launch} (hl9 : l.flags = flags0) (G : hy_G) (ad : Nat → Nat) {v0 : Nat} {v1 : Nat} {w : hy_W} {o : hy_O} (h : f_G_weigh [.ref v0, .ref v1] w = some o) : hy_M l y_G_weigh (Cond.code y_G_weigh b_G_weigh 4 none :: hy_T) 4 89 G ad [.ref v0, .ref v1] w o := by
  obtain ⟨n, hn⟩ := hy_fx_iff.mp h
  refine hy_ofW hl9 (by decide +kernel) (Nat.le_of_ble_eq_true rfl) (fun p e s m args below meth c A hA hi B S hok ls hl => ?_)
  exact hy_loop (nk_G_weigh hl9 hA B) n _ hn ad s.heap [] 0 0 ls S hok hl
theorem d_H_readWord_0 : decode b_H_readWord 0 = .ok (.aload_n 0, 1) := by decide +kernel
theorem d_H_readWord_1 : decode b_H_readWord 1 = .ok (.getfield 37, 3) := by decide +kernel
theorem d_H_readWord_4 : decode b_H_readWord 4 = .ok (.aload_n 0, 1) := by decide +kernel
theorem d_H_readWord_5 : decode b_H_readWord 5 = .ok (.getfield 24, 3) := by decide +kernel
theorem d_H_readWord_8 : decode b_H_readWord 8 = .ok (.getfield 200, 3) := by decide +kernel
theorem d_H_readWord_11 : decode b_H_readWord 11 = .ok (.iload_n 1, 1) := by decide +kernel
theorem d_H_readWord_12 : decode b_H_readWord 12 = .ok (.aload_n 0, 1) := by decide +kernel
theorem d_H_readWord_13 : decode b_H_readWord 13 = .ok (.iload_n 1, 1) := by decide +kernel
theorem d_H_readWord_14 : decode b_H_readWord 14 = .ok (.invokevirtual 154, 3) := by decide +kernel
theorem d_H_readWord_17 : decode b_H_readWord 17 = .ok (.aload_n 0, 1) := by decide +kernel
theorem d_H_readWord_18 : decode b_H_readWord 18 = .ok (.getfield 11, 3) := by decide +kernel
theorem d_H_readWord_21 : decode b_H_readWord 21 = .ok (.aload_n 0, 1) := by decide +kernel
theorem d_H_readWord_22 : decode b_H_readWord 22 = .ok (.getfield 41, 3) := by decide +kernel
theorem d_H_readWord_25 : decode b_H_readWord 25 = .ok (.aaload, 1) := by decide +kernel
theorem d_H_readWord_26 : decode b_H_readWord 26 = .ok (.invokevirtual 209, 3) := by decide +kernel
theorem d_H_readWord_29 : decode b_H_readWord 29 = .ok (.aload_n 0, 1) := by decide +kernel
theorem d_H_readWord_30 : decode b_H_readWord 30 = .ok (.getfield 37, 3) := by decide +kernel
theorem d_H_readWord_33 : decode b_H_readWord 33 = .ok (.aload_n 0, 1) := by decide +kernel
theorem d_H_readWord_34 : decode b_H_readWord 34 = .ok (.getfield 11, 3) := by decide +kernel
theorem d_H_readWord_37 : decode b_H_readWord 37 = .ok (.aload_n 0, 1) := by decide +kernel
theorem d_H_readWord_38 : decode b_H_readWord 38 = .ok (.getfield 41, 3) := by decide +kernel
theorem d_H_readWord_41 : decode b_H_readWord 41 = .ok (.aaload, 1) := by decide +kernel
theorem d_H_readWord_42 : decode b_H_readWord 42 = .ok (.invokevirtual 213, 3) := by decide +kernel
theorem d_H_readWord_45 : decode b_H_readWord 45 = .ok (.return_, 1) := by decide +kernel
def lay_H_readWord (pc : Nat) : List Nat := if pc = 0 then [0, 1] else []
noncomputable def sg_H_readWord_0 (v0 : Nat) (v1 : Int32) (w : hy_W) : Option hy_N := (hy_gr w v0 5 4).bind fun r1 => (hy_gr w v0 5 2).bind fun r2 => (hy_gr w r2 2 0).bind fun r3 => if hy_ob w v0 5 = true then hy_bi (f_H_wordEnd [.ref v0, .int v1] w) fun x6 w4 => (hy_gr w4 v0 5 0).bind fun r8 => (hy_gi w4 v0 5 5).bind fun x9 => (hy_ar w4 2 r8 x9).bind fun r10 => if hy_ob w4 r1 3 = true then hy_bv (f_G_spell [.ref r1, .ref r3, .int v1, .int x6, .ref r10] w4) fun w11 => (hy_gr w11 v0 5 4).bind fun r15 => (hy_gr w11 v0 5 0).bind fun r16 => (hy_gi w11 v0 5 5).bind fun x17 => (hy_ar w11 2 r16 x17).bind fun r18 => if hy_ob w11 r15 3 = true then hy_bv (f_G_weigh [.ref r15, .ref r18] w11) fun w19 => some (.inr (.inl none, w19)) else none else none else none
noncomputable def nx_H_readWord (q : hy_P) : Option hy_N := match q with
  | (0, [.ref v0, .int v1], w) => sg_H_readWord_0 v0 v1 w
  | _ => none
noncomputable def f_H_readWord (av : List Value) (w : hy_W) : Option hy_O := hy_fx nx_H_readWord (0, av, w)
set_option maxHeartbeats 4000000 in
set_option maxRecDepth 100000 in
theorem sk_H_readWord_0 {p : Program} {l : Launch} {e : Env} {s : State} {m : MethodId} {args : Array Value} {below : List Frame} {meth : Method} {c : Code} {G : hy_G} {A : Nat → Prop} {ad0 : Nat → Nat} {w0 : hy_W} {o : hy_O} (hl9 : l.flags = flags0) (hA : hy_A G ad0 w0 s.heap.size = A) (B : hy_B p l e (hy_rm 5 112 w0) s m args below meth c "HyphenPatterns" b_H_readWord 2 none [] G A) (v0 : Nat) (v1 : Int32) (w : hy_W) (nx : hy_N) (h : sg_H_readWord_0 v0 v1 w = some nx) (K : hy_Nx lay_H_readWord p l e (hy_rm 5 112 w0) s m args below meth c 2 G A ad0 w0.1.length (hy_Q below G ad0 w0 o args s) o nx) : hy_At lay_H_readWord p l e (hy_rm 5 112 w0) s m args below meth c 2 G A ad0 w0.1.length (hy_Q below G ad0 w0 o args s) (0, [.ref v0, .int v1], w) := by
  intro ad H locs cells slots ls S hok hl
  have hx := B.1
  have hb := B.2.1
  dsimp only at S hok
  have hl : lv_has ls 2 [(0, .ref (ad v0)), (1, .int v1)] := hl
  show W p l e (hy_rm 5 112 w0) s m args below meth c H locs cells slots (hy_Q below G ad0 w0 o args s) (F0 m 0 ls [])
  have hv_v0 : v0 < w.1.length := hok (.ref v0) (List.mem_of_getElem? (i := 0) rfl) v0 rfl
  obtain ⟨a_v0, ha_v0⟩ : ∃ a, ad v0 = a := ⟨_, rfl⟩
  rw [ha_v0] at hl
  unfold sg_H_readWord_0 at h
  refine lv_aload_n hx hb d_H_readWord_0 rfl (lv_at hl 0 rfl) ?_
  obtain ⟨r1, hr1, h⟩ := hy_bd h
  refine hy_getr B S ha_v0 hr1 rfl (Nat.le_of_ble_eq_true rfl) i_5 (j := 4) tw_167 (fun _ h => h) d_H_readWord_1 (fun a_r1 ha_r1 hv_r1 => ?_)
  refine lv_aload_n hx hb d_H_readWord_4 rfl (lv_at hl 0 rfl) ?_
  obtain ⟨r2, hr2, h⟩ := hy_bd h
  refine hy_getr B S ha_v0 hr2 rfl (Nat.le_of_ble_eq_true rfl) i_5 (j := 2) tw_165 (fun _ h => h) d_H_readWord_5 (fun a_r2 ha_r2 hv_r2 => ?_)
  obtain ⟨r3, hr3, h⟩ := hy_bd h
  refine hy_getr B S ha_r2 hr3 rfl (Nat.le_of_ble_eq_true rfl) i_2 (j := 0) tw_41 (fun _ h => h) d_H_readWord_8 (fun a_r3 ha_r3 hv_r3 => ?_)
  refine lv_iload_n hx hb d_H_readWord_11 rfl (lv_at hl 1 rfl) ?_
  refine lv_aload_n hx hb d_H_readWord_12 rfl (lv_at hl 0 rfl) ?_
  refine lv_iload_n hx hb d_H_readWord_13 rfl (lv_at hl 1 rfl) ?_
  obtain ⟨ob7, h⟩ := hy_if h
  obtain ⟨fs_ob7, hf_ob7, hg_ob7⟩ := hy_ob_spec ob7
  obtain ⟨x6, w4, hq_w4, h⟩ := hy_bi_spec h
  refine hy_calli (hy_runV (rest := [.int v1, .ref a_r3, .ref a_r1]) (As := [.int v1]) (r := v0) (b := a_v0) B S rfl ha_v0 (by rfl) (c_H_wordEnd hl9 G ad hq_w4) (hy_okr (by omega) (hy_oki hy_ok0)) tw_225 tw_1 tw_222 tw_224 sl_H_wordEnd (by decide) rfl (Nat.le_of_ble_eq_true rfl) (Nat.le_of_ble_eq_true rfl) hf_ob7 hg_ob7 rfl hl.1 (Nat.le_of_ble_eq_true rfl) d_H_readWord_14) (fun ad5 H locs cells slots hag hl_w4 S => ?_)
  have ha_v0 : ad5 v0 = a_v0 := (hag v0 (by omega)).trans ha_v0
  have ha_r3 : ad5 r3 = a_r3 := (hag r3 (by omega)).trans ha_r3
  have ha_r1 : ad5 r1 = a_r1 := (hag r1 (by omega)).trans ha_r1
  refine lv_aload_n hx hb d_H_readWord_17 rfl (lv_at hl 0 rfl) ?_
  obtain ⟨r8, hr8, h⟩ := hy_bd h
  refine hy_getr B S ha_v0 hr8 rfl (Nat.le_of_ble_eq_true rfl) i_5 (j := 0) tw_163 (fun _ h => h) d_H_readWord_18 (fun a_r8 ha_r8 hv_r8 => ?_)
  refine lv_aload_n hx hb d_H_readWord_21 rfl (lv_at hl 0 rfl) ?_
  obtain ⟨x9, hx9, h⟩ := hy_bd h
  refine hy_geti B S ha_v0 hx9 rfl (Nat.le_of_ble_eq_true rfl) i_5 (j := 5) tw_168 (fun _ h => h) d_H_readWord_22 ?_
  obtain ⟨r10, hr10, h⟩ := hy_bd h
  refine hy_aald B S ha_r8 (Or.inl rfl) hr10 d_H_readWord_25 (fun a_r10 ha_r10 hv_r10 => ?_)
  obtain ⟨ob14, h⟩ := hy_if h
  obtain ⟨fs_ob14, hf_ob14, hg_ob14⟩ := hy_ob_spec ob14
  obtain ⟨w11, hq_w11, h⟩ := hy_bv_spec h
  refine hy_callv (hy_runV (rest := []) (As := [.ref a_r3, .int v1, .int x6, .ref a_r10]) (r := r1) (b := a_r1) B S rfl ha_r1 (by subst ha_r3 ha_r10; rfl) (c_G_spell hl9 G ad5 hq_w11) (hy_okr (by omega) (hy_okr (by omega) (hy_oki (hy_oki (hy_okr (by omega) hy_ok0))))) tw_245 tw_4 tw_242 tw_243 sl_G_spell (by decide) rfl (Nat.le_of_ble_eq_true rfl) (Nat.le_of_ble_eq_true rfl) hf_ob14 hg_ob14 rfl hl.1 (Nat.le_of_ble_eq_true rfl) d_H_readWord_26) (fun ad12 H locs cells slots hag hl_w11 S => ?_)
  have ha_v0 : ad12 v0 = a_v0 := (hag v0 (by omega)).trans ha_v0
  refine lv_aload_n hx hb d_H_readWord_29 rfl (lv_at hl 0 rfl) ?_
  obtain ⟨r15, hr15, h⟩ := hy_bd h
  refine hy_getr B S ha_v0 hr15 rfl (Nat.le_of_ble_eq_true rfl) i_5 (j := 4) tw_167 (fun _ h => h) d_H_readWord_30 (fun a_r15 ha_r15 hv_r15 => ?_)
  refine lv_aload_n hx hb d_H_readWord_33 rfl (lv_at hl 0 rfl) ?_
  obtain ⟨r16, hr16, h⟩ := hy_bd h
  refine hy_getr B S ha_v0 hr16 rfl (Nat.le_of_ble_eq_true rfl) i_5 (j := 0) tw_163 (fun _ h => h) d_H_readWord_34 (fun a_r16 ha_r16 hv_r16 => ?_)
  refine lv_aload_n hx hb d_H_readWord_37 rfl (lv_at hl 0 rfl) ?_
  obtain ⟨x17, hx17, h⟩ := hy_bd h
  refine hy_geti B S ha_v0 hx17 rfl (Nat.le_of_ble_eq_true rfl) i_5 (j := 5) tw_168 (fun _ h => h) d_H_readWord_38 ?_
  obtain ⟨r18, hr18, h⟩ := hy_bd h
  refine hy_aald B S ha_r16 (Or.inl rfl) hr18 d_H_readWord_41 (fun a_r18 ha_r18 hv_r18 => ?_)
  obtain ⟨ob22, h⟩ := hy_if h
  obtain ⟨fs_ob22, hf_ob22, hg_ob22⟩ := hy_ob_spec ob22
  obtain ⟨w19, hq_w19, h⟩ := hy_bv_spec h
  refine hy_callv (hy_runV (rest := []) (As := [.ref a_r18]) (r := r15) (b := a_r15) B S rfl ha_r15 (by subst ha_r18; rfl) (c_G_weigh hl9 G ad12 hq_w19) (hy_okr (by omega) (hy_okr (by omega) hy_ok0)) tw_250 tw_4 tw_247 tw_248 sl_G_weigh (by decide) rfl (Nat.le_of_ble_eq_true rfl) (Nat.le_of_ble_eq_true rfl) hf_ob22 hg_ob22 rfl hl.1 (Nat.le_of_ble_eq_true rfl) d_H_readWord_42) (fun ad20 H locs cells slots hag hl_w19 S => ?_)
  have ha_v0 : ad20 v0 = a_v0 := (hag v0 (by omega)).trans ha_v0
  cases h
  cases K
  exact hy_vret hA B S d_H_readWord_45
theorem nk_H_readWord {p : Program} {l : Launch} {e : Env} {s : State} {m : MethodId} {args : Array Value} {below : List Frame} {meth : Method} {c : Code} {G : hy_G} {A : Nat → Prop} {ad0 : Nat → Nat} {w0 : hy_W} {o : hy_O} (hl9 : l.flags = flags0) (hA : hy_A G ad0 w0 s.heap.size = A) (B : hy_B p l e (hy_rm 5 112 w0) s m args below meth c "HyphenPatterns" b_H_readWord 2 none [] G A) (q : hy_P) (nx : hy_N) (hq : nx_H_readWord q = some nx) (K : hy_Nx lay_H_readWord p l e (hy_rm 5 112 w0) s m args below meth c 2 G A ad0 w0.1.length (hy_Q below G ad0 w0 o args s) o nx) : hy_At lay_H_readWord p l e (hy_rm 5 112 w0) s m args below meth c 2 G A ad0 w0.1.length (hy_Q below G ad0 w0 o args s) q := by
  unfold nx_H_readWord at hq
  split at hq
  · exact sk_H_readWord_0 hl9 hA B _ _ _ nx hq K
  · cases hq
theorem c_H_readWord {l : Launch} (hl9 : l.flags = flags0) (G : hy_G) (ad : Nat → Nat) {v0 : Nat} {v1 : Int32} {w : hy_W} {o : hy_O} (h : f_H_readWord [.ref v0, .int v1] w = some o) : hy_M l y_H_readWord (Cond.code y_H_readWord b_H_readWord 2 none :: hy_T) 5 112 G ad [.ref v0, .int v1] w o := by
  obtain ⟨n, hn⟩ := hy_fx_iff.mp h
  refine hy_ofW hl9 (by decide +kernel) (Nat.le_of_ble_eq_true rfl) (fun p e s m args below meth c A hA hi B S hok ls hl => ?_)
  exact hy_loop (nk_H_readWord hl9 hA B) n _ hn ad s.heap [] 0 0 ls S hok hl
theorem d_G_weightAt_0 : decode b_G_weightAt 0 = .ok (.iload_n 1, 1) := by decide +kernel
theorem d_G_weightAt_1 : decode b_G_weightAt 1 = .ok (.aload_n 0, 1) := by decide +kernel
theorem d_G_weightAt_2 : decode b_G_weightAt 2 = .ok (.getfield 18, 3) := by decide +kernel
theorem d_G_weightAt_5 : decode b_G_weightAt 5 = .ok (.isub, 1) := by decide +kernel
theorem d_G_weightAt_6 : decode b_G_weightAt 6 = .ok (.istore_n 2, 1) := by decide +kernel
theorem d_G_weightAt_7 : decode b_G_weightAt 7 = .ok (.iload_n 2, 1) := by decide +kernel
theorem d_G_weightAt_8 : decode b_G_weightAt 8 = .ok (.ifCond .le 22, 3) := by decide +kernel
theorem d_G_weightAt_11 : decode b_G_weightAt 11 = .ok (.iload_n 2, 1) := by decide +kernel
theorem d_G_weightAt_12 : decode b_G_weightAt 12 = .ok (.aload_n 0, 1) := by decide +kernel
theorem d_G_weightAt_13 : decode b_G_weightAt 13 = .ok (.getfield 22, 3) := by decide +kernel
theorem d_G_weightAt_16 : decode b_G_weightAt 16 = .ok (.if_icmp .ge 14, 3) := by decide +kernel
theorem d_G_weightAt_19 : decode b_G_weightAt 19 = .ok (.aload_n 0, 1) := by decide +kernel
theorem d_G_weightAt_20 : decode b_G_weightAt 20 = .ok (.getfield 15, 3) := by decide +kernel
theorem d_G_weightAt_23 : decode b_G_weightAt 23 = .ok (.iload_n 2, 1) := by decide +kernel
theorem d_G_weightAt_24 : decode b_G_weightAt 24 = .ok (.iconst 1, 1) := by decide +kernel
theorem d_G_weightAt_25 : decode b_G_weightAt 25 = .ok (.iadd, 1) := by decide +kernel
theorem d_G_weightAt_26 : decode b_G_weightAt 26 = .ok (.iaload, 1) := by decide +kernel
theorem d_G_weightAt_27 : decode b_G_weightAt 27 = .ok (.goto 4, 3) := by decide +kernel
theorem d_G_weightAt_30 : decode b_G_weightAt 30 = .ok (.iconst 0, 1) := by decide +kernel
theorem d_G_weightAt_31 : decode b_G_weightAt 31 = .ok (.ireturn, 1) := by decide +kernel
def lay_G_weightAt (pc : Nat) : List Nat := if pc = 0 then [0, 1] else if pc = 30 then [] else []
noncomputable def sg_G_weightAt_0 (v0 : Nat) (v1 : Int32) (w : hy_W) : Option hy_N := (hy_gi w v0 3 2).bind fun x1 => if (v1 - x1) ≤ 0 then (some (.inl (30, [], w))) else ((hy_gi w v0 3 3).bind fun x3 => if x3 ≤ (v1 - x1) then (some (.inl (30, [], w))) else ((hy_gr w v0 3 1).bind fun r5 => (hy_ai w r5 ((v1 - x1) + 1)).bind fun x6 => some (.inr (.inl (some (.int x6)), w))))
noncomputable def sg_G_weightAt_30  (w : hy_W) : Option hy_N := some (.inr (.inl (some (.int 0)), w))
noncomputable def nx_G_weightAt (q : hy_P) : Option hy_N := match q with
  | (0, [.ref v0, .int v1], w) => sg_G_weightAt_0 v0 v1 w
  | (30, [], w) => sg_G_weightAt_30  w
  | _ => none
noncomputable def f_G_weightAt (av : List Value) (w : hy_W) : Option hy_O := hy_fx nx_G_weightAt (0, av, w)
set_option maxHeartbeats 4000000 in
set_option maxRecDepth 100000 in
theorem sk_G_weightAt_0 {p : Program} {l : Launch} {e : Env} {s : State} {m : MethodId} {args : Array Value} {below : List Frame} {meth : Method} {c : Code} {G : hy_G} {A : Nat → Prop} {ad0 : Nat → Nat} {w0 : hy_W} {o : hy_O} (hl9 : l.flags = flags0) (hA : hy_A G ad0 w0 s.heap.size = A) (B : hy_B p l e (hy_rm 0 0 w0) s m args below meth c "HyphenPatterns$Reading" b_G_weightAt 3 (some .int) [] G A) (v0 : Nat) (v1 : Int32) (w : hy_W) (nx : hy_N) (h : sg_G_weightAt_0 v0 v1 w = some nx) (K : hy_Nx lay_G_weightAt p l e (hy_rm 0 0 w0) s m args below meth c 3 G A ad0 w0.1.length (hy_Q below G ad0 w0 o args s) o nx) : hy_At lay_G_weightAt p l e (hy_rm 0 0 w0) s m args below meth c 3 G A ad0 w0.1.length (hy_Q below G ad0 w0 o args s) (0, [.ref v0, .int v1], w) := by
  intro ad H locs cells slots ls S hok hl
  have hx := B.1
  have hb := B.2.1
  dsimp only at S hok
  have hl : lv_has ls 3 [(0, .ref (ad v0)), (1, .int v1)] := hl
  show W p l e (hy_rm 0 0 w0) s m args below meth c H locs cells slots (hy_Q below G ad0 w0 o args s) (F0 m 0 ls [])
  have hv_v0 : v0 < w.1.length := hok (.ref v0) (List.mem_of_getElem? (i := 0) rfl) v0 rfl
  obtain ⟨a_v0, ha_v0⟩ : ∃ a, ad v0 = a := ⟨_, rfl⟩
  rw [ha_v0] at hl
  unfold sg_G_weightAt_0 at h
  refine lv_iload_n hx hb d_G_weightAt_0 rfl (lv_at hl 1 rfl) ?_
  refine lv_aload_n hx hb d_G_weightAt_1 rfl (lv_at hl 0 rfl) ?_
  obtain ⟨x1, hx1, h⟩ := hy_bd h
  refine hy_geti B S ha_v0 hx1 rfl (Nat.le_of_ble_eq_true rfl) i_3 (j := 2) tw_83 (fun _ h => h) d_G_weightAt_2 ?_
  refine lv_isub hx hb d_G_weightAt_5 ?_
  refine lv_istore_n (lv' := [(2, .int (v1 - x1)), (0, .ref a_v0), (1, .int v1)]) hx hb d_G_weightAt_6 rfl hl (Nat.le_of_ble_eq_true rfl) rfl (fun ls hl => ?_)
  refine lv_iload_n hx hb d_G_weightAt_7 rfl (lv_at hl 0 rfl) ?_
  refine lv_if_le (tgt := 30) hx hb d_G_weightAt_8 (by decide) (fun c2 => ?_) (fun c2 => ?_)
  · rw [if_pos c2] at h
    cases h
    exact hy_jump K S hy_ok0 (lv_sub hl [] rfl) (by rfl) (by rfl)
  · rw [if_neg c2] at h
    refine lv_iload_n hx hb d_G_weightAt_11 rfl (lv_at hl 0 rfl) ?_
    refine lv_aload_n hx hb d_G_weightAt_12 rfl (lv_at hl 1 rfl) ?_
    obtain ⟨x3, hx3, h⟩ := hy_bd h
    refine hy_geti B S ha_v0 hx3 rfl (Nat.le_of_ble_eq_true rfl) i_3 (j := 3) tw_84 (fun _ h => h) d_G_weightAt_13 ?_
    refine lv_icmp_ge (tgt := 30) hx hb d_G_weightAt_16 (by decide) (fun c4 => ?_) (fun c4 => ?_)
    · rw [if_pos c4] at h
      cases h
      exact hy_jump K S hy_ok0 (lv_sub hl [] rfl) (by rfl) (by rfl)
    · rw [if_neg c4] at h
      refine lv_aload_n hx hb d_G_weightAt_19 rfl (lv_at hl 1 rfl) ?_
      obtain ⟨r5, hr5, h⟩ := hy_bd h
      refine hy_getr B S ha_v0 hr5 rfl (Nat.le_of_ble_eq_true rfl) i_3 (j := 1) tw_82 (fun _ h => h) d_G_weightAt_20 (fun a_r5 ha_r5 hv_r5 => ?_)
      refine lv_iload_n hx hb d_G_weightAt_23 rfl (lv_at hl 0 rfl) ?_
      refine lv_iconst (v := 1) hx hb d_G_weightAt_24 (by decide) ?_
      refine lv_iadd hx hb d_G_weightAt_25 ?_
      obtain ⟨x6, hx6, h⟩ := hy_bd h
      refine hy_iald B S ha_r5 hx6 d_G_weightAt_26 ?_
      refine lv_goto (tgt := 31) hx hb d_G_weightAt_27 (by decide) ?_
      cases h
      cases K
      exact hy_iret hA B S d_G_weightAt_31
set_option maxHeartbeats 4000000 in
set_option maxRecDepth 100000 in
theorem sk_G_weightAt_30 {p : Program} {l : Launch} {e : Env} {s : State} {m : MethodId} {args : Array Value} {below : List Frame} {meth : Method} {c : Code} {G : hy_G} {A : Nat → Prop} {ad0 : Nat → Nat} {w0 : hy_W} {o : hy_O} (hl9 : l.flags = flags0) (hA : hy_A G ad0 w0 s.heap.size = A) (B : hy_B p l e (hy_rm 0 0 w0) s m args below meth c "HyphenPatterns$Reading" b_G_weightAt 3 (some .int) [] G A)  (w : hy_W) (nx : hy_N) (h : sg_G_weightAt_30  w = some nx) (K : hy_Nx lay_G_weightAt p l e (hy_rm 0 0 w0) s m args below meth c 3 G A ad0 w0.1.length (hy_Q below G ad0 w0 o args s) o nx) : hy_At lay_G_weightAt p l e (hy_rm 0 0 w0) s m args below meth c 3 G A ad0 w0.1.length (hy_Q below G ad0 w0 o args s) (30, [], w) := by
  intro ad H locs cells slots ls S hok hl
  have hx := B.1
  have hb := B.2.1
  dsimp only at S hok
  have hl : lv_has ls 3 [] := hl
  show W p l e (hy_rm 0 0 w0) s m args below meth c H locs cells slots (hy_Q below G ad0 w0 o args s) (F0 m 30 ls [])
  unfold sg_G_weightAt_30 at h
  refine lv_iconst (v := 0) hx hb d_G_weightAt_30 (by decide) ?_
  cases h
  cases K
  exact hy_iret hA B S d_G_weightAt_31
theorem nk_G_weightAt {p : Program} {l : Launch} {e : Env} {s : State} {m : MethodId} {args : Array Value} {below : List Frame} {meth : Method} {c : Code} {G : hy_G} {A : Nat → Prop} {ad0 : Nat → Nat} {w0 : hy_W} {o : hy_O} (hl9 : l.flags = flags0) (hA : hy_A G ad0 w0 s.heap.size = A) (B : hy_B p l e (hy_rm 0 0 w0) s m args below meth c "HyphenPatterns$Reading" b_G_weightAt 3 (some .int) [] G A) (q : hy_P) (nx : hy_N) (hq : nx_G_weightAt q = some nx) (K : hy_Nx lay_G_weightAt p l e (hy_rm 0 0 w0) s m args below meth c 3 G A ad0 w0.1.length (hy_Q below G ad0 w0 o args s) o nx) : hy_At lay_G_weightAt p l e (hy_rm 0 0 w0) s m args below meth c 3 G A ad0 w0.1.length (hy_Q below G ad0 w0 o args s) q := by
  unfold nx_G_weightAt at hq
  split at hq
  · exact sk_G_weightAt_0 hl9 hA B _ _ _ nx hq K
  · exact sk_G_weightAt_30 hl9 hA B _ nx hq K
  · cases hq
theorem c_G_weightAt {l : Launch} (hl9 : l.flags = flags0) (G : hy_G) (ad : Nat → Nat) {v0 : Nat} {v1 : Int32} {w : hy_W} {o : hy_O} (h : f_G_weightAt [.ref v0, .int v1] w = some o) : hy_M l y_G_weightAt (Cond.code y_G_weightAt b_G_weightAt 3 (some .int) :: hy_T) 0 0 G ad [.ref v0, .int v1] w o := by
  obtain ⟨n, hn⟩ := hy_fx_iff.mp h
  refine hy_ofW hl9 (by decide +kernel) (Nat.le_of_ble_eq_true rfl) (fun p e s m args below meth c A hA hi B S hok ls hl => ?_)
  exact hy_loop (nk_G_weightAt hl9 hA B) n _ hn ad s.heap [] 0 0 ls S hok hl
theorem d_G_canBreakAt_0 : decode b_G_canBreakAt 0 = .ok (.iload_n 1, 1) := by decide +kernel
theorem d_G_canBreakAt_1 : decode b_G_canBreakAt 1 = .ok (.aload_n 0, 1) := by decide +kernel
theorem d_G_canBreakAt_2 : decode b_G_canBreakAt 2 = .ok (.getfield 18, 3) := by decide +kernel
theorem d_G_canBreakAt_5 : decode b_G_canBreakAt 5 = .ok (.isub, 1) := by decide +kernel
theorem d_G_canBreakAt_6 : decode b_G_canBreakAt 6 = .ok (.istore_n 3, 1) := by decide +kernel
theorem d_G_canBreakAt_7 : decode b_G_canBreakAt 7 = .ok (.aload_n 0, 1) := by decide +kernel
theorem d_G_canBreakAt_8 : decode b_G_canBreakAt 8 = .ok (.iload_n 1, 1) := by decide +kernel
theorem d_G_canBreakAt_9 : decode b_G_canBreakAt 9 = .ok (.invokevirtual 71, 3) := by decide +kernel
theorem d_G_canBreakAt_12 : decode b_G_canBreakAt 12 = .ok (.iconst 2, 1) := by decide +kernel
theorem d_G_canBreakAt_13 : decode b_G_canBreakAt 13 = .ok (.irem, 1) := by decide +kernel
theorem d_G_canBreakAt_14 : decode b_G_canBreakAt 14 = .ok (.iconst 1, 1) := by decide +kernel
theorem d_G_canBreakAt_15 : decode b_G_canBreakAt 15 = .ok (.if_icmp .ne 28, 3) := by decide +kernel
theorem d_G_canBreakAt_18 : decode b_G_canBreakAt 18 = .ok (.iload_n 3, 1) := by decide +kernel
theorem d_G_canBreakAt_19 : decode b_G_canBreakAt 19 = .ok (.aload_n 2, 1) := by decide +kernel
theorem d_G_canBreakAt_20 : decode b_G_canBreakAt 20 = .ok (.getfield 74, 3) := by decide +kernel
theorem d_G_canBreakAt_23 : decode b_G_canBreakAt 23 = .ok (.if_icmp .lt 20, 3) := by decide +kernel
theorem d_G_canBreakAt_26 : decode b_G_canBreakAt 26 = .ok (.aload_n 0, 1) := by decide +kernel
theorem d_G_canBreakAt_27 : decode b_G_canBreakAt 27 = .ok (.getfield 22, 3) := by decide +kernel
theorem d_G_canBreakAt_30 : decode b_G_canBreakAt 30 = .ok (.iload_n 3, 1) := by decide +kernel
theorem d_G_canBreakAt_31 : decode b_G_canBreakAt 31 = .ok (.isub, 1) := by decide +kernel
theorem d_G_canBreakAt_32 : decode b_G_canBreakAt 32 = .ok (.aload_n 2, 1) := by decide +kernel
theorem d_G_canBreakAt_33 : decode b_G_canBreakAt 33 = .ok (.getfield 77, 3) := by decide +kernel
theorem d_G_canBreakAt_36 : decode b_G_canBreakAt 36 = .ok (.if_icmp .lt 7, 3) := by decide +kernel
theorem d_G_canBreakAt_39 : decode b_G_canBreakAt 39 = .ok (.iconst 1, 1) := by decide +kernel
theorem d_G_canBreakAt_40 : decode b_G_canBreakAt 40 = .ok (.goto 4, 3) := by decide +kernel
theorem d_G_canBreakAt_43 : decode b_G_canBreakAt 43 = .ok (.iconst 0, 1) := by decide +kernel
theorem d_G_canBreakAt_44 : decode b_G_canBreakAt 44 = .ok (.ireturn, 1) := by decide +kernel
def lay_G_canBreakAt (pc : Nat) : List Nat := if pc = 0 then [0, 1, 2] else if pc = 43 then [] else []
noncomputable def sg_G_canBreakAt_0 (v0 : Nat) (v1 : Int32) (v2 : Nat) (w : hy_W) : Option hy_N := (hy_gi w v0 3 2).bind fun x1 => if hy_ob w v0 3 = true then hy_bi (f_G_weightAt [.ref v0, .int v1] w) fun x4 w2 => if (x4 - x4 / 2 * 2) = 1 then ((hy_gi w2 v2 1 6).bind fun x7 => if (v1 - x1) < x7 then (some (.inl (43, [], w2))) else ((hy_gi w2 v0 3 3).bind fun x9 => (hy_gi w2 v2 1 7).bind fun x10 => if (x9 - (v1 - x1)) < x10 then (some (.inl (43, [], w2))) else (some (.inr (.inl (some (.int 1)), w2))))) else (some (.inl (43, [], w2))) else none
noncomputable def sg_G_canBreakAt_43  (w : hy_W) : Option hy_N := some (.inr (.inl (some (.int 0)), w))
noncomputable def nx_G_canBreakAt (q : hy_P) : Option hy_N := match q with
  | (0, [.ref v0, .int v1, .ref v2], w) => sg_G_canBreakAt_0 v0 v1 v2 w
  | (43, [], w) => sg_G_canBreakAt_43  w
  | _ => none
noncomputable def f_G_canBreakAt (av : List Value) (w : hy_W) : Option hy_O := hy_fx nx_G_canBreakAt (0, av, w)
set_option maxHeartbeats 4000000 in
set_option maxRecDepth 100000 in
theorem sk_G_canBreakAt_0 {p : Program} {l : Launch} {e : Env} {s : State} {m : MethodId} {args : Array Value} {below : List Frame} {meth : Method} {c : Code} {G : hy_G} {A : Nat → Prop} {ad0 : Nat → Nat} {w0 : hy_W} {o : hy_O} (hl9 : l.flags = flags0) (hA : hy_A G ad0 w0 s.heap.size = A) (B : hy_B p l e (hy_rm 1 22 w0) s m args below meth c "HyphenPatterns$Reading" b_G_canBreakAt 4 (some .boolean) [] G A) (v0 : Nat) (v1 : Int32) (v2 : Nat) (w : hy_W) (nx : hy_N) (h : sg_G_canBreakAt_0 v0 v1 v2 w = some nx) (K : hy_Nx lay_G_canBreakAt p l e (hy_rm 1 22 w0) s m args below meth c 4 G A ad0 w0.1.length (hy_Q below G ad0 w0 o args s) o nx) : hy_At lay_G_canBreakAt p l e (hy_rm 1 22 w0) s m args below meth c 4 G A ad0 w0.1.length (hy_Q below G ad0 w0 o args s) (0, [.ref v0, .int v1, .ref v2], w) := by
  intro ad H locs cells slots ls S hok hl
  have hx := B.1
  have hb := B.2.1
  dsimp only at S hok
  have hl : lv_has ls 4 [(0, .ref (ad v0)), (1, .int v1), (2, .ref (ad v2))] := hl
  show W p l e (hy_rm 1 22 w0) s m args below meth c H locs cells slots (hy_Q below G ad0 w0 o args s) (F0 m 0 ls [])
  have hv_v0 : v0 < w.1.length := hok (.ref v0) (List.mem_of_getElem? (i := 0) rfl) v0 rfl
  obtain ⟨a_v0, ha_v0⟩ : ∃ a, ad v0 = a := ⟨_, rfl⟩
  rw [ha_v0] at hl
  have hv_v2 : v2 < w.1.length := hok (.ref v2) (List.mem_of_getElem? (i := 2) rfl) v2 rfl
  obtain ⟨a_v2, ha_v2⟩ : ∃ a, ad v2 = a := ⟨_, rfl⟩
  rw [ha_v2] at hl
  unfold sg_G_canBreakAt_0 at h
  refine lv_iload_n hx hb d_G_canBreakAt_0 rfl (lv_at hl 1 rfl) ?_
  refine lv_aload_n hx hb d_G_canBreakAt_1 rfl (lv_at hl 0 rfl) ?_
  obtain ⟨x1, hx1, h⟩ := hy_bd h
  refine hy_geti B S ha_v0 hx1 rfl (Nat.le_of_ble_eq_true rfl) i_3 (j := 2) tw_83 (fun _ h => h) d_G_canBreakAt_2 ?_
  refine lv_isub hx hb d_G_canBreakAt_5 ?_
  refine lv_istore_n (lv' := [(3, .int (v1 - x1)), (0, .ref a_v0), (1, .int v1), (2, .ref a_v2)]) hx hb d_G_canBreakAt_6 rfl hl (Nat.le_of_ble_eq_true rfl) rfl (fun ls hl => ?_)
  refine lv_aload_n hx hb d_G_canBreakAt_7 rfl (lv_at hl 1 rfl) ?_
  refine lv_iload_n hx hb d_G_canBreakAt_8 rfl (lv_at hl 2 rfl) ?_
  obtain ⟨ob5, h⟩ := hy_if h
  obtain ⟨fs_ob5, hf_ob5, hg_ob5⟩ := hy_ob_spec ob5
  obtain ⟨x4, w2, hq_w2, h⟩ := hy_bi_spec h
  refine hy_calli (hy_runV (rest := []) (As := [.int v1]) (r := v0) (b := a_v0) B S rfl ha_v0 (by rfl) (c_G_weightAt hl9 G ad hq_w2) (hy_okr (by omega) (hy_oki hy_ok0)) tw_302 tw_4 tw_299 tw_300 sl_G_weightAt (by decide) rfl (Nat.le_of_ble_eq_true rfl) (Nat.le_of_ble_eq_true rfl) hf_ob5 hg_ob5 rfl hl.1 (Nat.le_of_ble_eq_true rfl) d_G_canBreakAt_9) (fun ad3 H locs cells slots hag hl_w2 S => ?_)
  have ha_v0 : ad3 v0 = a_v0 := (hag v0 (by omega)).trans ha_v0
  have ha_v2 : ad3 v2 = a_v2 := (hag v2 (by omega)).trans ha_v2
  refine lv_iconst (v := 2) hx hb d_G_canBreakAt_12 (by decide) ?_
  refine lv_irem hx hb d_G_canBreakAt_13 (by decide) ?_
  refine lv_iconst (v := 1) hx hb d_G_canBreakAt_14 (by decide) ?_
  refine lv_icmp_ne (tgt := 43) hx hb d_G_canBreakAt_15 (by decide) (fun c6 => ?_) (fun c6 => ?_)
  · rw [if_neg c6] at h
    cases h
    exact hy_jump K S hy_ok0 (lv_sub hl [] rfl) (by rfl) (by rfl)
  · rw [if_pos c6] at h
    refine lv_iload_n hx hb d_G_canBreakAt_18 rfl (lv_at hl 0 rfl) ?_
    refine lv_aload_n hx hb d_G_canBreakAt_19 rfl (lv_at hl 3 rfl) ?_
    obtain ⟨x7, hx7, h⟩ := hy_bd h
    refine hy_geti B S ha_v2 hx7 rfl (Nat.le_of_ble_eq_true rfl) i_1 (j := 6) tw_142 (fun _ h => h) d_G_canBreakAt_20 ?_
    refine lv_icmp_lt (tgt := 43) hx hb d_G_canBreakAt_23 (by decide) (fun c8 => ?_) (fun c8 => ?_)
    · rw [if_pos c8] at h
      cases h
      exact hy_jump K S hy_ok0 (lv_sub hl [] rfl) (by rfl) (by rfl)
    · rw [if_neg c8] at h
      refine lv_aload_n hx hb d_G_canBreakAt_26 rfl (lv_at hl 1 rfl) ?_
      obtain ⟨x9, hx9, h⟩ := hy_bd h
      refine hy_geti B S ha_v0 hx9 rfl (Nat.le_of_ble_eq_true rfl) i_3 (j := 3) tw_84 (fun _ h => h) d_G_canBreakAt_27 ?_
      refine lv_iload_n hx hb d_G_canBreakAt_30 rfl (lv_at hl 0 rfl) ?_
      refine lv_isub hx hb d_G_canBreakAt_31 ?_
      refine lv_aload_n hx hb d_G_canBreakAt_32 rfl (lv_at hl 3 rfl) ?_
      obtain ⟨x10, hx10, h⟩ := hy_bd h
      refine hy_geti B S ha_v2 hx10 rfl (Nat.le_of_ble_eq_true rfl) i_1 (j := 7) tw_145 (fun _ h => h) d_G_canBreakAt_33 ?_
      refine lv_icmp_lt (tgt := 43) hx hb d_G_canBreakAt_36 (by decide) (fun c11 => ?_) (fun c11 => ?_)
      · rw [if_pos c11] at h
        cases h
        exact hy_jump K S hy_ok0 (lv_sub hl [] rfl) (by rfl) (by rfl)
      · rw [if_neg c11] at h
        refine lv_iconst (v := 1) hx hb d_G_canBreakAt_39 (by decide) ?_
        refine lv_goto (tgt := 44) hx hb d_G_canBreakAt_40 (by decide) ?_
        cases h
        cases K
        exact hy_zret hA B S (by decide) d_G_canBreakAt_44
set_option maxHeartbeats 4000000 in
set_option maxRecDepth 100000 in
theorem sk_G_canBreakAt_43 {p : Program} {l : Launch} {e : Env} {s : State} {m : MethodId} {args : Array Value} {below : List Frame} {meth : Method} {c : Code} {G : hy_G} {A : Nat → Prop} {ad0 : Nat → Nat} {w0 : hy_W} {o : hy_O} (hl9 : l.flags = flags0) (hA : hy_A G ad0 w0 s.heap.size = A) (B : hy_B p l e (hy_rm 1 22 w0) s m args below meth c "HyphenPatterns$Reading" b_G_canBreakAt 4 (some .boolean) [] G A)  (w : hy_W) (nx : hy_N) (h : sg_G_canBreakAt_43  w = some nx) (K : hy_Nx lay_G_canBreakAt p l e (hy_rm 1 22 w0) s m args below meth c 4 G A ad0 w0.1.length (hy_Q below G ad0 w0 o args s) o nx) : hy_At lay_G_canBreakAt p l e (hy_rm 1 22 w0) s m args below meth c 4 G A ad0 w0.1.length (hy_Q below G ad0 w0 o args s) (43, [], w) := by
  intro ad H locs cells slots ls S hok hl
  have hx := B.1
  have hb := B.2.1
  dsimp only at S hok
  have hl : lv_has ls 4 [] := hl
  show W p l e (hy_rm 1 22 w0) s m args below meth c H locs cells slots (hy_Q below G ad0 w0 o args s) (F0 m 43 ls [])
  unfold sg_G_canBreakAt_43 at h
  refine lv_iconst (v := 0) hx hb d_G_canBreakAt_43 (by decide) ?_
  cases h
  cases K
  exact hy_zret hA B S (by decide) d_G_canBreakAt_44
theorem nk_G_canBreakAt {p : Program} {l : Launch} {e : Env} {s : State} {m : MethodId} {args : Array Value} {below : List Frame} {meth : Method} {c : Code} {G : hy_G} {A : Nat → Prop} {ad0 : Nat → Nat} {w0 : hy_W} {o : hy_O} (hl9 : l.flags = flags0) (hA : hy_A G ad0 w0 s.heap.size = A) (B : hy_B p l e (hy_rm 1 22 w0) s m args below meth c "HyphenPatterns$Reading" b_G_canBreakAt 4 (some .boolean) [] G A) (q : hy_P) (nx : hy_N) (hq : nx_G_canBreakAt q = some nx) (K : hy_Nx lay_G_canBreakAt p l e (hy_rm 1 22 w0) s m args below meth c 4 G A ad0 w0.1.length (hy_Q below G ad0 w0 o args s) o nx) : hy_At lay_G_canBreakAt p l e (hy_rm 1 22 w0) s m args below meth c 4 G A ad0 w0.1.length (hy_Q below G ad0 w0 o args s) q := by
  unfold nx_G_canBreakAt at hq
  split at hq
  · exact sk_G_canBreakAt_0 hl9 hA B _ _ _ _ nx hq K
  · exact sk_G_canBreakAt_43 hl9 hA B _ nx hq K
  · cases hq
theorem c_G_canBreakAt {l : Launch} (hl9 : l.flags = flags0) (G : hy_G) (ad : Nat → Nat) {v0 : Nat} {v1 : Int32} {v2 : Nat} {w : hy_W} {o : hy_O} (h : f_G_canBreakAt [.ref v0, .int v1, .ref v2] w = some o) : hy_M l y_G_canBreakAt (Cond.code y_G_canBreakAt b_G_canBreakAt 4 (some .boolean) :: hy_T) 1 22 G ad [.ref v0, .int v1, .ref v2] w o := by
  obtain ⟨n, hn⟩ := hy_fx_iff.mp h
  refine hy_ofW hl9 (by decide +kernel) (Nat.le_of_ble_eq_true rfl) (fun p e s m args below meth c A hA hi B S hok ls hl => ?_)
  exact hy_loop (nk_G_canBreakAt hl9 hA B) n _ hn ad s.heap [] 0 0 ls S hok hl
theorem d_G_breakCount_0 : decode b_G_breakCount 0 = .ok (.iconst 0, 1) := by decide +kernel
theorem d_G_breakCount_1 : decode b_G_breakCount 1 = .ok (.istore_n 2, 1) := by decide +kernel
theorem d_G_breakCount_2 : decode b_G_breakCount 2 = .ok (.iconst 1, 1) := by decide +kernel
theorem d_G_breakCount_3 : decode b_G_breakCount 3 = .ok (.istore_n 3, 1) := by decide +kernel
theorem d_G_breakCount_4 : decode b_G_breakCount 4 = .ok (.iload_n 3, 1) := by decide +kernel
theorem d_G_breakCount_5 : decode b_G_breakCount 5 = .ok (.aload_n 0, 1) := by decide +kernel
theorem d_G_breakCount_6 : decode b_G_breakCount 6 = .ok (.getfield 22, 3) := by decide +kernel
theorem d_G_breakCount_9 : decode b_G_breakCount 9 = .ok (.if_icmp .ge 26, 3) := by decide +kernel
theorem d_G_breakCount_12 : decode b_G_breakCount 12 = .ok (.aload_n 0, 1) := by decide +kernel
theorem d_G_breakCount_13 : decode b_G_breakCount 13 = .ok (.aload_n 0, 1) := by decide +kernel
theorem d_G_breakCount_14 : decode b_G_breakCount 14 = .ok (.getfield 18, 3) := by decide +kernel
theorem d_G_breakCount_17 : decode b_G_breakCount 17 = .ok (.iload_n 3, 1) := by decide +kernel
theorem d_G_breakCount_18 : decode b_G_breakCount 18 = .ok (.iadd, 1) := by decide +kernel
theorem d_G_breakCount_19 : decode b_G_breakCount 19 = .ok (.aload_n 1, 1) := by decide +kernel
theorem d_G_breakCount_20 : decode b_G_breakCount 20 = .ok (.invokevirtual 80, 3) := by decide +kernel
theorem d_G_breakCount_23 : decode b_G_breakCount 23 = .ok (.ifCond .eq 6, 3) := by decide +kernel
theorem d_G_breakCount_26 : decode b_G_breakCount 26 = .ok (.iinc 2 1, 3) := by decide +kernel
theorem d_G_breakCount_29 : decode b_G_breakCount 29 = .ok (.iinc 3 1, 3) := by decide +kernel
theorem d_G_breakCount_32 : decode b_G_breakCount 32 = .ok (.goto (-28), 3) := by decide +kernel
theorem d_G_breakCount_35 : decode b_G_breakCount 35 = .ok (.iload_n 2, 1) := by decide +kernel
theorem d_G_breakCount_36 : decode b_G_breakCount 36 = .ok (.ireturn, 1) := by decide +kernel
def lay_G_breakCount (pc : Nat) : List Nat := if pc = 0 then [0, 1] else if pc = 4 then [0, 1, 2, 3] else if pc = 29 then [0, 1, 2, 3] else []
noncomputable def sg_G_breakCount_0 (v0 : Nat) (v1 : Nat) (w : hy_W) : Option hy_N := some (.inl (4, [.ref v0, .ref v1, .int 0, .int 1], w))
noncomputable def sg_G_breakCount_4 (v0 : Nat) (v1 : Nat) (v2 : Int32) (v3 : Int32) (w : hy_W) : Option hy_N := (hy_gi w v0 3 3).bind fun x1 => if x1 ≤ v3 then (some (.inr (.inl (some (.int v2)), w))) else ((hy_gi w v0 3 2).bind fun x3 => if hy_ob w v0 3 = true then hy_bi (f_G_canBreakAt [.ref v0, .int (x3 + v3), .ref v1] w) fun x6 w4 => if x6 = 0 then (some (.inl (29, [.ref v0, .ref v1, .int v2, .int v3], w4))) else (some (.inl (29, [.ref v0, .ref v1, .int (v2 + 1), .int v3], w4))) else none)
noncomputable def sg_G_breakCount_29 (v0 : Nat) (v1 : Nat) (v2 : Int32) (v3 : Int32) (w : hy_W) : Option hy_N := some (.inl (4, [.ref v0, .ref v1, .int v2, .int (v3 + 1)], w))
noncomputable def nx_G_breakCount (q : hy_P) : Option hy_N := match q with
  | (0, [.ref v0, .ref v1], w) => sg_G_breakCount_0 v0 v1 w
  | (4, [.ref v0, .ref v1, .int v2, .int v3], w) => sg_G_breakCount_4 v0 v1 v2 v3 w
  | (29, [.ref v0, .ref v1, .int v2, .int v3], w) => sg_G_breakCount_29 v0 v1 v2 v3 w
  | _ => none
noncomputable def f_G_breakCount (av : List Value) (w : hy_W) : Option hy_O := hy_fx nx_G_breakCount (0, av, w)
set_option maxHeartbeats 4000000 in
set_option maxRecDepth 100000 in
theorem sk_G_breakCount_0 {p : Program} {l : Launch} {e : Env} {s : State} {m : MethodId} {args : Array Value} {below : List Frame} {meth : Method} {c : Code} {G : hy_G} {A : Nat → Prop} {ad0 : Nat → Nat} {w0 : hy_W} {o : hy_O} (hl9 : l.flags = flags0) (hA : hy_A G ad0 w0 s.heap.size = A) (B : hy_B p l e (hy_rm 2 45 w0) s m args below meth c "HyphenPatterns$Reading" b_G_breakCount 4 (some .int) [] G A) (v0 : Nat) (v1 : Nat) (w : hy_W) (nx : hy_N) (h : sg_G_breakCount_0 v0 v1 w = some nx) (K : hy_Nx lay_G_breakCount p l e (hy_rm 2 45 w0) s m args below meth c 4 G A ad0 w0.1.length (hy_Q below G ad0 w0 o args s) o nx) : hy_At lay_G_breakCount p l e (hy_rm 2 45 w0) s m args below meth c 4 G A ad0 w0.1.length (hy_Q below G ad0 w0 o args s) (0, [.ref v0, .ref v1], w) := by
  intro ad H locs cells slots ls S hok hl
  have hx := B.1
  have hb := B.2.1
  dsimp only at S hok
  have hl : lv_has ls 4 [(0, .ref (ad v0)), (1, .ref (ad v1))] := hl
  show W p l e (hy_rm 2 45 w0) s m args below meth c H locs cells slots (hy_Q below G ad0 w0 o args s) (F0 m 0 ls [])
  have hv_v0 : v0 < w.1.length := hok (.ref v0) (List.mem_of_getElem? (i := 0) rfl) v0 rfl
  obtain ⟨a_v0, ha_v0⟩ : ∃ a, ad v0 = a := ⟨_, rfl⟩
  rw [ha_v0] at hl
  have hv_v1 : v1 < w.1.length := hok (.ref v1) (List.mem_of_getElem? (i := 1) rfl) v1 rfl
  obtain ⟨a_v1, ha_v1⟩ : ∃ a, ad v1 = a := ⟨_, rfl⟩
  rw [ha_v1] at hl
  unfold sg_G_breakCount_0 at h
  refine lv_iconst (v := 0) hx hb d_G_breakCount_0 (by decide) ?_
  refine lv_istore_n (lv' := [(2, .int 0), (0, .ref a_v0), (1, .ref a_v1)]) hx hb d_G_breakCount_1 rfl hl (Nat.le_of_ble_eq_true rfl) rfl (fun ls hl => ?_)
  refine lv_iconst (v := 1) hx hb d_G_breakCount_2 (by decide) ?_
  refine lv_istore_n (lv' := [(3, .int 1), (2, .int 0), (0, .ref a_v0), (1, .ref a_v1)]) hx hb d_G_breakCount_3 rfl hl (Nat.le_of_ble_eq_true rfl) rfl (fun ls hl => ?_)
  cases h
  exact hy_jump K S (hy_okr (by omega) (hy_okr (by omega) (hy_oki (hy_oki hy_ok0)))) (lv_sub hl [2, 3, 1, 0] rfl) (by subst ha_v0 ha_v1; rfl) (by subst ha_v0 ha_v1; rfl)
set_option maxHeartbeats 4000000 in
set_option maxRecDepth 100000 in
theorem sk_G_breakCount_4 {p : Program} {l : Launch} {e : Env} {s : State} {m : MethodId} {args : Array Value} {below : List Frame} {meth : Method} {c : Code} {G : hy_G} {A : Nat → Prop} {ad0 : Nat → Nat} {w0 : hy_W} {o : hy_O} (hl9 : l.flags = flags0) (hA : hy_A G ad0 w0 s.heap.size = A) (B : hy_B p l e (hy_rm 2 45 w0) s m args below meth c "HyphenPatterns$Reading" b_G_breakCount 4 (some .int) [] G A) (v0 : Nat) (v1 : Nat) (v2 : Int32) (v3 : Int32) (w : hy_W) (nx : hy_N) (h : sg_G_breakCount_4 v0 v1 v2 v3 w = some nx) (K : hy_Nx lay_G_breakCount p l e (hy_rm 2 45 w0) s m args below meth c 4 G A ad0 w0.1.length (hy_Q below G ad0 w0 o args s) o nx) : hy_At lay_G_breakCount p l e (hy_rm 2 45 w0) s m args below meth c 4 G A ad0 w0.1.length (hy_Q below G ad0 w0 o args s) (4, [.ref v0, .ref v1, .int v2, .int v3], w) := by
  intro ad H locs cells slots ls S hok hl
  have hx := B.1
  have hb := B.2.1
  dsimp only at S hok
  have hl : lv_has ls 4 [(0, .ref (ad v0)), (1, .ref (ad v1)), (2, .int v2), (3, .int v3)] := hl
  show W p l e (hy_rm 2 45 w0) s m args below meth c H locs cells slots (hy_Q below G ad0 w0 o args s) (F0 m 4 ls [])
  have hv_v0 : v0 < w.1.length := hok (.ref v0) (List.mem_of_getElem? (i := 0) rfl) v0 rfl
  obtain ⟨a_v0, ha_v0⟩ : ∃ a, ad v0 = a := ⟨_, rfl⟩
  rw [ha_v0] at hl
  have hv_v1 : v1 < w.1.length := hok (.ref v1) (List.mem_of_getElem? (i := 1) rfl) v1 rfl
  obtain ⟨a_v1, ha_v1⟩ : ∃ a, ad v1 = a := ⟨_, rfl⟩
  rw [ha_v1] at hl
  unfold sg_G_breakCount_4 at h
  refine lv_iload_n hx hb d_G_breakCount_4 rfl (lv_at hl 3 rfl) ?_
  refine lv_aload_n hx hb d_G_breakCount_5 rfl (lv_at hl 0 rfl) ?_
  obtain ⟨x1, hx1, h⟩ := hy_bd h
  refine hy_geti B S ha_v0 hx1 rfl (Nat.le_of_ble_eq_true rfl) i_3 (j := 3) tw_84 (fun _ h => h) d_G_breakCount_6 ?_
  refine lv_icmp_ge (tgt := 35) hx hb d_G_breakCount_9 (by decide) (fun c2 => ?_) (fun c2 => ?_)
  · rw [if_pos c2] at h
    refine lv_iload_n hx hb d_G_breakCount_35 rfl (lv_at hl 2 rfl) ?_
    cases h
    cases K
    exact hy_iret hA B S d_G_breakCount_36
  · rw [if_neg c2] at h
    refine lv_aload_n hx hb d_G_breakCount_12 rfl (lv_at hl 0 rfl) ?_
    refine lv_aload_n hx hb d_G_breakCount_13 rfl (lv_at hl 0 rfl) ?_
    obtain ⟨x3, hx3, h⟩ := hy_bd h
    refine hy_geti B S ha_v0 hx3 rfl (Nat.le_of_ble_eq_true rfl) i_3 (j := 2) tw_83 (fun _ h => h) d_G_breakCount_14 ?_
    refine lv_iload_n hx hb d_G_breakCount_17 rfl (lv_at hl 3 rfl) ?_
    refine lv_iadd hx hb d_G_breakCount_18 ?_
    refine lv_aload_n hx hb d_G_breakCount_19 rfl (lv_at hl 1 rfl) ?_
    obtain ⟨ob7, h⟩ := hy_if h
    obtain ⟨fs_ob7, hf_ob7, hg_ob7⟩ := hy_ob_spec ob7
    obtain ⟨x6, w4, hq_w4, h⟩ := hy_bi_spec h
    refine hy_calli (hy_runV (rest := []) (As := [.int (x3 + v3), .ref a_v1]) (r := v0) (b := a_v0) B S rfl ha_v0 (by subst ha_v1; rfl) (c_G_canBreakAt hl9 G ad hq_w4) (hy_okr (by omega) (hy_oki (hy_okr (by omega) hy_ok0))) tw_298 tw_4 tw_295 tw_296 sl_G_canBreakAt (by decide) rfl (Nat.le_of_ble_eq_true rfl) (Nat.le_of_ble_eq_true rfl) hf_ob7 hg_ob7 rfl hl.1 (Nat.le_of_ble_eq_true rfl) d_G_breakCount_20) (fun ad5 H locs cells slots hag hl_w4 S => ?_)
    have ha_v0 : ad5 v0 = a_v0 := (hag v0 (by omega)).trans ha_v0
    have ha_v1 : ad5 v1 = a_v1 := (hag v1 (by omega)).trans ha_v1
    refine lv_if_eq (tgt := 29) hx hb d_G_breakCount_23 (by decide) (fun c8 => ?_) (fun c8 => ?_)
    · rw [if_pos c8] at h
      cases h
      exact hy_jump K S (hy_okr (by omega) (hy_okr (by omega) (hy_oki (hy_oki hy_ok0)))) (lv_sub hl [0, 1, 2, 3] rfl) (by subst ha_v0 ha_v1; rfl) (by subst ha_v0 ha_v1; rfl)
    · rw [if_neg c8] at h
      refine lv_iinc (v := (v2 + 1)) (lv' := [(2, .int (v2 + 1)), (0, .ref a_v0), (1, .ref a_v1), (3, .int v3)]) hx hb d_G_breakCount_26 hl (k := 2) rfl rfl (Nat.le_of_ble_eq_true rfl) rfl (fun ls hl => ?_)
      cases h
      exact hy_jump K S (hy_okr (by omega) (hy_okr (by omega) (hy_oki (hy_oki hy_ok0)))) (lv_sub hl [1, 2, 0, 3] rfl) (by subst ha_v0 ha_v1; rfl) (by subst ha_v0 ha_v1; rfl)
set_option maxHeartbeats 4000000 in
set_option maxRecDepth 100000 in
theorem sk_G_breakCount_29 {p : Program} {l : Launch} {e : Env} {s : State} {m : MethodId} {args : Array Value} {below : List Frame} {meth : Method} {c : Code} {G : hy_G} {A : Nat → Prop} {ad0 : Nat → Nat} {w0 : hy_W} {o : hy_O} (hl9 : l.flags = flags0) (hA : hy_A G ad0 w0 s.heap.size = A) (B : hy_B p l e (hy_rm 2 45 w0) s m args below meth c "HyphenPatterns$Reading" b_G_breakCount 4 (some .int) [] G A) (v0 : Nat) (v1 : Nat) (v2 : Int32) (v3 : Int32) (w : hy_W) (nx : hy_N) (h : sg_G_breakCount_29 v0 v1 v2 v3 w = some nx) (K : hy_Nx lay_G_breakCount p l e (hy_rm 2 45 w0) s m args below meth c 4 G A ad0 w0.1.length (hy_Q below G ad0 w0 o args s) o nx) : hy_At lay_G_breakCount p l e (hy_rm 2 45 w0) s m args below meth c 4 G A ad0 w0.1.length (hy_Q below G ad0 w0 o args s) (29, [.ref v0, .ref v1, .int v2, .int v3], w) := by
  intro ad H locs cells slots ls S hok hl
  have hx := B.1
  have hb := B.2.1
  dsimp only at S hok
  have hl : lv_has ls 4 [(0, .ref (ad v0)), (1, .ref (ad v1)), (2, .int v2), (3, .int v3)] := hl
  show W p l e (hy_rm 2 45 w0) s m args below meth c H locs cells slots (hy_Q below G ad0 w0 o args s) (F0 m 29 ls [])
  have hv_v0 : v0 < w.1.length := hok (.ref v0) (List.mem_of_getElem? (i := 0) rfl) v0 rfl
  obtain ⟨a_v0, ha_v0⟩ : ∃ a, ad v0 = a := ⟨_, rfl⟩
  rw [ha_v0] at hl
  have hv_v1 : v1 < w.1.length := hok (.ref v1) (List.mem_of_getElem? (i := 1) rfl) v1 rfl
  obtain ⟨a_v1, ha_v1⟩ : ∃ a, ad v1 = a := ⟨_, rfl⟩
  rw [ha_v1] at hl
  unfold sg_G_breakCount_29 at h
  refine lv_iinc (v := (v3 + 1)) (lv' := [(3, .int (v3 + 1)), (0, .ref a_v0), (1, .ref a_v1), (2, .int v2)]) hx hb d_G_breakCount_29 hl (k := 3) rfl rfl (Nat.le_of_ble_eq_true rfl) rfl (fun ls hl => ?_)
  refine lv_goto (tgt := 4) hx hb d_G_breakCount_32 (by decide) ?_
  cases h
  exact hy_jump K S (hy_okr (by omega) (hy_okr (by omega) (hy_oki (hy_oki hy_ok0)))) (lv_sub hl [1, 2, 3, 0] rfl) (by subst ha_v0 ha_v1; rfl) (by subst ha_v0 ha_v1; rfl)
theorem nk_G_breakCount {p : Program} {l : Launch} {e : Env} {s : State} {m : MethodId} {args : Array Value} {below : List Frame} {meth : Method} {c : Code} {G : hy_G} {A : Nat → Prop} {ad0 : Nat → Nat} {w0 : hy_W} {o : hy_O} (hl9 : l.flags = flags0) (hA : hy_A G ad0 w0 s.heap.size = A) (B : hy_B p l e (hy_rm 2 45 w0) s m args below meth c "HyphenPatterns$Reading" b_G_breakCount 4 (some .int) [] G A) (q : hy_P) (nx : hy_N) (hq : nx_G_breakCount q = some nx) (K : hy_Nx lay_G_breakCount p l e (hy_rm 2 45 w0) s m args below meth c 4 G A ad0 w0.1.length (hy_Q below G ad0 w0 o args s) o nx) : hy_At lay_G_breakCount p l e (hy_rm 2 45 w0) s m args below meth c 4 G A ad0 w0.1.length (hy_Q below G ad0 w0 o args s) q := by
  unfold nx_G_breakCount at hq
  split at hq
  · exact sk_G_breakCount_0 hl9 hA B _ _ _ nx hq K
  · exact sk_G_breakCount_4 hl9 hA B _ _ _ _ _ nx hq K
  · exact sk_G_breakCount_29 hl9 hA B _ _ _ _ _ nx hq K
  · cases hq
theorem c_G_breakCount {l : Launch} (hl9 : l.flags = flags0) (G : hy_G) (ad : Nat → Nat) {v0 : Nat} {v1 : Nat} {w : hy_W} {o : hy_O} (h : f_G_breakCount [.ref v0, .ref v1] w = some o) : hy_M l y_G_breakCount (Cond.code y_G_breakCount b_G_breakCount 4 (some .int) :: hy_T) 2 45 G ad [.ref v0, .ref v1] w o := by
  obtain ⟨n, hn⟩ := hy_fx_iff.mp h
  refine hy_ofW hl9 (by decide +kernel) (Nat.le_of_ble_eq_true rfl) (fun p e s m args below meth c A hA hi B S hok ls hl => ?_)
  exact hy_loop (nk_G_breakCount hl9 hA B) n _ hn ad s.heap [] 0 0 ls S hok hl
theorem d_H_countBreaks_0 : decode b_H_countBreaks 0 = .ok (.iconst 0, 1) := by decide +kernel
theorem d_H_countBreaks_1 : decode b_H_countBreaks 1 = .ok (.istore_n 1, 1) := by decide +kernel
theorem d_H_countBreaks_2 : decode b_H_countBreaks 2 = .ok (.iconst 0, 1) := by decide +kernel
theorem d_H_countBreaks_3 : decode b_H_countBreaks 3 = .ok (.istore_n 2, 1) := by decide +kernel
theorem d_H_countBreaks_4 : decode b_H_countBreaks 4 = .ok (.iload_n 2, 1) := by decide +kernel
theorem d_H_countBreaks_5 : decode b_H_countBreaks 5 = .ok (.aload_n 0, 1) := by decide +kernel
theorem d_H_countBreaks_6 : decode b_H_countBreaks 6 = .ok (.getfield 24, 3) := by decide +kernel
theorem d_H_countBreaks_9 : decode b_H_countBreaks 9 = .ok (.getfield 129, 3) := by decide +kernel
theorem d_H_countBreaks_12 : decode b_H_countBreaks 12 = .ok (.if_icmp .ge 41, 3) := by decide +kernel
theorem d_H_countBreaks_15 : decode b_H_countBreaks 15 = .ok (.aload_n 0, 1) := by decide +kernel
theorem d_H_countBreaks_16 : decode b_H_countBreaks 16 = .ok (.iload_n 2, 1) := by decide +kernel
theorem d_H_countBreaks_17 : decode b_H_countBreaks 17 = .ok (.invokevirtual 151, 3) := by decide +kernel
theorem d_H_countBreaks_20 : decode b_H_countBreaks 20 = .ok (.ifCond .eq 27, 3) := by decide +kernel
theorem d_H_countBreaks_23 : decode b_H_countBreaks 23 = .ok (.aload_n 0, 1) := by decide +kernel
theorem d_H_countBreaks_24 : decode b_H_countBreaks 24 = .ok (.iload_n 2, 1) := by decide +kernel
theorem d_H_countBreaks_25 : decode b_H_countBreaks 25 = .ok (.invokevirtual 140, 3) := by decide +kernel
theorem d_H_countBreaks_28 : decode b_H_countBreaks 28 = .ok (.iload_n 1, 1) := by decide +kernel
theorem d_H_countBreaks_29 : decode b_H_countBreaks 29 = .ok (.aload_n 0, 1) := by decide +kernel
theorem d_H_countBreaks_30 : decode b_H_countBreaks 30 = .ok (.getfield 37, 3) := by decide +kernel
theorem d_H_countBreaks_33 : decode b_H_countBreaks 33 = .ok (.aload_n 0, 1) := by decide +kernel
theorem d_H_countBreaks_34 : decode b_H_countBreaks 34 = .ok (.getfield 11, 3) := by decide +kernel
theorem d_H_countBreaks_37 : decode b_H_countBreaks 37 = .ok (.aload_n 0, 1) := by decide +kernel
theorem d_H_countBreaks_38 : decode b_H_countBreaks 38 = .ok (.getfield 41, 3) := by decide +kernel
theorem d_H_countBreaks_41 : decode b_H_countBreaks 41 = .ok (.aaload, 1) := by decide +kernel
theorem d_H_countBreaks_42 : decode b_H_countBreaks 42 = .ok (.invokevirtual 217, 3) := by decide +kernel
theorem d_H_countBreaks_45 : decode b_H_countBreaks 45 = .ok (.iadd, 1) := by decide +kernel
theorem d_H_countBreaks_46 : decode b_H_countBreaks 46 = .ok (.istore_n 1, 1) := by decide +kernel
theorem d_H_countBreaks_47 : decode b_H_countBreaks 47 = .ok (.iinc 2 1, 3) := by decide +kernel
theorem d_H_countBreaks_50 : decode b_H_countBreaks 50 = .ok (.goto (-46), 3) := by decide +kernel
theorem d_H_countBreaks_53 : decode b_H_countBreaks 53 = .ok (.iload_n 1, 1) := by decide +kernel
theorem d_H_countBreaks_54 : decode b_H_countBreaks 54 = .ok (.ireturn, 1) := by decide +kernel
def lay_H_countBreaks (pc : Nat) : List Nat := if pc = 0 then [0] else if pc = 4 then [0, 1, 2] else if pc = 47 then [0, 1, 2] else []
noncomputable def sg_H_countBreaks_0 (v0 : Nat) (w : hy_W) : Option hy_N := some (.inl (4, [.ref v0, .int 0, .int 0], w))
noncomputable def sg_H_countBreaks_4 (v0 : Nat) (v1 : Int32) (v2 : Int32) (w : hy_W) : Option hy_N := (hy_gr w v0 5 2).bind fun r1 => (hy_gi w r1 2 3).bind fun x2 => if x2 ≤ v2 then (some (.inr (.inl (some (.int v1)), w))) else (if hy_ob w v0 5 = true then hy_bi (f_H_startsWord [.ref v0, .int v2] w) fun x6 w4 => if x6 = 0 then (some (.inl (47, [.ref v0, .int v1, .int v2], w4))) else (if hy_ob w4 v0 5 = true then hy_bv (f_H_readWord [.ref v0, .int v2] w4) fun w9 => (hy_gr w9 v0 5 4).bind fun r13 => (hy_gr w9 v0 5 0).bind fun r14 => (hy_gi w9 v0 5 5).bind fun x15 => (hy_ar w9 2 r14 x15).bind fun r16 => if hy_ob w9 r13 3 = true then hy_bi (f_G_breakCount [.ref r13, .ref r16] w9) fun x19 w17 => some (.inl (47, [.ref v0, .int (v1 + x19), .int v2], w17)) else none else none) else none)
noncomputable def sg_H_countBreaks_47 (v0 : Nat) (v1 : Int32) (v2 : Int32) (w : hy_W) : Option hy_N := some (.inl (4, [.ref v0, .int v1, .int (v2 + 1)], w))
noncomputable def nx_H_countBreaks (q : hy_P) : Option hy_N := match q with
  | (0, [.ref v0], w) => sg_H_countBreaks_0 v0 w
  | (4, [.ref v0, .int v1, .int v2], w) => sg_H_countBreaks_4 v0 v1 v2 w
  | (47, [.ref v0, .int v1, .int v2], w) => sg_H_countBreaks_47 v0 v1 v2 w
  | _ => none
noncomputable def f_H_countBreaks (av : List Value) (w : hy_W) : Option hy_O := hy_fx nx_H_countBreaks (0, av, w)
set_option maxHeartbeats 4000000 in
set_option maxRecDepth 100000 in
theorem sk_H_countBreaks_0 {p : Program} {l : Launch} {e : Env} {s : State} {m : MethodId} {args : Array Value} {below : List Frame} {meth : Method} {c : Code} {G : hy_G} {A : Nat → Prop} {ad0 : Nat → Nat} {w0 : hy_W} {o : hy_O} (hl9 : l.flags = flags0) (hA : hy_A G ad0 w0 s.heap.size = A) (B : hy_B p l e (hy_rm 6 133 w0) s m args below meth c "HyphenPatterns" b_H_countBreaks 3 (some .int) [] G A) (v0 : Nat) (w : hy_W) (nx : hy_N) (h : sg_H_countBreaks_0 v0 w = some nx) (K : hy_Nx lay_H_countBreaks p l e (hy_rm 6 133 w0) s m args below meth c 3 G A ad0 w0.1.length (hy_Q below G ad0 w0 o args s) o nx) : hy_At lay_H_countBreaks p l e (hy_rm 6 133 w0) s m args below meth c 3 G A ad0 w0.1.length (hy_Q below G ad0 w0 o args s) (0, [.ref v0], w) := by
  intro ad H locs cells slots ls S hok hl
  have hx := B.1
  have hb := B.2.1
  dsimp only at S hok
  have hl : lv_has ls 3 [(0, .ref (ad v0))] := hl
  show W p l e (hy_rm 6 133 w0) s m args below meth c H locs cells slots (hy_Q below G ad0 w0 o args s) (F0 m 0 ls [])
  have hv_v0 : v0 < w.1.length := hok (.ref v0) (List.mem_of_getElem? (i := 0) rfl) v0 rfl
  obtain ⟨a_v0, ha_v0⟩ : ∃ a, ad v0 = a := ⟨_, rfl⟩
  rw [ha_v0] at hl
  unfold sg_H_countBreaks_0 at h
  refine lv_iconst (v := 0) hx hb d_H_countBreaks_0 (by decide) ?_
  refine lv_istore_n (lv' := [(1, .int 0), (0, .ref a_v0)]) hx hb d_H_countBreaks_1 rfl hl (Nat.le_of_ble_eq_true rfl) rfl (fun ls hl => ?_)
  refine lv_iconst (v := 0) hx hb d_H_countBreaks_2 (by decide) ?_
  refine lv_istore_n (lv' := [(2, .int 0), (1, .int 0), (0, .ref a_v0)]) hx hb d_H_countBreaks_3 rfl hl (Nat.le_of_ble_eq_true rfl) rfl (fun ls hl => ?_)
  cases h
  exact hy_jump K S (hy_okr (by omega) (hy_oki (hy_oki hy_ok0))) (lv_sub hl [2, 1, 0] rfl) (by subst ha_v0; rfl) (by subst ha_v0; rfl)
set_option maxHeartbeats 4000000 in
set_option maxRecDepth 100000 in
theorem sk_H_countBreaks_4 {p : Program} {l : Launch} {e : Env} {s : State} {m : MethodId} {args : Array Value} {below : List Frame} {meth : Method} {c : Code} {G : hy_G} {A : Nat → Prop} {ad0 : Nat → Nat} {w0 : hy_W} {o : hy_O} (hl9 : l.flags = flags0) (hA : hy_A G ad0 w0 s.heap.size = A) (B : hy_B p l e (hy_rm 6 133 w0) s m args below meth c "HyphenPatterns" b_H_countBreaks 3 (some .int) [] G A) (v0 : Nat) (v1 : Int32) (v2 : Int32) (w : hy_W) (nx : hy_N) (h : sg_H_countBreaks_4 v0 v1 v2 w = some nx) (K : hy_Nx lay_H_countBreaks p l e (hy_rm 6 133 w0) s m args below meth c 3 G A ad0 w0.1.length (hy_Q below G ad0 w0 o args s) o nx) : hy_At lay_H_countBreaks p l e (hy_rm 6 133 w0) s m args below meth c 3 G A ad0 w0.1.length (hy_Q below G ad0 w0 o args s) (4, [.ref v0, .int v1, .int v2], w) := by
  intro ad H locs cells slots ls S hok hl
  have hx := B.1
  have hb := B.2.1
  dsimp only at S hok
  have hl : lv_has ls 3 [(0, .ref (ad v0)), (1, .int v1), (2, .int v2)] := hl
  show W p l e (hy_rm 6 133 w0) s m args below meth c H locs cells slots (hy_Q below G ad0 w0 o args s) (F0 m 4 ls [])
  have hv_v0 : v0 < w.1.length := hok (.ref v0) (List.mem_of_getElem? (i := 0) rfl) v0 rfl
  obtain ⟨a_v0, ha_v0⟩ : ∃ a, ad v0 = a := ⟨_, rfl⟩
  rw [ha_v0] at hl
  unfold sg_H_countBreaks_4 at h
  refine lv_iload_n hx hb d_H_countBreaks_4 rfl (lv_at hl 2 rfl) ?_
  refine lv_aload_n hx hb d_H_countBreaks_5 rfl (lv_at hl 0 rfl) ?_
  obtain ⟨r1, hr1, h⟩ := hy_bd h
  refine hy_getr B S ha_v0 hr1 rfl (Nat.le_of_ble_eq_true rfl) i_5 (j := 2) tw_165 (fun _ h => h) d_H_countBreaks_6 (fun a_r1 ha_r1 hv_r1 => ?_)
  obtain ⟨x2, hx2, h⟩ := hy_bd h
  refine hy_geti B S ha_r1 hx2 rfl (Nat.le_of_ble_eq_true rfl) i_2 (j := 3) tw_46 (fun _ h => h) d_H_countBreaks_9 ?_
  refine lv_icmp_ge (tgt := 53) hx hb d_H_countBreaks_12 (by decide) (fun c3 => ?_) (fun c3 => ?_)
  · rw [if_pos c3] at h
    refine lv_iload_n hx hb d_H_countBreaks_53 rfl (lv_at hl 1 rfl) ?_
    cases h
    cases K
    exact hy_iret hA B S d_H_countBreaks_54
  · rw [if_neg c3] at h
    refine lv_aload_n hx hb d_H_countBreaks_15 rfl (lv_at hl 0 rfl) ?_
    refine lv_iload_n hx hb d_H_countBreaks_16 rfl (lv_at hl 2 rfl) ?_
    obtain ⟨ob7, h⟩ := hy_if h
    obtain ⟨fs_ob7, hf_ob7, hg_ob7⟩ := hy_ob_spec ob7
    obtain ⟨x6, w4, hq_w4, h⟩ := hy_bi_spec h
    refine hy_calli (hy_runV (rest := []) (As := [.int v2]) (r := v0) (b := a_v0) B S rfl ha_v0 (by rfl) (c_H_startsWord hl9 G ad hq_w4) (hy_okr (by omega) (hy_oki hy_ok0)) tw_213 tw_1 tw_210 tw_212 sl_H_startsWord (by decide) rfl (Nat.le_of_ble_eq_true rfl) (Nat.le_of_ble_eq_true rfl) hf_ob7 hg_ob7 rfl hl.1 (Nat.le_of_ble_eq_true rfl) d_H_countBreaks_17) (fun ad5 H locs cells slots hag hl_w4 S => ?_)
    have ha_v0 : ad5 v0 = a_v0 := (hag v0 (by omega)).trans ha_v0
    refine lv_if_eq (tgt := 47) hx hb d_H_countBreaks_20 (by decide) (fun c8 => ?_) (fun c8 => ?_)
    · rw [if_pos c8] at h
      cases h
      exact hy_jump K S (hy_okr (by omega) (hy_oki (hy_oki hy_ok0))) (lv_sub hl [0, 1, 2] rfl) (by subst ha_v0; rfl) (by subst ha_v0; rfl)
    · rw [if_neg c8] at h
      refine lv_aload_n hx hb d_H_countBreaks_23 rfl (lv_at hl 0 rfl) ?_
      refine lv_iload_n hx hb d_H_countBreaks_24 rfl (lv_at hl 2 rfl) ?_
      obtain ⟨ob12, h⟩ := hy_if h
      obtain ⟨fs_ob12, hf_ob12, hg_ob12⟩ := hy_ob_spec ob12
      obtain ⟨w9, hq_w9, h⟩ := hy_bv_spec h
      refine hy_callv (hy_runV (rest := []) (As := [.int v2]) (r := v0) (b := a_v0) B S rfl ha_v0 (by rfl) (c_H_readWord hl9 G ad5 hq_w9) (hy_okr (by omega) (hy_oki hy_ok0)) tw_241 tw_1 tw_238 tw_240 sl_H_readWord (by decide) rfl (Nat.le_of_ble_eq_true rfl) (Nat.le_of_ble_eq_true rfl) hf_ob12 hg_ob12 rfl hl.1 (Nat.le_of_ble_eq_true rfl) d_H_countBreaks_25) (fun ad10 H locs cells slots hag hl_w9 S => ?_)
      have ha_v0 : ad10 v0 = a_v0 := (hag v0 (by omega)).trans ha_v0
      refine lv_iload_n hx hb d_H_countBreaks_28 rfl (lv_at hl 1 rfl) ?_
      refine lv_aload_n hx hb d_H_countBreaks_29 rfl (lv_at hl 0 rfl) ?_
      obtain ⟨r13, hr13, h⟩ := hy_bd h
      refine hy_getr B S ha_v0 hr13 rfl (Nat.le_of_ble_eq_true rfl) i_5 (j := 4) tw_167 (fun _ h => h) d_H_countBreaks_30 (fun a_r13 ha_r13 hv_r13 => ?_)
      refine lv_aload_n hx hb d_H_countBreaks_33 rfl (lv_at hl 0 rfl) ?_
      obtain ⟨r14, hr14, h⟩ := hy_bd h
      refine hy_getr B S ha_v0 hr14 rfl (Nat.le_of_ble_eq_true rfl) i_5 (j := 0) tw_163 (fun _ h => h) d_H_countBreaks_34 (fun a_r14 ha_r14 hv_r14 => ?_)
      refine lv_aload_n hx hb d_H_countBreaks_37 rfl (lv_at hl 0 rfl) ?_
      obtain ⟨x15, hx15, h⟩ := hy_bd h
      refine hy_geti B S ha_v0 hx15 rfl (Nat.le_of_ble_eq_true rfl) i_5 (j := 5) tw_168 (fun _ h => h) d_H_countBreaks_38 ?_
      obtain ⟨r16, hr16, h⟩ := hy_bd h
      refine hy_aald B S ha_r14 (Or.inl rfl) hr16 d_H_countBreaks_41 (fun a_r16 ha_r16 hv_r16 => ?_)
      obtain ⟨ob20, h⟩ := hy_if h
      obtain ⟨fs_ob20, hf_ob20, hg_ob20⟩ := hy_ob_spec ob20
      obtain ⟨x19, w17, hq_w17, h⟩ := hy_bi_spec h
      refine hy_calli (hy_runV (rest := [.int v1]) (As := [.ref a_r16]) (r := r13) (b := a_r13) B S rfl ha_r13 (by subst ha_r16; rfl) (c_G_breakCount hl9 G ad10 hq_w17) (hy_okr (by omega) (hy_okr (by omega) hy_ok0)) tw_294 tw_4 tw_291 tw_292 sl_G_breakCount (by decide) rfl (Nat.le_of_ble_eq_true rfl) (Nat.le_of_ble_eq_true rfl) hf_ob20 hg_ob20 rfl hl.1 (Nat.le_of_ble_eq_true rfl) d_H_countBreaks_42) (fun ad18 H locs cells slots hag hl_w17 S => ?_)
      have ha_v0 : ad18 v0 = a_v0 := (hag v0 (by omega)).trans ha_v0
      refine lv_iadd hx hb d_H_countBreaks_45 ?_
      refine lv_istore_n (lv' := [(1, .int (v1 + x19)), (0, .ref a_v0), (2, .int v2)]) hx hb d_H_countBreaks_46 rfl hl (Nat.le_of_ble_eq_true rfl) rfl (fun ls hl => ?_)
      cases h
      exact hy_jump K S (hy_okr (by omega) (hy_oki (hy_oki hy_ok0))) (lv_sub hl [1, 0, 2] rfl) (by subst ha_v0; rfl) (by subst ha_v0; rfl)
set_option maxHeartbeats 4000000 in
set_option maxRecDepth 100000 in
theorem sk_H_countBreaks_47 {p : Program} {l : Launch} {e : Env} {s : State} {m : MethodId} {args : Array Value} {below : List Frame} {meth : Method} {c : Code} {G : hy_G} {A : Nat → Prop} {ad0 : Nat → Nat} {w0 : hy_W} {o : hy_O} (hl9 : l.flags = flags0) (hA : hy_A G ad0 w0 s.heap.size = A) (B : hy_B p l e (hy_rm 6 133 w0) s m args below meth c "HyphenPatterns" b_H_countBreaks 3 (some .int) [] G A) (v0 : Nat) (v1 : Int32) (v2 : Int32) (w : hy_W) (nx : hy_N) (h : sg_H_countBreaks_47 v0 v1 v2 w = some nx) (K : hy_Nx lay_H_countBreaks p l e (hy_rm 6 133 w0) s m args below meth c 3 G A ad0 w0.1.length (hy_Q below G ad0 w0 o args s) o nx) : hy_At lay_H_countBreaks p l e (hy_rm 6 133 w0) s m args below meth c 3 G A ad0 w0.1.length (hy_Q below G ad0 w0 o args s) (47, [.ref v0, .int v1, .int v2], w) := by
  intro ad H locs cells slots ls S hok hl
  have hx := B.1
  have hb := B.2.1
  dsimp only at S hok
  have hl : lv_has ls 3 [(0, .ref (ad v0)), (1, .int v1), (2, .int v2)] := hl
  show W p l e (hy_rm 6 133 w0) s m args below meth c H locs cells slots (hy_Q below G ad0 w0 o args s) (F0 m 47 ls [])
  have hv_v0 : v0 < w.1.length := hok (.ref v0) (List.mem_of_getElem? (i := 0) rfl) v0 rfl
  obtain ⟨a_v0, ha_v0⟩ : ∃ a, ad v0 = a := ⟨_, rfl⟩
  rw [ha_v0] at hl
  unfold sg_H_countBreaks_47 at h
  refine lv_iinc (v := (v2 + 1)) (lv' := [(2, .int (v2 + 1)), (0, .ref a_v0), (1, .int v1)]) hx hb d_H_countBreaks_47 hl (k := 2) rfl rfl (Nat.le_of_ble_eq_true rfl) rfl (fun ls hl => ?_)
  refine lv_goto (tgt := 4) hx hb d_H_countBreaks_50 (by decide) ?_
  cases h
  exact hy_jump K S (hy_okr (by omega) (hy_oki (hy_oki hy_ok0))) (lv_sub hl [1, 2, 0] rfl) (by subst ha_v0; rfl) (by subst ha_v0; rfl)
theorem nk_H_countBreaks {p : Program} {l : Launch} {e : Env} {s : State} {m : MethodId} {args : Array Value} {below : List Frame} {meth : Method} {c : Code} {G : hy_G} {A : Nat → Prop} {ad0 : Nat → Nat} {w0 : hy_W} {o : hy_O} (hl9 : l.flags = flags0) (hA : hy_A G ad0 w0 s.heap.size = A) (B : hy_B p l e (hy_rm 6 133 w0) s m args below meth c "HyphenPatterns" b_H_countBreaks 3 (some .int) [] G A) (q : hy_P) (nx : hy_N) (hq : nx_H_countBreaks q = some nx) (K : hy_Nx lay_H_countBreaks p l e (hy_rm 6 133 w0) s m args below meth c 3 G A ad0 w0.1.length (hy_Q below G ad0 w0 o args s) o nx) : hy_At lay_H_countBreaks p l e (hy_rm 6 133 w0) s m args below meth c 3 G A ad0 w0.1.length (hy_Q below G ad0 w0 o args s) q := by
  unfold nx_H_countBreaks at hq
  split at hq
  · exact sk_H_countBreaks_0 hl9 hA B _ _ nx hq K
  · exact sk_H_countBreaks_4 hl9 hA B _ _ _ _ nx hq K
  · exact sk_H_countBreaks_47 hl9 hA B _ _ _ _ nx hq K
  · cases hq
theorem c_H_countBreaks {l : Launch} (hl9 : l.flags = flags0) (G : hy_G) (ad : Nat → Nat) {v0 : Nat} {w : hy_W} {o : hy_O} (h : f_H_countBreaks [.ref v0] w = some o) : hy_M l y_H_countBreaks (Cond.code y_H_countBreaks b_H_countBreaks 3 (some .int) :: hy_T) 6 133 G ad [.ref v0] w o := by
  obtain ⟨n, hn⟩ := hy_fx_iff.mp h
  refine hy_ofW hl9 (by decide +kernel) (Nat.le_of_ble_eq_true rfl) (fun p e s m args below meth c A hA hi B S hok ls hl => ?_)
  exact hy_loop (nk_H_countBreaks hl9 hA B) n _ hn ad s.heap [] 0 0 ls S hok hl
