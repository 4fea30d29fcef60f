/-! BODIES (printed by our translator): H_countMatches, H_count, H_choose, X_choose, H_isCharacter, L_addRange, H_letters, X_letters, H_least, X_least, N_offer -/
theorem d_H_countMatches_0 : decode b_H_countMatches 0 = .ok (.iconst 0, 1) := by decide +kernel
theorem d_H_countMatches_1 : decode b_H_countMatches 1 = .ok (.istore_n 1, 1) := by decide +kernel
theorem d_H_countMatches_2 : decode b_H_countMatches 2 = .ok (.iconst 0, 1) := by decide +kernel
theorem d_H_countMatches_3 : decode b_H_countMatches 3 = .ok (.istore_n 2, 1) := by decide +kernel
theorem d_H_countMatches_4 : decode b_H_countMatches 4 = .ok (.iload_n 2, 1) := by decide +kernel
theorem d_H_countMatches_5 : decode b_H_countMatches 5 = .ok (.aload_n 0, 1) := by decide +kernel
theorem d_H_countMatches_6 : decode b_H_countMatches 6 = .ok (.getfield 24, 3) := by decide +kernel
theorem d_H_countMatches_9 : decode b_H_countMatches 9 = .ok (.getfield 129, 3) := by decide +kernel
theorem d_H_countMatches_12 : decode b_H_countMatches 12 = .ok (.if_icmp .ge 32, 3) := by decide +kernel
theorem d_H_countMatches_15 : decode b_H_countMatches 15 = .ok (.aload_n 0, 1) := by decide +kernel
theorem d_H_countMatches_16 : decode b_H_countMatches 16 = .ok (.iload_n 2, 1) := by decide +kernel
theorem d_H_countMatches_17 : decode b_H_countMatches 17 = .ok (.invokevirtual 151, 3) := by decide +kernel
theorem d_H_countMatches_20 : decode b_H_countMatches 20 = .ok (.ifCond .eq 18, 3) := by decide +kernel
theorem d_H_countMatches_23 : decode b_H_countMatches 23 = .ok (.aload_n 0, 1) := by decide +kernel
theorem d_H_countMatches_24 : decode b_H_countMatches 24 = .ok (.iload_n 2, 1) := by decide +kernel
theorem d_H_countMatches_25 : decode b_H_countMatches 25 = .ok (.invokevirtual 140, 3) := by decide +kernel
theorem d_H_countMatches_28 : decode b_H_countMatches 28 = .ok (.iload_n 1, 1) := by decide +kernel
theorem d_H_countMatches_29 : decode b_H_countMatches 29 = .ok (.aload_n 0, 1) := by decide +kernel
theorem d_H_countMatches_30 : decode b_H_countMatches 30 = .ok (.getfield 37, 3) := by decide +kernel
theorem d_H_countMatches_33 : decode b_H_countMatches 33 = .ok (.getfield 221, 3) := by decide +kernel
theorem d_H_countMatches_36 : decode b_H_countMatches 36 = .ok (.iadd, 1) := by decide +kernel
theorem d_H_countMatches_37 : decode b_H_countMatches 37 = .ok (.istore_n 1, 1) := by decide +kernel
theorem d_H_countMatches_38 : decode b_H_countMatches 38 = .ok (.iinc 2 1, 3) := by decide +kernel
theorem d_H_countMatches_41 : decode b_H_countMatches 41 = .ok (.goto (-37), 3) := by decide +kernel
theorem d_H_countMatches_44 : decode b_H_countMatches 44 = .ok (.iload_n 1, 1) := by decide +kernel
theorem d_H_countMatches_45 : decode b_H_countMatches 45 = .ok (.ireturn, 1) := by decide +kernel
def lay_H_countMatches (pc : Nat) : List Nat := if pc = 0 then [0] else if pc = 4 then [0, 1, 2] else if pc = 38 then [0, 1, 2] else []
noncomputable def sg_H_countMatches_0 (v0 : Nat) (w : hy_W) : Option hy_N := some (.inl (4, [.ref v0, .int 0, .int 0], w))
noncomputable def sg_H_countMatches_4 (v0 : Nat) (v1 : Int32) (v2 : Int32) (w : hy_W) : Option hy_N := (hy_gr w v0 5 2).bind fun r1 => (hy_gi w r1 2 3).bind fun x2 => if x2 ≤ v2 then (some (.inr (.inl (some (.int v1)), w))) else (if hy_ob w v0 5 = true then hy_bi (f_H_startsWord [.ref v0, .int v2] w) fun x6 w4 => if x6 = 0 then (some (.inl (38, [.ref v0, .int v1, .int v2], w4))) else (if hy_ob w4 v0 5 = true then hy_bv (f_H_readWord [.ref v0, .int v2] w4) fun w9 => (hy_gr w9 v0 5 4).bind fun r13 => (hy_gi w9 r13 3 4).bind fun x14 => some (.inl (38, [.ref v0, .int (v1 + x14), .int v2], w9)) else none) else none)
noncomputable def sg_H_countMatches_38 (v0 : Nat) (v1 : Int32) (v2 : Int32) (w : hy_W) : Option hy_N := some (.inl (4, [.ref v0, .int v1, .int (v2 + 1)], w))
noncomputable def nx_H_countMatches (q : hy_P) : Option hy_N := match q with
  | (0, [.ref v0], w) => sg_H_countMatches_0 v0 w
  | (4, [.ref v0, .int v1, .int v2], w) => sg_H_countMatches_4 v0 v1 v2 w
  | (38, [.ref v0, .int v1, .int v2], w) => sg_H_countMatches_38 v0 v1 v2 w
  | _ => none
noncomputable def f_H_countMatches (av : List Value) (w : hy_W) : Option hy_O := hy_fx nx_H_countMatches (0, av, w)
set_option maxHeartbeats 4000000 in
set_option maxRecDepth 100000 in
theorem sk_H_countMatches_0 {p : Program} {l : Launch} {e : Env} {s : State} {m : MethodId} {args : Array Value} {below : List Frame} {meth : Method} {c : Code} {G : hy_G} {A : Nat → Prop} {ad0 : Nat → Nat} {w0 : hy_W} {o : hy_O} (hl9 : l.flags = flags0) (hA : hy_A G ad0 w0 s.heap.size = A) (B : hy_B p l e (hy_rm 6 133 w0) s m args below meth c "HyphenPatterns" b_H_countMatches 3 (some .int) [] G A) (v0 : Nat) (w : hy_W) (nx : hy_N) (h : sg_H_countMatches_0 v0 w = some nx) (K : hy_Nx lay_H_countMatches p l e (hy_rm 6 133 w0) s m args below meth c 3 G A ad0 w0.1.length (hy_Q below G ad0 w0 o args s) o nx) : hy_At lay_H_countMatches p l e (hy_rm 6 133 w0) s m args below meth c 3 G A ad0 w0.1.length (hy_Q below G ad0 w0 o args s) (0, [.ref v0], w) := by
  intro ad H locs cells slots ls S hok hl
  have hx := B.1
  have hb := B.2.1
  dsimp only at S hok
  have hl : lv_has ls 3 [(0, .ref (ad v0))] := hl
  show W p l e (hy_rm 6 133 w0) s m args below meth c H locs cells slots (hy_Q below G ad0 w0 o args s) (F0 m 0 ls [])
  have hv_v0 : v0 < w.1.length := hok (.ref v0) (List.mem_of_getElem? (i := 0) rfl) v0 rfl
  obtain ⟨a_v0, ha_v0⟩ : ∃ a, ad v0 = a := ⟨_, rfl⟩
  rw [ha_v0] at hl
  unfold sg_H_countMatches_0 at h
  refine lv_iconst (v := 0) hx hb d_H_countMatches_0 (by decide) ?_
  refine lv_istore_n (lv' := [(1, .int 0), (0, .ref a_v0)]) hx hb d_H_countMatches_1 rfl hl (Nat.le_of_ble_eq_true rfl) rfl (fun ls hl => ?_)
  refine lv_iconst (v := 0) hx hb d_H_countMatches_2 (by decide) ?_
  refine lv_istore_n (lv' := [(2, .int 0), (1, .int 0), (0, .ref a_v0)]) hx hb d_H_countMatches_3 rfl hl (Nat.le_of_ble_eq_true rfl) rfl (fun ls hl => ?_)
  cases h
  exact hy_jump K S (hy_okr (by omega) (hy_oki (hy_oki hy_ok0))) (lv_sub hl [2, 1, 0] rfl) (by subst ha_v0; rfl) (by subst ha_v0; rfl)
set_option maxHeartbeats 4000000 in
set_option maxRecDepth 100000 in
theorem sk_H_countMatches_4 {p : Program} {l : Launch} {e : Env} {s : State} {m : MethodId} {args : Array Value} {below : List Frame} {meth : Method} {c : Code} {G : hy_G} {A : Nat → Prop} {ad0 : Nat → Nat} {w0 : hy_W} {o : hy_O} (hl9 : l.flags = flags0) (hA : hy_A G ad0 w0 s.heap.size = A) (B : hy_B p l e (hy_rm 6 133 w0) s m args below meth c "HyphenPatterns" b_H_countMatches 3 (some .int) [] G A) (v0 : Nat) (v1 : Int32) (v2 : Int32) (w : hy_W) (nx : hy_N) (h : sg_H_countMatches_4 v0 v1 v2 w = some nx) (K : hy_Nx lay_H_countMatches p l e (hy_rm 6 133 w0) s m args below meth c 3 G A ad0 w0.1.length (hy_Q below G ad0 w0 o args s) o nx) : hy_At lay_H_countMatches p l e (hy_rm 6 133 w0) s m args below meth c 3 G A ad0 w0.1.length (hy_Q below G ad0 w0 o args s) (4, [.ref v0, .int v1, .int v2], w) := by
  intro ad H locs cells slots ls S hok hl
  have hx := B.1
  have hb := B.2.1
  dsimp only at S hok
  have hl : lv_has ls 3 [(0, .ref (ad v0)), (1, .int v1), (2, .int v2)] := hl
  show W p l e (hy_rm 6 133 w0) s m args below meth c H locs cells slots (hy_Q below G ad0 w0 o args s) (F0 m 4 ls [])
  have hv_v0 : v0 < w.1.length := hok (.ref v0) (List.mem_of_getElem? (i := 0) rfl) v0 rfl
  obtain ⟨a_v0, ha_v0⟩ : ∃ a, ad v0 = a := ⟨_, rfl⟩
  rw [ha_v0] at hl
  unfold sg_H_countMatches_4 at h
  refine lv_iload_n hx hb d_H_countMatches_4 rfl (lv_at hl 2 rfl) ?_
  refine lv_aload_n hx hb d_H_countMatches_5 rfl (lv_at hl 0 rfl) ?_
  obtain ⟨r1, hr1, h⟩ := hy_bd h
  refine hy_getr B S ha_v0 hr1 rfl (Nat.le_of_ble_eq_true rfl) i_5 (j := 2) tw_165 (fun _ h => h) d_H_countMatches_6 (fun a_r1 ha_r1 hv_r1 => ?_)
  obtain ⟨x2, hx2, h⟩ := hy_bd h
  refine hy_geti B S ha_r1 hx2 rfl (Nat.le_of_ble_eq_true rfl) i_2 (j := 3) tw_46 (fun _ h => h) d_H_countMatches_9 ?_
  refine lv_icmp_ge (tgt := 44) hx hb d_H_countMatches_12 (by decide) (fun c3 => ?_) (fun c3 => ?_)
  · rw [if_pos c3] at h
    refine lv_iload_n hx hb d_H_countMatches_44 rfl (lv_at hl 1 rfl) ?_
    cases h
    cases K
    exact hy_iret hA B S d_H_countMatches_45
  · rw [if_neg c3] at h
    refine lv_aload_n hx hb d_H_countMatches_15 rfl (lv_at hl 0 rfl) ?_
    refine lv_iload_n hx hb d_H_countMatches_16 rfl (lv_at hl 2 rfl) ?_
    obtain ⟨ob7, h⟩ := hy_if h
    obtain ⟨fs_ob7, hf_ob7, hg_ob7⟩ := hy_ob_spec ob7
    obtain ⟨x6, w4, hq_w4, h⟩ := hy_bi_spec h
    refine hy_calli (hy_runV (rest := []) (As := [.int v2]) (r := v0) (b := a_v0) B S rfl ha_v0 (by rfl) (c_H_startsWord hl9 G ad hq_w4) (hy_okr (by omega) (hy_oki hy_ok0)) tw_213 tw_1 tw_210 tw_212 sl_H_startsWord (by decide) rfl (Nat.le_of_ble_eq_true rfl) (Nat.le_of_ble_eq_true rfl) hf_ob7 hg_ob7 rfl hl.1 (Nat.le_of_ble_eq_true rfl) d_H_countMatches_17) (fun ad5 H locs cells slots hag hl_w4 S => ?_)
    have ha_v0 : ad5 v0 = a_v0 := (hag v0 (by omega)).trans ha_v0
    refine lv_if_eq (tgt := 38) hx hb d_H_countMatches_20 (by decide) (fun c8 => ?_) (fun c8 => ?_)
    · rw [if_pos c8] at h
      cases h
      exact hy_jump K S (hy_okr (by omega) (hy_oki (hy_oki hy_ok0))) (lv_sub hl [0, 1, 2] rfl) (by subst ha_v0; rfl) (by subst ha_v0; rfl)
    · rw [if_neg c8] at h
      refine lv_aload_n hx hb d_H_countMatches_23 rfl (lv_at hl 0 rfl) ?_
      refine lv_iload_n hx hb d_H_countMatches_24 rfl (lv_at hl 2 rfl) ?_
      obtain ⟨ob12, h⟩ := hy_if h
      obtain ⟨fs_ob12, hf_ob12, hg_ob12⟩ := hy_ob_spec ob12
      obtain ⟨w9, hq_w9, h⟩ := hy_bv_spec h
      refine hy_callv (hy_runV (rest := []) (As := [.int v2]) (r := v0) (b := a_v0) B S rfl ha_v0 (by rfl) (c_H_readWord hl9 G ad5 hq_w9) (hy_okr (by omega) (hy_oki hy_ok0)) tw_241 tw_1 tw_238 tw_240 sl_H_readWord (by decide) rfl (Nat.le_of_ble_eq_true rfl) (Nat.le_of_ble_eq_true rfl) hf_ob12 hg_ob12 rfl hl.1 (Nat.le_of_ble_eq_true rfl) d_H_countMatches_25) (fun ad10 H locs cells slots hag hl_w9 S => ?_)
      have ha_v0 : ad10 v0 = a_v0 := (hag v0 (by omega)).trans ha_v0
      refine lv_iload_n hx hb d_H_countMatches_28 rfl (lv_at hl 1 rfl) ?_
      refine lv_aload_n hx hb d_H_countMatches_29 rfl (lv_at hl 0 rfl) ?_
      obtain ⟨r13, hr13, h⟩ := hy_bd h
      refine hy_getr B S ha_v0 hr13 rfl (Nat.le_of_ble_eq_true rfl) i_5 (j := 4) tw_167 (fun _ h => h) d_H_countMatches_30 (fun a_r13 ha_r13 hv_r13 => ?_)
      obtain ⟨x14, hx14, h⟩ := hy_bd h
      refine hy_geti B S ha_r13 hx14 rfl (Nat.le_of_ble_eq_true rfl) i_3 (j := 4) tw_86 (fun _ h => h) d_H_countMatches_33 ?_
      refine lv_iadd hx hb d_H_countMatches_36 ?_
      refine lv_istore_n (lv' := [(1, .int (v1 + x14)), (0, .ref a_v0), (2, .int v2)]) hx hb d_H_countMatches_37 rfl hl (Nat.le_of_ble_eq_true rfl) rfl (fun ls hl => ?_)
      cases h
      exact hy_jump K S (hy_okr (by omega) (hy_oki (hy_oki hy_ok0))) (lv_sub hl [1, 0, 2] rfl) (by subst ha_v0; rfl) (by subst ha_v0; rfl)
set_option maxHeartbeats 4000000 in
set_option maxRecDepth 100000 in
theorem sk_H_countMatches_38 {p : Program} {l : Launch} {e : Env} {s : State} {m : MethodId} {args : Array Value} {below : List Frame} {meth : Method} {c : Code} {G : hy_G} {A : Nat → Prop} {ad0 : Nat → Nat} {w0 : hy_W} {o : hy_O} (hl9 : l.flags = flags0) (hA : hy_A G ad0 w0 s.heap.size = A) (B : hy_B p l e (hy_rm 6 133 w0) s m args below meth c "HyphenPatterns" b_H_countMatches 3 (some .int) [] G A) (v0 : Nat) (v1 : Int32) (v2 : Int32) (w : hy_W) (nx : hy_N) (h : sg_H_countMatches_38 v0 v1 v2 w = some nx) (K : hy_Nx lay_H_countMatches p l e (hy_rm 6 133 w0) s m args below meth c 3 G A ad0 w0.1.length (hy_Q below G ad0 w0 o args s) o nx) : hy_At lay_H_countMatches p l e (hy_rm 6 133 w0) s m args below meth c 3 G A ad0 w0.1.length (hy_Q below G ad0 w0 o args s) (38, [.ref v0, .int v1, .int v2], w) := by
  intro ad H locs cells slots ls S hok hl
  have hx := B.1
  have hb := B.2.1
  dsimp only at S hok
  have hl : lv_has ls 3 [(0, .ref (ad v0)), (1, .int v1), (2, .int v2)] := hl
  show W p l e (hy_rm 6 133 w0) s m args below meth c H locs cells slots (hy_Q below G ad0 w0 o args s) (F0 m 38 ls [])
  have hv_v0 : v0 < w.1.length := hok (.ref v0) (List.mem_of_getElem? (i := 0) rfl) v0 rfl
  obtain ⟨a_v0, ha_v0⟩ : ∃ a, ad v0 = a := ⟨_, rfl⟩
  rw [ha_v0] at hl
  unfold sg_H_countMatches_38 at h
  refine lv_iinc (v := (v2 + 1)) (lv' := [(2, .int (v2 + 1)), (0, .ref a_v0), (1, .int v1)]) hx hb d_H_countMatches_38 hl (k := 2) rfl rfl (Nat.le_of_ble_eq_true rfl) rfl (fun ls hl => ?_)
  refine lv_goto (tgt := 4) hx hb d_H_countMatches_41 (by decide) ?_
  cases h
  exact hy_jump K S (hy_okr (by omega) (hy_oki (hy_oki hy_ok0))) (lv_sub hl [1, 2, 0] rfl) (by subst ha_v0; rfl) (by subst ha_v0; rfl)
theorem nk_H_countMatches {p : Program} {l : Launch} {e : Env} {s : State} {m : MethodId} {args : Array Value} {below : List Frame} {meth : Method} {c : Code} {G : hy_G} {A : Nat → Prop} {ad0 : Nat → Nat} {w0 : hy_W} {o : hy_O} (hl9 : l.flags = flags0) (hA : hy_A G ad0 w0 s.heap.size = A) (B : hy_B p l e (hy_rm 6 133 w0) s m args below meth c "HyphenPatterns" b_H_countMatches 3 (some .int) [] G A) (q : hy_P) (nx : hy_N) (hq : nx_H_countMatches q = some nx) (K : hy_Nx lay_H_countMatches p l e (hy_rm 6 133 w0) s m args below meth c 3 G A ad0 w0.1.length (hy_Q below G ad0 w0 o args s) o nx) : hy_At lay_H_countMatches p l e (hy_rm 6 133 w0) s m args below meth c 3 G A ad0 w0.1.length (hy_Q below G ad0 w0 o args s) q := by
  unfold nx_H_countMatches at hq
  split at hq
  · exact sk_H_countMatches_0 hl9 hA B _ _ nx hq K
  · exact sk_H_countMatches_4 hl9 hA B _ _ _ _ nx hq K
  · exact sk_H_countMatches_38 hl9 hA B _ _ _ _ nx hq K
  · cases hq
theorem c_H_countMatches {l : Launch} (hl9 : l.flags = flags0) (G : hy_G) (ad : Nat → Nat) {v0 : Nat} {w : hy_W} {o : hy_O} (h : f_H_countMatches [.ref v0] w = some o) : hy_M l y_H_countMatches (Cond.code y_H_countMatches b_H_countMatches 3 (some .int) :: hy_T) 6 133 G ad [.ref v0] w o := by
  obtain ⟨n, hn⟩ := hy_fx_iff.mp h
  refine hy_ofW hl9 (by decide +kernel) (Nat.le_of_ble_eq_true rfl) (fun p e s m args below meth c A hA hi B S hok ls hl => ?_)
  exact hy_loop (nk_H_countMatches hl9 hA B) n _ hn ad s.heap [] 0 0 ls S hok hl
theorem d_H_count_0 : decode b_H_count 0 = .ok (.iload_n 1, 1) := by decide +kernel
theorem d_H_count_1 : decode b_H_count 1 = .ok (.tableswitch 82 0 4 #[35, 40, 45, 50, 66], 35) := by decide +kernel
theorem d_H_count_36 : decode b_H_count 36 = .ok (.aload_n 0, 1) := by decide +kernel
theorem d_H_count_37 : decode b_H_count 37 = .ok (.invokevirtual 157, 3) := by decide +kernel
theorem d_H_count_40 : decode b_H_count 40 = .ok (.ireturn, 1) := by decide +kernel
theorem d_H_count_41 : decode b_H_count 41 = .ok (.aload_n 0, 1) := by decide +kernel
theorem d_H_count_42 : decode b_H_count 42 = .ok (.invokevirtual 160, 3) := by decide +kernel
theorem d_H_count_45 : decode b_H_count 45 = .ok (.ireturn, 1) := by decide +kernel
theorem d_H_count_46 : decode b_H_count 46 = .ok (.aload_n 0, 1) := by decide +kernel
theorem d_H_count_47 : decode b_H_count 47 = .ok (.invokevirtual 163, 3) := by decide +kernel
theorem d_H_count_50 : decode b_H_count 50 = .ok (.ireturn, 1) := by decide +kernel
theorem d_H_count_51 : decode b_H_count 51 = .ok (.aload_n 0, 1) := by decide +kernel
theorem d_H_count_52 : decode b_H_count 52 = .ok (.getfield 11, 3) := by decide +kernel
theorem d_H_count_55 : decode b_H_count 55 = .ok (.aload_n 0, 1) := by decide +kernel
theorem d_H_count_56 : decode b_H_count 56 = .ok (.getfield 41, 3) := by decide +kernel
theorem d_H_count_59 : decode b_H_count 59 = .ok (.aaload, 1) := by decide +kernel
theorem d_H_count_60 : decode b_H_count 60 = .ok (.getfield 99, 3) := by decide +kernel
theorem d_H_count_63 : decode b_H_count 63 = .ok (.invokevirtual 121, 3) := by decide +kernel
theorem d_H_count_66 : decode b_H_count 66 = .ok (.ireturn, 1) := by decide +kernel
theorem d_H_count_67 : decode b_H_count 67 = .ok (.aload_n 0, 1) := by decide +kernel
theorem d_H_count_68 : decode b_H_count 68 = .ok (.getfield 11, 3) := by decide +kernel
theorem d_H_count_71 : decode b_H_count 71 = .ok (.aload_n 0, 1) := by decide +kernel
theorem d_H_count_72 : decode b_H_count 72 = .ok (.getfield 41, 3) := by decide +kernel
theorem d_H_count_75 : decode b_H_count 75 = .ok (.aaload, 1) := by decide +kernel
theorem d_H_count_76 : decode b_H_count 76 = .ok (.getfield 115, 3) := by decide +kernel
theorem d_H_count_79 : decode b_H_count 79 = .ok (.invokevirtual 121, 3) := by decide +kernel
theorem d_H_count_82 : decode b_H_count 82 = .ok (.ireturn, 1) := by decide +kernel
theorem d_H_count_83 : decode b_H_count 83 = .ok (.iconst (-1), 1) := by decide +kernel
theorem d_H_count_84 : decode b_H_count 84 = .ok (.ireturn, 1) := by decide +kernel
def lay_H_count (pc : Nat) : List Nat := if pc = 0 then [0, 1] else []
noncomputable def sg_H_count_0 (v0 : Nat) (v1 : Int32) (w : hy_W) : Option hy_N := if v1 = (0 : Int32) then (if hy_ob w v0 5 = true then hy_bi (f_H_countWords [.ref v0] w) fun x3 w1 => some (.inr (.inl (some (.int x3)), w1)) else none) else (if v1 = (1 : Int32) then (if hy_ob w v0 5 = true then hy_bi (f_H_countBreaks [.ref v0] w) fun x7 w5 => some (.inr (.inl (some (.int x7)), w5)) else none) else (if v1 = (2 : Int32) then (if hy_ob w v0 5 = true then hy_bi (f_H_countMatches [.ref v0] w) fun x11 w9 => some (.inr (.inl (some (.int x11)), w9)) else none) else (if v1 = (3 : Int32) then ((hy_gr w v0 5 0).bind fun r13 => (hy_gi w v0 5 5).bind fun x14 => (hy_ar w 2 r13 x14).bind fun r15 => (hy_gr w r15 1 3).bind fun r16 => if hy_ob w r16 7 = true then hy_bi (f_A_size [.ref r16] w) fun x19 w17 => some (.inr (.inl (some (.int x19)), w17)) else none) else (if v1 = (4 : Int32) then ((hy_gr w v0 5 0).bind fun r21 => (hy_gi w v0 5 5).bind fun x22 => (hy_ar w 2 r21 x22).bind fun r23 => (hy_gr w r23 1 4).bind fun r24 => if hy_ob w r24 7 = true then hy_bi (f_A_size [.ref r24] w) fun x27 w25 => some (.inr (.inl (some (.int x27)), w25)) else none) else (some (.inr (.inl (some (.int (-1))), w)))))))
noncomputable def nx_H_count (q : hy_P) : Option hy_N := match q with
  | (0, [.ref v0, .int v1], w) => sg_H_count_0 v0 v1 w
  | _ => none
noncomputable def f_H_count (av : List Value) (w : hy_W) : Option hy_O := hy_fx nx_H_count (0, av, w)
set_option maxHeartbeats 4000000 in
set_option maxRecDepth 100000 in
theorem sk_H_count_0 {p : Program} {l : Launch} {e : Env} {s : State} {m : MethodId} {args : Array Value} {below : List Frame} {meth : Method} {c : Code} {G : hy_G} {A : Nat → Prop} {ad0 : Nat → Nat} {w0 : hy_W} {o : hy_O} (hl9 : l.flags = flags0) (hA : hy_A G ad0 w0 s.heap.size = A) (B : hy_B p l e (hy_rm 7 155 w0) s m args below meth c "HyphenPatterns" b_H_count 2 (some .int) [] G A) (v0 : Nat) (v1 : Int32) (w : hy_W) (nx : hy_N) (h : sg_H_count_0 v0 v1 w = some nx) (K : hy_Nx lay_H_count p l e (hy_rm 7 155 w0) s m args below meth c 2 G A ad0 w0.1.length (hy_Q below G ad0 w0 o args s) o nx) : hy_At lay_H_count p l e (hy_rm 7 155 w0) s m args below meth c 2 G A ad0 w0.1.length (hy_Q below G ad0 w0 o args s) (0, [.ref v0, .int v1], w) := by
  intro ad H locs cells slots ls S hok hl
  have hx := B.1
  have hb := B.2.1
  dsimp only at S hok
  have hl : lv_has ls 2 [(0, .ref (ad v0)), (1, .int v1)] := hl
  show W p l e (hy_rm 7 155 w0) s m args below meth c H locs cells slots (hy_Q below G ad0 w0 o args s) (F0 m 0 ls [])
  have hv_v0 : v0 < w.1.length := hok (.ref v0) (List.mem_of_getElem? (i := 0) rfl) v0 rfl
  obtain ⟨a_v0, ha_v0⟩ : ∃ a, ad v0 = a := ⟨_, rfl⟩
  rw [ha_v0] at hl
  unfold sg_H_count_0 at h
  refine lv_iload_n hx hb d_H_count_0 rfl (lv_at hl 1 rfl) ?_
  by_cases c29 : v1 = (0 : Int32)
  · rw [if_pos c29] at h
    rw [c29]
    refine lv_tableIn (off := 35) (tgt := 36) hx hb d_H_count_1 (by decide) (by decide) (by decide) (by decide) ?_
    refine lv_aload_n hx hb d_H_count_36 rfl (lv_at hl 0 rfl) ?_
    obtain ⟨ob4, h⟩ := hy_if h
    obtain ⟨fs_ob4, hf_ob4, hg_ob4⟩ := hy_ob_spec ob4
    obtain ⟨x3, w1, hq_w1, h⟩ := hy_bi_spec h
    refine hy_calli (hy_runV (rest := []) (As := []) (r := v0) (b := a_v0) B S rfl ha_v0 (by rfl) (c_H_countWords hl9 G ad hq_w1) (hy_okr (by omega) hy_ok0) tw_233 tw_1 tw_230 tw_232 sl_H_countWords (by decide) rfl (Nat.le_of_ble_eq_true rfl) (Nat.le_of_ble_eq_true rfl) hf_ob4 hg_ob4 rfl hl.1 (Nat.le_of_ble_eq_true rfl) d_H_count_37) (fun ad2 H locs cells slots hag hl_w1 S => ?_)
    have ha_v0 : ad2 v0 = a_v0 := (hag v0 (by omega)).trans ha_v0
    cases h
    cases K
    exact hy_iret hA B S d_H_count_40
  rw [if_neg c29] at h
  by_cases c30 : v1 = (1 : Int32)
  · rw [if_pos c30] at h
    rw [c30]
    refine lv_tableIn (off := 40) (tgt := 41) hx hb d_H_count_1 (by decide) (by decide) (by decide) (by decide) ?_
    refine lv_aload_n hx hb d_H_count_41 rfl (lv_at hl 0 rfl) ?_
    obtain ⟨ob8, h⟩ := hy_if h
    obtain ⟨fs_ob8, hf_ob8, hg_ob8⟩ := hy_ob_spec ob8
    obtain ⟨x7, w5, hq_w5, h⟩ := hy_bi_spec h
    refine hy_calli (hy_runV (rest := []) (As := []) (r := v0) (b := a_v0) B S rfl ha_v0 (by rfl) (c_H_countBreaks hl9 G ad hq_w5) (hy_okr (by omega) hy_ok0) tw_237 tw_1 tw_234 tw_236 sl_H_countBreaks (by decide) rfl (Nat.le_of_ble_eq_true rfl) (Nat.le_of_ble_eq_true rfl) hf_ob8 hg_ob8 rfl hl.1 (Nat.le_of_ble_eq_true rfl) d_H_count_42) (fun ad6 H locs cells slots hag hl_w5 S => ?_)
    have ha_v0 : ad6 v0 = a_v0 := (hag v0 (by omega)).trans ha_v0
    cases h
    cases K
    exact hy_iret hA B S d_H_count_45
  rw [if_neg c30] at h
  by_cases c31 : v1 = (2 : Int32)
  · rw [if_pos c31] at h
    rw [c31]
    refine lv_tableIn (off := 45) (tgt := 46) hx hb d_H_count_1 (by decide) (by decide) (by decide) (by decide) ?_
    refine lv_aload_n hx hb d_H_count_46 rfl (lv_at hl 0 rfl) ?_
    obtain ⟨ob12, h⟩ := hy_if h
    obtain ⟨fs_ob12, hf_ob12, hg_ob12⟩ := hy_ob_spec ob12
    obtain ⟨x11, w9, hq_w9, h⟩ := hy_bi_spec h
    refine hy_calli (hy_runV (rest := []) (As := []) (r := v0) (b := a_v0) B S rfl ha_v0 (by rfl) (c_H_countMatches hl9 G ad hq_w9) (hy_okr (by omega) hy_ok0) tw_306 tw_1 tw_303 tw_305 sl_H_countMatches (by decide) rfl (Nat.le_of_ble_eq_true rfl) (Nat.le_of_ble_eq_true rfl) hf_ob12 hg_ob12 rfl hl.1 (Nat.le_of_ble_eq_true rfl) d_H_count_47) (fun ad10 H locs cells slots hag hl_w9 S => ?_)
    have ha_v0 : ad10 v0 = a_v0 := (hag v0 (by omega)).trans ha_v0
    cases h
    cases K
    exact hy_iret hA B S d_H_count_50
  rw [if_neg c31] at h
  by_cases c32 : v1 = (3 : Int32)
  · rw [if_pos c32] at h
    rw [c32]
    refine lv_tableIn (off := 50) (tgt := 51) hx hb d_H_count_1 (by decide) (by decide) (by decide) (by decide) ?_
    refine lv_aload_n hx hb d_H_count_51 rfl (lv_at hl 0 rfl) ?_
    obtain ⟨r13, hr13, h⟩ := hy_bd h
    refine hy_getr B S ha_v0 hr13 rfl (Nat.le_of_ble_eq_true rfl) i_5 (j := 0) tw_163 (fun _ h => h) d_H_count_52 (fun a_r13 ha_r13 hv_r13 => ?_)
    refine lv_aload_n hx hb d_H_count_55 rfl (lv_at hl 0 rfl) ?_
    obtain ⟨x14, hx14, h⟩ := hy_bd h
    refine hy_geti B S ha_v0 hx14 rfl (Nat.le_of_ble_eq_true rfl) i_5 (j := 5) tw_168 (fun _ h => h) d_H_count_56 ?_
    obtain ⟨r15, hr15, h⟩ := hy_bd h
    refine hy_aald B S ha_r13 (Or.inl rfl) hr15 d_H_count_59 (fun a_r15 ha_r15 hv_r15 => ?_)
    obtain ⟨r16, hr16, h⟩ := hy_bd h
    refine hy_getr B S ha_r15 hr16 rfl (Nat.le_of_ble_eq_true rfl) i_1 (j := 3) tw_134 (fun _ h => h) d_H_count_60 (fun a_r16 ha_r16 hv_r16 => ?_)
    obtain ⟨ob20, h⟩ := hy_if h
    obtain ⟨fs_ob20, hf_ob20, hg_ob20⟩ := hy_ob_spec ob20
    obtain ⟨x19, w17, hq_w17, h⟩ := hy_bi_spec h
    refine hy_calli (hy_runV (rest := []) (As := []) (r := r16) (b := a_r16) B S rfl ha_r16 (by rfl) (c_A_size hl9 G ad hq_w17) (hy_okr (by omega) hy_ok0) tw_197 tw_8 tw_194 tw_195 sl_A_size (by decide) rfl (Nat.le_of_ble_eq_true rfl) (Nat.le_of_ble_eq_true rfl) hf_ob20 hg_ob20 rfl hl.1 (Nat.le_of_ble_eq_true rfl) d_H_count_63) (fun ad18 H locs cells slots hag hl_w17 S => ?_)
    have ha_v0 : ad18 v0 = a_v0 := (hag v0 (by omega)).trans ha_v0
    cases h
    cases K
    exact hy_iret hA B S d_H_count_66
  rw [if_neg c32] at h
  by_cases c33 : v1 = (4 : Int32)
  · rw [if_pos c33] at h
    rw [c33]
    refine lv_tableIn (off := 66) (tgt := 67) hx hb d_H_count_1 (by decide) (by decide) (by decide) (by decide) ?_
    refine lv_aload_n hx hb d_H_count_67 rfl (lv_at hl 0 rfl) ?_
    obtain ⟨r21, hr21, h⟩ := hy_bd h
    refine hy_getr B S ha_v0 hr21 rfl (Nat.le_of_ble_eq_true rfl) i_5 (j := 0) tw_163 (fun _ h => h) d_H_count_68 (fun a_r21 ha_r21 hv_r21 => ?_)
    refine lv_aload_n hx hb d_H_count_71 rfl (lv_at hl 0 rfl) ?_
    obtain ⟨x22, hx22, h⟩ := hy_bd h
    refine hy_geti B S ha_v0 hx22 rfl (Nat.le_of_ble_eq_true rfl) i_5 (j := 5) tw_168 (fun _ h => h) d_H_count_72 ?_
    obtain ⟨r23, hr23, h⟩ := hy_bd h
    refine hy_aald B S ha_r21 (Or.inl rfl) hr23 d_H_count_75 (fun a_r23 ha_r23 hv_r23 => ?_)
    obtain ⟨r24, hr24, h⟩ := hy_bd h
    refine hy_getr B S ha_r23 hr24 rfl (Nat.le_of_ble_eq_true rfl) i_1 (j := 4) tw_137 (fun _ h => h) d_H_count_76 (fun a_r24 ha_r24 hv_r24 => ?_)
    obtain ⟨ob28, h⟩ := hy_if h
    obtain ⟨fs_ob28, hf_ob28, hg_ob28⟩ := hy_ob_spec ob28
    obtain ⟨x27, w25, hq_w25, h⟩ := hy_bi_spec h
    refine hy_calli (hy_runV (rest := []) (As := []) (r := r24) (b := a_r24) B S rfl ha_r24 (by rfl) (c_A_size hl9 G ad hq_w25) (hy_okr (by omega) hy_ok0) tw_197 tw_8 tw_194 tw_195 sl_A_size (by decide) rfl (Nat.le_of_ble_eq_true rfl) (Nat.le_of_ble_eq_true rfl) hf_ob28 hg_ob28 rfl hl.1 (Nat.le_of_ble_eq_true rfl) d_H_count_79) (fun ad26 H locs cells slots hag hl_w25 S => ?_)
    have ha_v0 : ad26 v0 = a_v0 := (hag v0 (by omega)).trans ha_v0
    cases h
    cases K
    exact hy_iret hA B S d_H_count_82
  rw [if_neg c33] at h
  refine lv_tableOut (tgt := 83) hx hb d_H_count_1 (hy_sw5 c29 c30 c31 c32 c33) (by decide) ?_
  refine lv_iconst (v := (-1)) hx hb d_H_count_83 (by decide) ?_
  cases h
  cases K
  exact hy_iret hA B S d_H_count_84
theorem nk_H_count {p : Program} {l : Launch} {e : Env} {s : State} {m : MethodId} {args : Array Value} {below : List Frame} {meth : Method} {c : Code} {G : hy_G} {A : Nat → Prop} {ad0 : Nat → Nat} {w0 : hy_W} {o : hy_O} (hl9 : l.flags = flags0) (hA : hy_A G ad0 w0 s.heap.size = A) (B : hy_B p l e (hy_rm 7 155 w0) s m args below meth c "HyphenPatterns" b_H_count 2 (some .int) [] G A) (q : hy_P) (nx : hy_N) (hq : nx_H_count q = some nx) (K : hy_Nx lay_H_count p l e (hy_rm 7 155 w0) s m args below meth c 2 G A ad0 w0.1.length (hy_Q below G ad0 w0 o args s) o nx) : hy_At lay_H_count p l e (hy_rm 7 155 w0) s m args below meth c 2 G A ad0 w0.1.length (hy_Q below G ad0 w0 o args s) q := by
  unfold nx_H_count at hq
  split at hq
  · exact sk_H_count_0 hl9 hA B _ _ _ nx hq K
  · cases hq
theorem c_H_count {l : Launch} (hl9 : l.flags = flags0) (G : hy_G) (ad : Nat → Nat) {v0 : Nat} {v1 : Int32} {w : hy_W} {o : hy_O} (h : f_H_count [.ref v0, .int v1] w = some o) : hy_M l y_H_count (Cond.code y_H_count b_H_count 2 (some .int) :: hy_T) 7 155 G ad [.ref v0, .int v1] w o := by
  obtain ⟨n, hn⟩ := hy_fx_iff.mp h
  refine hy_ofW hl9 (by decide +kernel) (Nat.le_of_ble_eq_true rfl) (fun p e s m args below meth c A hA hi B S hok ls hl => ?_)
  exact hy_loop (nk_H_count hl9 hA B) n _ hn ad s.heap [] 0 0 ls S hok hl
theorem d_H_choose_0 : decode b_H_choose 0 = .ok (.iload_n 1, 1) := by decide +kernel
theorem d_H_choose_1 : decode b_H_choose 1 = .ok (.ifCond .lt 8, 3) := by decide +kernel
theorem d_H_choose_4 : decode b_H_choose 4 = .ok (.iload_n 1, 1) := by decide +kernel
theorem d_H_choose_5 : decode b_H_choose 5 = .ok (.iconst 4, 1) := by decide +kernel
theorem d_H_choose_6 : decode b_H_choose 6 = .ok (.if_icmp .lt 13, 3) := by decide +kernel
theorem d_H_choose_9 : decode b_H_choose 9 = .ok (.new 46, 3) := by decide +kernel
theorem d_H_choose_12 : decode b_H_choose 12 = .ok (.dup, 1) := by decide +kernel
theorem d_H_choose_13 : decode b_H_choose 13 = .ok (.ldc 48, 2) := by decide +kernel
theorem d_H_choose_15 : decode b_H_choose 15 = .ok (.invokespecial 50, 3) := by decide +kernel
theorem d_H_choose_18 : decode b_H_choose 18 = .ok (.athrow, 1) := by decide +kernel
theorem d_H_choose_19 : decode b_H_choose 19 = .ok (.aload_n 0, 1) := by decide +kernel
theorem d_H_choose_20 : decode b_H_choose 20 = .ok (.getfield 41, 3) := by decide +kernel
theorem d_H_choose_23 : decode b_H_choose 23 = .ok (.istore_n 2, 1) := by decide +kernel
theorem d_H_choose_24 : decode b_H_choose 24 = .ok (.aload_n 0, 1) := by decide +kernel
theorem d_H_choose_25 : decode b_H_choose 25 = .ok (.iload_n 1, 1) := by decide +kernel
theorem d_H_choose_26 : decode b_H_choose 26 = .ok (.putfield 41, 3) := by decide +kernel
theorem d_H_choose_29 : decode b_H_choose 29 = .ok (.iload_n 2, 1) := by decide +kernel
theorem d_H_choose_30 : decode b_H_choose 30 = .ok (.ireturn, 1) := by decide +kernel
def lay_H_choose (pc : Nat) : List Nat := if pc = 0 then [0, 1] else []
noncomputable def sg_H_choose_0 (v0 : Nat) (v1 : Int32) (w : hy_W) : Option hy_N := if v1 < 0 then ((hy_th w).bind fun w2 => some (.inr (.inr "java/lang/IndexOutOfBoundsException", w2))) else (if v1 < 4 then ((hy_gi w v0 5 5).bind fun x4 => (hy_pf w v0 5 5 (.int v1)).bind fun w5 => some (.inr (.inl (some (.int x4)), w5))) else ((hy_th w).bind fun w6 => some (.inr (.inr "java/lang/IndexOutOfBoundsException", w6))))
noncomputable def nx_H_choose (q : hy_P) : Option hy_N := match q with
  | (0, [.ref v0, .int v1], w) => sg_H_choose_0 v0 v1 w
  | _ => none
noncomputable def f_H_choose (av : List Value) (w : hy_W) : Option hy_O := hy_fx nx_H_choose (0, av, w)
set_option maxHeartbeats 4000000 in
set_option maxRecDepth 100000 in
theorem sk_H_choose_0 {p : Program} {l : Launch} {e : Env} {s : State} {m : MethodId} {args : Array Value} {below : List Frame} {meth : Method} {c : Code} {G : hy_G} {A : Nat → Prop} {ad0 : Nat → Nat} {w0 : hy_W} {o : hy_O} (hl9 : l.flags = flags0) (hA : hy_A G ad0 w0 s.heap.size = A) (B : hy_B p l e (hy_rm 6 82 w0) s m args below meth c "HyphenPatterns" b_H_choose 3 (some .int) [] G A) (v0 : Nat) (v1 : Int32) (w : hy_W) (nx : hy_N) (h : sg_H_choose_0 v0 v1 w = some nx) (K : hy_Nx lay_H_choose p l e (hy_rm 6 82 w0) s m args below meth c 3 G A ad0 w0.1.length (hy_Q below G ad0 w0 o args s) o nx) : hy_At lay_H_choose p l e (hy_rm 6 82 w0) s m args below meth c 3 G A ad0 w0.1.length (hy_Q below G ad0 w0 o args s) (0, [.ref v0, .int v1], w) := by
  intro ad H locs cells slots ls S hok hl
  have hx := B.1
  have hb := B.2.1
  dsimp only at S hok
  have hl : lv_has ls 3 [(0, .ref (ad v0)), (1, .int v1)] := hl
  show W p l e (hy_rm 6 82 w0) s m args below meth c H locs cells slots (hy_Q below G ad0 w0 o args s) (F0 m 0 ls [])
  have hv_v0 : v0 < w.1.length := hok (.ref v0) (List.mem_of_getElem? (i := 0) rfl) v0 rfl
  obtain ⟨a_v0, ha_v0⟩ : ∃ a, ad v0 = a := ⟨_, rfl⟩
  rw [ha_v0] at hl
  unfold sg_H_choose_0 at h
  refine lv_iload_n hx hb d_H_choose_0 rfl (lv_at hl 1 rfl) ?_
  refine lv_if_lt (tgt := 9) hx hb d_H_choose_1 (by decide) (fun c1 => ?_) (fun c1 => ?_)
  · rw [if_pos c1] at h
    obtain ⟨w2, hw2, h⟩ := hy_bd h
    cases h
    cases K
    exact hy_throw (text := "there is no such language") (names := ["java/lang/RuntimeException", "java/lang/Exception"]) hA B S hw2 (by decide +kernel) (by decide +kernel) tw_315 tw_13 (by decide +kernel) at_H_IO hl.1 d_H_choose_9 d_H_choose_12 d_H_choose_13 d_H_choose_15 d_H_choose_18 (Nat.le_of_ble_eq_true rfl) (Nat.le_of_ble_eq_true rfl)
  · rw [if_neg c1] at h
    refine lv_iload_n hx hb d_H_choose_4 rfl (lv_at hl 1 rfl) ?_
    refine lv_iconst (v := 4) hx hb d_H_choose_5 (by decide) ?_
    refine lv_icmp_lt (tgt := 19) hx hb d_H_choose_6 (by decide) (fun c3 => ?_) (fun c3 => ?_)
    · rw [if_pos c3] at h
      refine lv_aload_n hx hb d_H_choose_19 rfl (lv_at hl 0 rfl) ?_
      obtain ⟨x4, hx4, h⟩ := hy_bd h
      refine hy_geti B S ha_v0 hx4 rfl (Nat.le_of_ble_eq_true rfl) i_5 (j := 5) tw_168 (fun _ h => h) d_H_choose_20 ?_
      refine lv_istore_n (lv' := [(2, .int x4), (0, .ref a_v0), (1, .int v1)]) hx hb d_H_choose_23 rfl hl (Nat.le_of_ble_eq_true rfl) rfl (fun ls hl => ?_)
      refine lv_aload_n hx hb d_H_choose_24 rfl (lv_at hl 1 rfl) ?_
      refine lv_iload_n hx hb d_H_choose_25 rfl (lv_at hl 2 rfl) ?_
      obtain ⟨w5, hw5, h⟩ := hy_bd h
      refine hy_put B S ha_v0 rfl hy_cvi hw5 rfl (Nat.le_of_ble_eq_true rfl) i_5 t_5 t_5_ok n_5 (j := 5) tw_168 (fun _ h => h) rfl rfl rfl d_H_choose_26 (fun H locs S hl_w5 => ?_)
      refine lv_iload_n hx hb d_H_choose_29 rfl (lv_at hl 0 rfl) ?_
      cases h
      cases K
      exact hy_iret hA B S d_H_choose_30
    · rw [if_neg c3] at h
      obtain ⟨w6, hw6, h⟩ := hy_bd h
      cases h
      cases K
      exact hy_throw (text := "there is no such language") (names := ["java/lang/RuntimeException", "java/lang/Exception"]) hA B S hw6 (by decide +kernel) (by decide +kernel) tw_315 tw_13 (by decide +kernel) at_H_IO hl.1 d_H_choose_9 d_H_choose_12 d_H_choose_13 d_H_choose_15 d_H_choose_18 (Nat.le_of_ble_eq_true rfl) (Nat.le_of_ble_eq_true rfl)
theorem nk_H_choose {p : Program} {l : Launch} {e : Env} {s : State} {m : MethodId} {args : Array Value} {below : List Frame} {meth : Method} {c : Code} {G : hy_G} {A : Nat → Prop} {ad0 : Nat → Nat} {w0 : hy_W} {o : hy_O} (hl9 : l.flags = flags0) (hA : hy_A G ad0 w0 s.heap.size = A) (B : hy_B p l e (hy_rm 6 82 w0) s m args below meth c "HyphenPatterns" b_H_choose 3 (some .int) [] G A) (q : hy_P) (nx : hy_N) (hq : nx_H_choose q = some nx) (K : hy_Nx lay_H_choose p l e (hy_rm 6 82 w0) s m args below meth c 3 G A ad0 w0.1.length (hy_Q below G ad0 w0 o args s) o nx) : hy_At lay_H_choose p l e (hy_rm 6 82 w0) s m args below meth c 3 G A ad0 w0.1.length (hy_Q below G ad0 w0 o args s) q := by
  unfold nx_H_choose at hq
  split at hq
  · exact sk_H_choose_0 hl9 hA B _ _ _ nx hq K
  · cases hq
theorem c_H_choose {l : Launch} (hl9 : l.flags = flags0) (G : hy_G) (ad : Nat → Nat) {v0 : Nat} {v1 : Int32} {w : hy_W} {o : hy_O} (h : f_H_choose [.ref v0, .int v1] w = some o) : hy_M l y_H_choose (Cond.code y_H_choose b_H_choose 3 (some .int) :: hy_T) 6 82 G ad [.ref v0, .int v1] w o := by
  obtain ⟨n, hn⟩ := hy_fx_iff.mp h
  refine hy_ofW hl9 (by decide +kernel) (Nat.le_of_ble_eq_true rfl) (fun p e s m args below meth c A hA hi B S hok ls hl => ?_)
  exact hy_loop (nk_H_choose hl9 hA B) n _ hn ad s.heap [] 0 0 ls S hok hl
theorem d_X_choose_0 : decode b_X_choose 0 = .ok (.aload_n 2, 1) := by decide +kernel
theorem d_X_choose_1 : decode b_X_choose 1 = .ok (.iconst 0, 1) := by decide +kernel
theorem d_X_choose_2 : decode b_X_choose 2 = .ok (.aload_n 0, 1) := by decide +kernel
theorem d_X_choose_3 : decode b_X_choose 3 = .ok (.iload_n 1, 1) := by decide +kernel
theorem d_X_choose_4 : decode b_X_choose 4 = .ok (.invokevirtual 7, 3) := by decide +kernel
theorem d_X_choose_7 : decode b_X_choose 7 = .ok (.i2l, 1) := by decide +kernel
theorem d_X_choose_8 : decode b_X_choose 8 = .ok (.lastore, 1) := by decide +kernel
theorem d_X_choose_9 : decode b_X_choose 9 = .ok (.goto 6, 3) := by decide +kernel
theorem d_X_choose_12 : decode b_X_choose 12 = .ok (.astore_n 3, 1) := by decide +kernel
theorem d_X_choose_13 : decode b_X_choose 13 = .ok (.iconst 1, 1) := by decide +kernel
theorem d_X_choose_14 : decode b_X_choose 14 = .ok (.ireturn, 1) := by decide +kernel
theorem d_X_choose_15 : decode b_X_choose 15 = .ok (.iconst 0, 1) := by decide +kernel
theorem d_X_choose_16 : decode b_X_choose 16 = .ok (.ireturn, 1) := by decide +kernel
def lay_X_choose (pc : Nat) : List Nat := if pc = 0 then [0, 1, 2] else []
noncomputable def sg_X_choose_0 (v0 : Nat) (v1 : Int32) (v2 : Nat) (w : hy_W) : Option hy_N := if hy_ob w v0 5 = true then hy_xi (f_H_choose [.ref v0, .int v1] w) (fun x3 w1 => (hy_pa w1 1 v2 0 (.long ((x3 : Int32).toInt64))).bind fun w5 => some (.inr (.inl (some (.int 0)), w5))) (fun E6 w7 => if E6 = "java/lang/IndexOutOfBoundsException" then (some (.inr (.inl (some (.int 1)), w7))) else none) else none
noncomputable def nx_X_choose (q : hy_P) : Option hy_N := match q with
  | (0, [.ref v0, .int v1, .ref v2], w) => sg_X_choose_0 v0 v1 v2 w
  | _ => none
noncomputable def f_X_choose (av : List Value) (w : hy_W) : Option hy_O := hy_fx nx_X_choose (0, av, w)
set_option maxHeartbeats 4000000 in
set_option maxRecDepth 100000 in
theorem sk_X_choose_0 {p : Program} {l : Launch} {e : Env} {s : State} {m : MethodId} {args : Array Value} {below : List Frame} {meth : Method} {c : Code} {G : hy_G} {A : Nat → Prop} {ad0 : Nat → Nat} {w0 : hy_W} {o : hy_O} (hl9 : l.flags = flags0) (hA : hy_A G ad0 w0 s.heap.size = A) (B : hy_B p l e (hy_rm 7 104 w0) s m args below meth c "HyphenPatternsLaw" b_X_choose 4 (some .int) [(0, 9, 12, 13)] G A) (v0 : Nat) (v1 : Int32) (v2 : Nat) (w : hy_W) (nx : hy_N) (h : sg_X_choose_0 v0 v1 v2 w = some nx) (K : hy_Nx lay_X_choose p l e (hy_rm 7 104 w0) s m args below meth c 4 G A ad0 w0.1.length (hy_Q below G ad0 w0 o args s) o nx) : hy_At lay_X_choose p l e (hy_rm 7 104 w0) s m args below meth c 4 G A ad0 w0.1.length (hy_Q below G ad0 w0 o args s) (0, [.ref v0, .int v1, .ref v2], w) := by
  intro ad H locs cells slots ls S hok hl
  have hx := B.1
  have hb := B.2.1
  dsimp only at S hok
  have hl : lv_has ls 4 [(0, .ref (ad v0)), (1, .int v1), (2, .ref (ad v2))] := hl
  show W p l e (hy_rm 7 104 w0) s m args below meth c H locs cells slots (hy_Q below G ad0 w0 o args s) (F0 m 0 ls [])
  have hv_v0 : v0 < w.1.length := hok (.ref v0) (List.mem_of_getElem? (i := 0) rfl) v0 rfl
  obtain ⟨a_v0, ha_v0⟩ : ∃ a, ad v0 = a := ⟨_, rfl⟩
  rw [ha_v0] at hl
  have hv_v2 : v2 < w.1.length := hok (.ref v2) (List.mem_of_getElem? (i := 2) rfl) v2 rfl
  obtain ⟨a_v2, ha_v2⟩ : ∃ a, ad v2 = a := ⟨_, rfl⟩
  rw [ha_v2] at hl
  unfold sg_X_choose_0 at h
  refine lv_aload_n hx hb d_X_choose_0 rfl (lv_at hl 2 rfl) ?_
  refine lv_iconst (v := 0) hx hb d_X_choose_1 (by decide) ?_
  refine lv_aload_n hx hb d_X_choose_2 rfl (lv_at hl 0 rfl) ?_
  refine lv_iload_n hx hb d_X_choose_3 rfl (lv_at hl 1 rfl) ?_
  obtain ⟨ob4, h⟩ := hy_if h
  obtain ⟨fs_ob4, hf_ob4, hg_ob4⟩ := hy_ob_spec ob4
  rcases hy_xi_spec h with ⟨x3, w1, hq_w1, h⟩ | ⟨E6, w7, hq_w7, h⟩
  · refine hy_calli (hy_runV (rest := [.int 0, .ref a_v2]) (As := [.int v1]) (r := v0) (b := a_v0) B S rfl ha_v0 (by rfl) (c_H_choose hl9 G ad hq_w1) (hy_okr (by omega) (hy_oki hy_ok0)) tw_314 tw_1 tw_311 tw_312 sl_H_choose (by decide) rfl (Nat.le_of_ble_eq_true rfl) (Nat.le_of_ble_eq_true rfl) hf_ob4 hg_ob4 rfl hl.1 (Nat.le_of_ble_eq_true rfl) d_X_choose_4) (fun ad2 H locs cells slots hag hl_w1 S => ?_)
    have ha_v0 : ad2 v0 = a_v0 := (hag v0 (by omega)).trans ha_v0
    have ha_v2 : ad2 v2 = a_v2 := (hag v2 (by omega)).trans ha_v2
    refine lv_i2l (v := (x3 : Int32).toInt64) hx hb d_X_choose_7 rfl ?_
    obtain ⟨w5, hw5, h⟩ := hy_bd h
    refine hy_last B S ha_v2 hw5 d_X_choose_8 (fun H locs S hl_w5 => ?_)
    refine lv_goto (tgt := 15) hx hb d_X_choose_9 (by decide) ?_
    refine lv_iconst (v := 0) hx hb d_X_choose_15 (by decide) ?_
    cases h
    cases K
    exact hy_iret hA B S d_X_choose_16
  · by_cases c11 : E6 = "java/lang/IndexOutOfBoundsException"
    · rw [if_pos c11] at h
      subst c11
      refine hy_callT (rest := [.int 0, .ref a_v2]) (As := [.int v1]) (r := v0) (b := a_v0) B S rfl ha_v0 (by rfl) (c_H_choose hl9 G ad hq_w7) (hy_okr (by omega) (hy_oki hy_ok0)) tw_314 tw_1 tw_311 tw_312 sl_H_choose (by decide) rfl (Nat.le_of_ble_eq_true rfl) (Nat.le_of_ble_eq_true rfl) hf_ob4 hg_ob4 rfl hl.1 (Nat.le_of_ble_eq_true rfl) d_X_choose_4 (fun ad8 H locs cells slots q9 ce10 hag hl_w7 S z1 z2 z3 => ?_)
      have ha_v0 : ad8 v0 = a_v0 := (hag v0 (by omega)).trans ha_v0
      have ha_v2 : ad8 v2 = a_v2 := (hag v2 (by omega)).trans ha_v2
      refine hy_catch1 B (Nat.le_of_ble_eq_true rfl) (Nat.le_of_ble_eq_true rfl) (by decide) tw_310 (by decide +kernel) z1 z2 z3 ?_
      refine lv_astore_n (lv' := [(3, .ref q9), (0, .ref a_v0), (1, .int v1), (2, .ref a_v2)]) hx hb d_X_choose_12 rfl hl (Nat.le_of_ble_eq_true rfl) rfl (fun ls hl => ?_)
      refine lv_iconst (v := 1) hx hb d_X_choose_13 (by decide) ?_
      cases h
      cases K
      exact hy_iret hA B S d_X_choose_14
    rw [if_neg c11] at h
    cases h
theorem nk_X_choose {p : Program} {l : Launch} {e : Env} {s : State} {m : MethodId} {args : Array Value} {below : List Frame} {meth : Method} {c : Code} {G : hy_G} {A : Nat → Prop} {ad0 : Nat → Nat} {w0 : hy_W} {o : hy_O} (hl9 : l.flags = flags0) (hA : hy_A G ad0 w0 s.heap.size = A) (B : hy_B p l e (hy_rm 7 104 w0) s m args below meth c "HyphenPatternsLaw" b_X_choose 4 (some .int) [(0, 9, 12, 13)] G A) (q : hy_P) (nx : hy_N) (hq : nx_X_choose q = some nx) (K : hy_Nx lay_X_choose p l e (hy_rm 7 104 w0) s m args below meth c 4 G A ad0 w0.1.length (hy_Q below G ad0 w0 o args s) o nx) : hy_At lay_X_choose p l e (hy_rm 7 104 w0) s m args below meth c 4 G A ad0 w0.1.length (hy_Q below G ad0 w0 o args s) q := by
  unfold nx_X_choose at hq
  split at hq
  · exact sk_X_choose_0 hl9 hA B _ _ _ _ nx hq K
  · cases hq
theorem c_X_choose {l : Launch} (hl9 : l.flags = flags0) (G : hy_G) (ad : Nat → Nat) {v0 : Nat} {v1 : Int32} {v2 : Nat} {w : hy_W} {o : hy_O} (h : f_X_choose [.ref v0, .int v1, .ref v2] w = some o) : hy_M l y_X_choose (Cond.codeWith y_X_choose b_X_choose 4 (some .int) [(0, 9, 12, 13)] :: hy_T) 7 104 G ad [.ref v0, .int v1, .ref v2] w o := by
  obtain ⟨n, hn⟩ := hy_fx_iff.mp h
  refine hy_ofWW hl9 (by decide +kernel) (Nat.le_of_ble_eq_true rfl) (fun p e s m args below meth c A hA B S hok ls hl => ?_)
  exact hy_loop (nk_X_choose hl9 hA B) n _ hn ad s.heap [] 0 0 ls S hok hl
theorem d_H_isCharacter_0 : decode b_H_isCharacter 0 = .ok (.iload_n 0, 1) := by decide +kernel
theorem d_H_isCharacter_1 : decode b_H_isCharacter 1 = .ok (.iconst 1, 1) := by decide +kernel
theorem d_H_isCharacter_2 : decode b_H_isCharacter 2 = .ok (.if_icmp .lt 13, 3) := by decide +kernel
theorem d_H_isCharacter_5 : decode b_H_isCharacter 5 = .ok (.iload_n 0, 1) := by decide +kernel
theorem d_H_isCharacter_6 : decode b_H_isCharacter 6 = .ok (.ldc 62, 2) := by decide +kernel
theorem d_H_isCharacter_8 : decode b_H_isCharacter 8 = .ok (.if_icmp .gt 7, 3) := by decide +kernel
theorem d_H_isCharacter_11 : decode b_H_isCharacter 11 = .ok (.iconst 1, 1) := by decide +kernel
theorem d_H_isCharacter_12 : decode b_H_isCharacter 12 = .ok (.goto 4, 3) := by decide +kernel
theorem d_H_isCharacter_15 : decode b_H_isCharacter 15 = .ok (.iconst 0, 1) := by decide +kernel
theorem d_H_isCharacter_16 : decode b_H_isCharacter 16 = .ok (.ireturn, 1) := by decide +kernel
def lay_H_isCharacter (pc : Nat) : List Nat := if pc = 0 then [0] else if pc = 15 then [] else []
noncomputable def sg_H_isCharacter_0 (v0 : Int32) (w : hy_W) : Option hy_N := if v0 < 1 then (some (.inl (15, [], w))) else (if (1114111 : Int32) < v0 then (some (.inl (15, [], w))) else (some (.inr (.inl (some (.int 1)), w))))
noncomputable def sg_H_isCharacter_15  (w : hy_W) : Option hy_N := some (.inr (.inl (some (.int 0)), w))
noncomputable def nx_H_isCharacter (q : hy_P) : Option hy_N := match q with
  | (0, [.int v0], w) => sg_H_isCharacter_0 v0 w
  | (15, [], w) => sg_H_isCharacter_15  w
  | _ => none
noncomputable def f_H_isCharacter (av : List Value) (w : hy_W) : Option hy_O := hy_fx nx_H_isCharacter (0, av, w)
set_option maxHeartbeats 4000000 in
set_option maxRecDepth 100000 in
theorem sk_H_isCharacter_0 {p : Program} {l : Launch} {e : Env} {s : State} {m : MethodId} {args : Array Value} {below : List Frame} {meth : Method} {c : Code} {G : hy_G} {A : Nat → Prop} {ad0 : Nat → Nat} {w0 : hy_W} {o : hy_O} (hl9 : l.flags = flags0) (hA : hy_A G ad0 w0 s.heap.size = A) (B : hy_B p l e (hy_rm 0 0 w0) s m args below meth c "HyphenPatterns" b_H_isCharacter 1 (some .boolean) [] G A) (v0 : Int32) (w : hy_W) (nx : hy_N) (h : sg_H_isCharacter_0 v0 w = some nx) (K : hy_Nx lay_H_isCharacter p l e (hy_rm 0 0 w0) s m args below meth c 1 G A ad0 w0.1.length (hy_Q below G ad0 w0 o args s) o nx) : hy_At lay_H_isCharacter p l e (hy_rm 0 0 w0) s m args below meth c 1 G A ad0 w0.1.length (hy_Q below G ad0 w0 o args s) (0, [.int v0], w) := by
  intro ad H locs cells slots ls S hok hl
  have hx := B.1
  have hb := B.2.1
  dsimp only at S hok
  have hl : lv_has ls 1 [(0, .int v0)] := hl
  show W p l e (hy_rm 0 0 w0) s m args below meth c H locs cells slots (hy_Q below G ad0 w0 o args s) (F0 m 0 ls [])
  unfold sg_H_isCharacter_0 at h
  refine lv_iload_n hx hb d_H_isCharacter_0 rfl (lv_at hl 0 rfl) ?_
  refine lv_iconst (v := 1) hx hb d_H_isCharacter_1 (by decide) ?_
  refine lv_icmp_lt (tgt := 15) hx hb d_H_isCharacter_2 (by decide) (fun c1 => ?_) (fun c1 => ?_)
  · rw [if_pos c1] at h
    cases h
    exact hy_jump K S hy_ok0 (lv_sub hl [] rfl) (by rfl) (by rfl)
  · rw [if_neg c1] at h
    refine lv_iload_n hx hb d_H_isCharacter_5 rfl (lv_at hl 0 rfl) ?_
    refine lv_ldc (v := 1114111) hx hb B.2.2.2.1 (B.2.2.2.2.1 _ tw_395) d_H_isCharacter_6 ?_
    refine lv_icmp_gt (tgt := 15) hx hb d_H_isCharacter_8 (by decide) (fun c2 => ?_) (fun c2 => ?_)
    · rw [if_pos c2] at h
      cases h
      exact hy_jump K S hy_ok0 (lv_sub hl [] rfl) (by rfl) (by rfl)
    · rw [if_neg c2] at h
      refine lv_iconst (v := 1) hx hb d_H_isCharacter_11 (by decide) ?_
      refine lv_goto (tgt := 16) hx hb d_H_isCharacter_12 (by decide) ?_
      cases h
      cases K
      exact hy_zret hA B S (by decide) d_H_isCharacter_16
set_option maxHeartbeats 4000000 in
set_option maxRecDepth 100000 in
theorem sk_H_isCharacter_15 {p : Program} {l : Launch} {e : Env} {s : State} {m : MethodId} {args : Array Value} {below : List Frame} {meth : Method} {c : Code} {G : hy_G} {A : Nat → Prop} {ad0 : Nat → Nat} {w0 : hy_W} {o : hy_O} (hl9 : l.flags = flags0) (hA : hy_A G ad0 w0 s.heap.size = A) (B : hy_B p l e (hy_rm 0 0 w0) s m args below meth c "HyphenPatterns" b_H_isCharacter 1 (some .boolean) [] G A)  (w : hy_W) (nx : hy_N) (h : sg_H_isCharacter_15  w = some nx) (K : hy_Nx lay_H_isCharacter p l e (hy_rm 0 0 w0) s m args below meth c 1 G A ad0 w0.1.length (hy_Q below G ad0 w0 o args s) o nx) : hy_At lay_H_isCharacter p l e (hy_rm 0 0 w0) s m args below meth c 1 G A ad0 w0.1.length (hy_Q below G ad0 w0 o args s) (15, [], w) := by
  intro ad H locs cells slots ls S hok hl
  have hx := B.1
  have hb := B.2.1
  dsimp only at S hok
  have hl : lv_has ls 1 [] := hl
  show W p l e (hy_rm 0 0 w0) s m args below meth c H locs cells slots (hy_Q below G ad0 w0 o args s) (F0 m 15 ls [])
  unfold sg_H_isCharacter_15 at h
  refine lv_iconst (v := 0) hx hb d_H_isCharacter_15 (by decide) ?_
  cases h
  cases K
  exact hy_zret hA B S (by decide) d_H_isCharacter_16
theorem nk_H_isCharacter {p : Program} {l : Launch} {e : Env} {s : State} {m : MethodId} {args : Array Value} {below : List Frame} {meth : Method} {c : Code} {G : hy_G} {A : Nat → Prop} {ad0 : Nat → Nat} {w0 : hy_W} {o : hy_O} (hl9 : l.flags = flags0) (hA : hy_A G ad0 w0 s.heap.size = A) (B : hy_B p l e (hy_rm 0 0 w0) s m args below meth c "HyphenPatterns" b_H_isCharacter 1 (some .boolean) [] G A) (q : hy_P) (nx : hy_N) (hq : nx_H_isCharacter q = some nx) (K : hy_Nx lay_H_isCharacter p l e (hy_rm 0 0 w0) s m args below meth c 1 G A ad0 w0.1.length (hy_Q below G ad0 w0 o args s) o nx) : hy_At lay_H_isCharacter p l e (hy_rm 0 0 w0) s m args below meth c 1 G A ad0 w0.1.length (hy_Q below G ad0 w0 o args s) q := by
  unfold nx_H_isCharacter at hq
  split at hq
  · exact sk_H_isCharacter_0 hl9 hA B _ _ nx hq K
  · exact sk_H_isCharacter_15 hl9 hA B _ nx hq K
  · cases hq
theorem c_H_isCharacter {l : Launch} (hl9 : l.flags = flags0) (G : hy_G) (ad : Nat → Nat) {v0 : Int32} {w : hy_W} {o : hy_O} (h : f_H_isCharacter [.int v0] w = some o) : hy_M l y_H_isCharacter (Cond.code y_H_isCharacter b_H_isCharacter 1 (some .boolean) :: hy_T) 0 0 G ad [.int v0] w o := by
  obtain ⟨n, hn⟩ := hy_fx_iff.mp h
  refine hy_ofW hl9 (by decide +kernel) (Nat.le_of_ble_eq_true rfl) (fun p e s m args below meth c A hA hi B S hok ls hl => ?_)
  exact hy_loop (nk_H_isCharacter hl9 hA B) n _ hn ad s.heap [] 0 0 ls S hok hl
theorem d_L_addRange_0 : decode b_L_addRange 0 = .ok (.aload_n 0, 1) := by decide +kernel
theorem d_L_addRange_1 : decode b_L_addRange 1 = .ok (.getfield 31, 3) := by decide +kernel
theorem d_L_addRange_4 : decode b_L_addRange 4 = .ok (.bipush 20, 2) := by decide +kernel
theorem d_L_addRange_6 : decode b_L_addRange 6 = .ok (.if_icmp .ge 43, 3) := by decide +kernel
theorem d_L_addRange_9 : decode b_L_addRange 9 = .ok (.aload_n 0, 1) := by decide +kernel
theorem d_L_addRange_10 : decode b_L_addRange 10 = .ok (.getfield 9, 3) := by decide +kernel
theorem d_L_addRange_13 : decode b_L_addRange 13 = .ok (.aload_n 0, 1) := by decide +kernel
theorem d_L_addRange_14 : decode b_L_addRange 14 = .ok (.getfield 31, 3) := by decide +kernel
theorem d_L_addRange_17 : decode b_L_addRange 17 = .ok (.iload_n 1, 1) := by decide +kernel
theorem d_L_addRange_18 : decode b_L_addRange 18 = .ok (.iastore, 1) := by decide +kernel
theorem d_L_addRange_19 : decode b_L_addRange 19 = .ok (.aload_n 0, 1) := by decide +kernel
theorem d_L_addRange_20 : decode b_L_addRange 20 = .ok (.getfield 15, 3) := by decide +kernel
theorem d_L_addRange_23 : decode b_L_addRange 23 = .ok (.aload_n 0, 1) := by decide +kernel
theorem d_L_addRange_24 : decode b_L_addRange 24 = .ok (.getfield 31, 3) := by decide +kernel
theorem d_L_addRange_27 : decode b_L_addRange 27 = .ok (.iload_n 2, 1) := by decide +kernel
theorem d_L_addRange_28 : decode b_L_addRange 28 = .ok (.iastore, 1) := by decide +kernel
theorem d_L_addRange_29 : decode b_L_addRange 29 = .ok (.aload_n 0, 1) := by decide +kernel
theorem d_L_addRange_30 : decode b_L_addRange 30 = .ok (.getfield 18, 3) := by decide +kernel
theorem d_L_addRange_33 : decode b_L_addRange 33 = .ok (.aload_n 0, 1) := by decide +kernel
theorem d_L_addRange_34 : decode b_L_addRange 34 = .ok (.getfield 31, 3) := by decide +kernel
theorem d_L_addRange_37 : decode b_L_addRange 37 = .ok (.iload_n 3, 1) := by decide +kernel
theorem d_L_addRange_38 : decode b_L_addRange 38 = .ok (.iastore, 1) := by decide +kernel
theorem d_L_addRange_39 : decode b_L_addRange 39 = .ok (.aload_n 0, 1) := by decide +kernel
theorem d_L_addRange_40 : decode b_L_addRange 40 = .ok (.dup, 1) := by decide +kernel
theorem d_L_addRange_41 : decode b_L_addRange 41 = .ok (.getfield 31, 3) := by decide +kernel
theorem d_L_addRange_44 : decode b_L_addRange 44 = .ok (.iconst 1, 1) := by decide +kernel
theorem d_L_addRange_45 : decode b_L_addRange 45 = .ok (.iadd, 1) := by decide +kernel
theorem d_L_addRange_46 : decode b_L_addRange 46 = .ok (.putfield 31, 3) := by decide +kernel
theorem d_L_addRange_49 : decode b_L_addRange 49 = .ok (.return_, 1) := by decide +kernel
def lay_L_addRange (pc : Nat) : List Nat := if pc = 0 then [0, 1, 2, 3] else []
noncomputable def sg_L_addRange_0 (v0 : Nat) (v1 : Int32) (v2 : Int32) (v3 : Int32) (w : hy_W) : Option hy_N := (hy_gi w v0 1 5).bind fun x1 => if (20 : Int32) ≤ x1 then (some (.inr (.inl none, w))) else ((hy_gr w v0 1 0).bind fun r3 => (hy_gi w v0 1 5).bind fun x4 => (hy_pa w 0 r3 x4 (.int v1)).bind fun w5 => (hy_gr w5 v0 1 1).bind fun r6 => (hy_gi w5 v0 1 5).bind fun x7 => (hy_pa w5 0 r6 x7 (.int v2)).bind fun w8 => (hy_gr w8 v0 1 2).bind fun r9 => (hy_gi w8 v0 1 5).bind fun x10 => (hy_pa w8 0 r9 x10 (.int v3)).bind fun w11 => (hy_gi w11 v0 1 5).bind fun x12 => (hy_pf w11 v0 1 5 (.int (x12 + 1))).bind fun w13 => some (.inr (.inl none, w13)))
noncomputable def nx_L_addRange (q : hy_P) : Option hy_N := match q with
  | (0, [.ref v0, .int v1, .int v2, .int v3], w) => sg_L_addRange_0 v0 v1 v2 v3 w
  | _ => none
noncomputable def f_L_addRange (av : List Value) (w : hy_W) : Option hy_O := hy_fx nx_L_addRange (0, av, w)
set_option maxHeartbeats 4000000 in
set_option maxRecDepth 100000 in
theorem sk_L_addRange_0 {p : Program} {l : Launch} {e : Env} {s : State} {m : MethodId} {args : Array Value} {below : List Frame} {meth : Method} {c : Code} {G : hy_G} {A : Nat → Prop} {ad0 : Nat → Nat} {w0 : hy_W} {o : hy_O} (hl9 : l.flags = flags0) (hA : hy_A G ad0 w0 s.heap.size = A) (B : hy_B p l e (hy_rm 0 0 w0) s m args below meth c "HyphenPatterns$Language" b_L_addRange 4 none [] G A) (v0 : Nat) (v1 : Int32) (v2 : Int32) (v3 : Int32) (w : hy_W) (nx : hy_N) (h : sg_L_addRange_0 v0 v1 v2 v3 w = some nx) (K : hy_Nx lay_L_addRange p l e (hy_rm 0 0 w0) s m args below meth c 4 G A ad0 w0.1.length (hy_Q below G ad0 w0 o args s) o nx) : hy_At lay_L_addRange p l e (hy_rm 0 0 w0) s m args below meth c 4 G A ad0 w0.1.length (hy_Q below G ad0 w0 o args s) (0, [.ref v0, .int v1, .int v2, .int v3], w) := by
  intro ad H locs cells slots ls S hok hl
  have hx := B.1
  have hb := B.2.1
  dsimp only at S hok
  have hl : lv_has ls 4 [(0, .ref (ad v0)), (1, .int v1), (2, .int v2), (3, .int v3)] := hl
  show W p l e (hy_rm 0 0 w0) s m args below meth c H locs cells slots (hy_Q below G ad0 w0 o args s) (F0 m 0 ls [])
  have hv_v0 : v0 < w.1.length := hok (.ref v0) (List.mem_of_getElem? (i := 0) rfl) v0 rfl
  obtain ⟨a_v0, ha_v0⟩ : ∃ a, ad v0 = a := ⟨_, rfl⟩
  rw [ha_v0] at hl
  unfold sg_L_addRange_0 at h
  refine lv_aload_n hx hb d_L_addRange_0 rfl (lv_at hl 0 rfl) ?_
  obtain ⟨x1, hx1, h⟩ := hy_bd h
  refine hy_geti B S ha_v0 hx1 rfl (Nat.le_of_ble_eq_true rfl) i_1 (j := 5) tw_138 (fun _ h => h) d_L_addRange_1 ?_
  refine lv_bipush (v := 20) hx hb d_L_addRange_4 (by decide) ?_
  refine lv_icmp_ge (tgt := 49) hx hb d_L_addRange_6 (by decide) (fun c2 => ?_) (fun c2 => ?_)
  · rw [if_pos c2] at h
    cases h
    cases K
    exact hy_vret hA B S d_L_addRange_49
  · rw [if_neg c2] at h
    refine lv_aload_n hx hb d_L_addRange_9 rfl (lv_at hl 0 rfl) ?_
    obtain ⟨r3, hr3, h⟩ := hy_bd h
    refine hy_getr B S ha_v0 hr3 rfl (Nat.le_of_ble_eq_true rfl) i_1 (j := 0) tw_129 (fun _ h => h) d_L_addRange_10 (fun a_r3 ha_r3 hv_r3 => ?_)
    refine lv_aload_n hx hb d_L_addRange_13 rfl (lv_at hl 0 rfl) ?_
    obtain ⟨x4, hx4, h⟩ := hy_bd h
    refine hy_geti B S ha_v0 hx4 rfl (Nat.le_of_ble_eq_true rfl) i_1 (j := 5) tw_138 (fun _ h => h) d_L_addRange_14 ?_
    refine lv_iload_n hx hb d_L_addRange_17 rfl (lv_at hl 1 rfl) ?_
    obtain ⟨w5, hw5, h⟩ := hy_bd h
    refine hy_iast B S ha_r3 hw5 d_L_addRange_18 (fun H locs S hl_w5 => ?_)
    refine lv_aload_n hx hb d_L_addRange_19 rfl (lv_at hl 0 rfl) ?_
    obtain ⟨r6, hr6, h⟩ := hy_bd h
    refine hy_getr B S ha_v0 hr6 rfl (Nat.le_of_ble_eq_true rfl) i_1 (j := 1) tw_130 (fun _ h => h) d_L_addRange_20 (fun a_r6 ha_r6 hv_r6 => ?_)
    refine lv_aload_n hx hb d_L_addRange_23 rfl (lv_at hl 0 rfl) ?_
    obtain ⟨x7, hx7, h⟩ := hy_bd h
    refine hy_geti B S ha_v0 hx7 rfl (Nat.le_of_ble_eq_true rfl) i_1 (j := 5) tw_138 (fun _ h => h) d_L_addRange_24 ?_
    refine lv_iload_n hx hb d_L_addRange_27 rfl (lv_at hl 2 rfl) ?_
    obtain ⟨w8, hw8, h⟩ := hy_bd h
    refine hy_iast B S ha_r6 hw8 d_L_addRange_28 (fun H locs S hl_w8 => ?_)
    refine lv_aload_n hx hb d_L_addRange_29 rfl (lv_at hl 0 rfl) ?_
    obtain ⟨r9, hr9, h⟩ := hy_bd h
    refine hy_getr B S ha_v0 hr9 rfl (Nat.le_of_ble_eq_true rfl) i_1 (j := 2) tw_131 (fun _ h => h) d_L_addRange_30 (fun a_r9 ha_r9 hv_r9 => ?_)
    refine lv_aload_n hx hb d_L_addRange_33 rfl (lv_at hl 0 rfl) ?_
    obtain ⟨x10, hx10, h⟩ := hy_bd h
    refine hy_geti B S ha_v0 hx10 rfl (Nat.le_of_ble_eq_true rfl) i_1 (j := 5) tw_138 (fun _ h => h) d_L_addRange_34 ?_
    refine lv_iload_n hx hb d_L_addRange_37 rfl (lv_at hl 3 rfl) ?_
    obtain ⟨w11, hw11, h⟩ := hy_bd h
    refine hy_iast B S ha_r9 hw11 d_L_addRange_38 (fun H locs S hl_w11 => ?_)
    refine lv_aload_n hx hb d_L_addRange_39 rfl (lv_at hl 0 rfl) ?_
    refine lv_dup hx hb d_L_addRange_40 rfl ?_
    obtain ⟨x12, hx12, h⟩ := hy_bd h
    refine hy_geti B S ha_v0 hx12 rfl (Nat.le_of_ble_eq_true rfl) i_1 (j := 5) tw_138 (fun _ h => h) d_L_addRange_41 ?_
    refine lv_iconst (v := 1) hx hb d_L_addRange_44 (by decide) ?_
    refine lv_iadd hx hb d_L_addRange_45 ?_
    obtain ⟨w13, hw13, h⟩ := hy_bd h
    refine hy_put B S ha_v0 rfl hy_cvi hw13 rfl (Nat.le_of_ble_eq_true rfl) i_1 t_1 t_1_ok n_1 (j := 5) tw_138 (fun _ h => h) rfl rfl rfl d_L_addRange_46 (fun H locs S hl_w13 => ?_)
    cases h
    cases K
    exact hy_vret hA B S d_L_addRange_49
theorem nk_L_addRange {p : Program} {l : Launch} {e : Env} {s : State} {m : MethodId} {args : Array Value} {below : List Frame} {meth : Method} {c : Code} {G : hy_G} {A : Nat → Prop} {ad0 : Nat → Nat} {w0 : hy_W} {o : hy_O} (hl9 : l.flags = flags0) (hA : hy_A G ad0 w0 s.heap.size = A) (B : hy_B p l e (hy_rm 0 0 w0) s m args below meth c "HyphenPatterns$Language" b_L_addRange 4 none [] G A) (q : hy_P) (nx : hy_N) (hq : nx_L_addRange q = some nx) (K : hy_Nx lay_L_addRange p l e (hy_rm 0 0 w0) s m args below meth c 4 G A ad0 w0.1.length (hy_Q below G ad0 w0 o args s) o nx) : hy_At lay_L_addRange p l e (hy_rm 0 0 w0) s m args below meth c 4 G A ad0 w0.1.length (hy_Q below G ad0 w0 o args s) q := by
  unfold nx_L_addRange at hq
  split at hq
  · exact sk_L_addRange_0 hl9 hA B _ _ _ _ _ nx hq K
  · cases hq
theorem c_L_addRange {l : Launch} (hl9 : l.flags = flags0) (G : hy_G) (ad : Nat → Nat) {v0 : Nat} {v1 : Int32} {v2 : Int32} {v3 : Int32} {w : hy_W} {o : hy_O} (h : f_L_addRange [.ref v0, .int v1, .int v2, .int v3] w = some o) : hy_M l y_L_addRange (Cond.code y_L_addRange b_L_addRange 4 none :: hy_T) 0 0 G ad [.ref v0, .int v1, .int v2, .int v3] w o := by
  obtain ⟨n, hn⟩ := hy_fx_iff.mp h
  refine hy_ofW hl9 (by decide +kernel) (Nat.le_of_ble_eq_true rfl) (fun p e s m args below meth c A hA hi B S hok ls hl => ?_)
  exact hy_loop (nk_L_addRange hl9 hA B) n _ hn ad s.heap [] 0 0 ls S hok hl
theorem d_H_letters_0 : decode b_H_letters 0 = .ok (.iload_n 1, 1) := by decide +kernel
theorem d_H_letters_1 : decode b_H_letters 1 = .ok (.invokestatic 53, 3) := by decide +kernel
theorem d_H_letters_4 : decode b_H_letters 4 = .ok (.ifCond .eq 15, 3) := by decide +kernel
theorem d_H_letters_7 : decode b_H_letters 7 = .ok (.iload_n 2, 1) := by decide +kernel
theorem d_H_letters_8 : decode b_H_letters 8 = .ok (.invokestatic 53, 3) := by decide +kernel
theorem d_H_letters_11 : decode b_H_letters 11 = .ok (.ifCond .eq 8, 3) := by decide +kernel
theorem d_H_letters_14 : decode b_H_letters 14 = .ok (.iload_n 1, 1) := by decide +kernel
theorem d_H_letters_15 : decode b_H_letters 15 = .ok (.iload_n 2, 1) := by decide +kernel
theorem d_H_letters_16 : decode b_H_letters 16 = .ok (.if_icmp .le 13, 3) := by decide +kernel
theorem d_H_letters_19 : decode b_H_letters 19 = .ok (.new 57, 3) := by decide +kernel
theorem d_H_letters_22 : decode b_H_letters 22 = .ok (.dup, 1) := by decide +kernel
theorem d_H_letters_23 : decode b_H_letters 23 = .ok (.ldc 59, 2) := by decide +kernel
theorem d_H_letters_25 : decode b_H_letters 25 = .ok (.invokespecial 61, 3) := by decide +kernel
theorem d_H_letters_28 : decode b_H_letters 28 = .ok (.athrow, 1) := by decide +kernel
theorem d_H_letters_29 : decode b_H_letters 29 = .ok (.iload_n 3, 1) := by decide +kernel
theorem d_H_letters_30 : decode b_H_letters 30 = .ok (.ifCond .lt 13, 3) := by decide +kernel
theorem d_H_letters_33 : decode b_H_letters 33 = .ok (.iload_n 3, 1) := by decide +kernel
theorem d_H_letters_34 : decode b_H_letters 34 = .ok (.ldc 62, 2) := by decide +kernel
theorem d_H_letters_36 : decode b_H_letters 36 = .ok (.iload_n 2, 1) := by decide +kernel
theorem d_H_letters_37 : decode b_H_letters 37 = .ok (.iload_n 1, 1) := by decide +kernel
theorem d_H_letters_38 : decode b_H_letters 38 = .ok (.isub, 1) := by decide +kernel
theorem d_H_letters_39 : decode b_H_letters 39 = .ok (.isub, 1) := by decide +kernel
theorem d_H_letters_40 : decode b_H_letters 40 = .ok (.if_icmp .le 13, 3) := by decide +kernel
theorem d_H_letters_43 : decode b_H_letters 43 = .ok (.new 57, 3) := by decide +kernel
theorem d_H_letters_46 : decode b_H_letters 46 = .ok (.dup, 1) := by decide +kernel
theorem d_H_letters_47 : decode b_H_letters 47 = .ok (.ldc 63, 2) := by decide +kernel
theorem d_H_letters_49 : decode b_H_letters 49 = .ok (.invokespecial 61, 3) := by decide +kernel
theorem d_H_letters_52 : decode b_H_letters 52 = .ok (.athrow, 1) := by decide +kernel
theorem d_H_letters_53 : decode b_H_letters 53 = .ok (.aload_n 0, 1) := by decide +kernel
theorem d_H_letters_54 : decode b_H_letters 54 = .ok (.getfield 11, 3) := by decide +kernel
theorem d_H_letters_57 : decode b_H_letters 57 = .ok (.aload_n 0, 1) := by decide +kernel
theorem d_H_letters_58 : decode b_H_letters 58 = .ok (.getfield 41, 3) := by decide +kernel
theorem d_H_letters_61 : decode b_H_letters 61 = .ok (.aaload, 1) := by decide +kernel
theorem d_H_letters_62 : decode b_H_letters 62 = .ok (.getfield 65, 3) := by decide +kernel
theorem d_H_letters_65 : decode b_H_letters 65 = .ok (.bipush 20, 2) := by decide +kernel
theorem d_H_letters_67 : decode b_H_letters 67 = .ok (.if_icmp .lt 13, 3) := by decide +kernel
theorem d_H_letters_70 : decode b_H_letters 70 = .ok (.new 68, 3) := by decide +kernel
theorem d_H_letters_73 : decode b_H_letters 73 = .ok (.dup, 1) := by decide +kernel
theorem d_H_letters_74 : decode b_H_letters 74 = .ok (.ldc 70, 2) := by decide +kernel
theorem d_H_letters_76 : decode b_H_letters 76 = .ok (.invokespecial 72, 3) := by decide +kernel
theorem d_H_letters_79 : decode b_H_letters 79 = .ok (.athrow, 1) := by decide +kernel
theorem d_H_letters_80 : decode b_H_letters 80 = .ok (.aload_n 0, 1) := by decide +kernel
theorem d_H_letters_81 : decode b_H_letters 81 = .ok (.getfield 11, 3) := by decide +kernel
theorem d_H_letters_84 : decode b_H_letters 84 = .ok (.aload_n 0, 1) := by decide +kernel
theorem d_H_letters_85 : decode b_H_letters 85 = .ok (.getfield 41, 3) := by decide +kernel
theorem d_H_letters_88 : decode b_H_letters 88 = .ok (.aaload, 1) := by decide +kernel
theorem d_H_letters_89 : decode b_H_letters 89 = .ok (.iload_n 1, 1) := by decide +kernel
theorem d_H_letters_90 : decode b_H_letters 90 = .ok (.iload_n 2, 1) := by decide +kernel
theorem d_H_letters_91 : decode b_H_letters 91 = .ok (.iload_n 3, 1) := by decide +kernel
theorem d_H_letters_92 : decode b_H_letters 92 = .ok (.invokevirtual 73, 3) := by decide +kernel
theorem d_H_letters_95 : decode b_H_letters 95 = .ok (.return_, 1) := by decide +kernel
def lay_H_letters (pc : Nat) : List Nat := if pc = 0 then [0, 1, 2, 3] else []
noncomputable def sg_H_letters_0 (v0 : Nat) (v1 : Int32) (v2 : Int32) (v3 : Int32) (w : hy_W) : Option hy_N := hy_bi (f_H_isCharacter [.int v1] w) fun x3 w1 => if x3 = 0 then ((hy_th w1).bind fun w5 => some (.inr (.inr "java/lang/IllegalArgumentException", w5))) else (hy_bi (f_H_isCharacter [.int v2] w1) fun x8 w6 => if x8 = 0 then ((hy_th w6).bind fun w10 => some (.inr (.inr "java/lang/IllegalArgumentException", w10))) else (if v1 ≤ v2 then (if v3 < 0 then ((hy_th w6).bind fun w13 => some (.inr (.inr "java/lang/IllegalArgumentException", w13))) else (if v3 ≤ (1114111 - (v2 - v1)) then ((hy_gr w6 v0 5 0).bind fun r15 => (hy_gi w6 v0 5 5).bind fun x16 => (hy_ar w6 2 r15 x16).bind fun r17 => (hy_gi w6 r17 1 5).bind fun x18 => if x18 < 20 then ((hy_gr w6 v0 5 0).bind fun r20 => (hy_gi w6 v0 5 5).bind fun x21 => (hy_ar w6 2 r20 x21).bind fun r22 => if hy_ob w6 r22 1 = true then hy_bv (f_L_addRange [.ref r22, .int v1, .int v2, .int v3] w6) fun w23 => some (.inr (.inl none, w23)) else none) else ((hy_th w6).bind fun w27 => some (.inr (.inr "java/lang/IllegalStateException", w27)))) else ((hy_th w6).bind fun w28 => some (.inr (.inr "java/lang/IllegalArgumentException", w28))))) else ((hy_th w6).bind fun w29 => some (.inr (.inr "java/lang/IllegalArgumentException", w29)))))
noncomputable def nx_H_letters (q : hy_P) : Option hy_N := match q with
  | (0, [.ref v0, .int v1, .int v2, .int v3], w) => sg_H_letters_0 v0 v1 v2 v3 w
  | _ => none
noncomputable def f_H_letters (av : List Value) (w : hy_W) : Option hy_O := hy_fx nx_H_letters (0, av, w)
set_option maxHeartbeats 4000000 in
set_option maxRecDepth 100000 in
theorem sk_H_letters_0 {p : Program} {l : Launch} {e : Env} {s : State} {m : MethodId} {args : Array Value} {below : List Frame} {meth : Method} {c : Code} {G : hy_G} {A : Nat → Prop} {ad0 : Nat → Nat} {w0 : hy_W} {o : hy_O} (hl9 : l.flags = flags0) (hA : hy_A G ad0 w0 s.heap.size = A) (B : hy_B p l e (hy_rm 6 82 w0) s m args below meth c "HyphenPatterns" b_H_letters 4 none [] G A) (v0 : Nat) (v1 : Int32) (v2 : Int32) (v3 : Int32) (w : hy_W) (nx : hy_N) (h : sg_H_letters_0 v0 v1 v2 v3 w = some nx) (K : hy_Nx lay_H_letters p l e (hy_rm 6 82 w0) s m args below meth c 4 G A ad0 w0.1.length (hy_Q below G ad0 w0 o args s) o nx) : hy_At lay_H_letters p l e (hy_rm 6 82 w0) s m args below meth c 4 G A ad0 w0.1.length (hy_Q below G ad0 w0 o args s) (0, [.ref v0, .int v1, .int v2, .int v3], w) := by
  intro ad H locs cells slots ls S hok hl
  have hx := B.1
  have hb := B.2.1
  dsimp only at S hok
  have hl : lv_has ls 4 [(0, .ref (ad v0)), (1, .int v1), (2, .int v2), (3, .int v3)] := hl
  show W p l e (hy_rm 6 82 w0) s m args below meth c H locs cells slots (hy_Q below G ad0 w0 o args s) (F0 m 0 ls [])
  have hv_v0 : v0 < w.1.length := hok (.ref v0) (List.mem_of_getElem? (i := 0) rfl) v0 rfl
  obtain ⟨a_v0, ha_v0⟩ : ∃ a, ad v0 = a := ⟨_, rfl⟩
  rw [ha_v0] at hl
  unfold sg_H_letters_0 at h
  refine lv_iload_n hx hb d_H_letters_0 rfl (lv_at hl 1 rfl) ?_
  obtain ⟨x3, w1, hq_w1, h⟩ := hy_bi_spec h
  refine hy_calli (hy_runS (rest := []) (As := [.int v1]) B S (by rfl) (c_H_isCharacter hl9 G ad hq_w1) (hy_oki hy_ok0) tw_394 tw_1 tw_392 tw_393 (by decide) rfl (Nat.le_of_ble_eq_true rfl) (Nat.le_of_ble_eq_true rfl) hl.1 (Nat.le_of_ble_eq_true rfl) d_H_letters_1) (fun ad2 H locs cells slots hag hl_w1 S => ?_)
  have ha_v0 : ad2 v0 = a_v0 := (hag v0 (by omega)).trans ha_v0
  refine lv_if_eq (tgt := 19) hx hb d_H_letters_4 (by decide) (fun c4 => ?_) (fun c4 => ?_)
  · rw [if_pos c4] at h
    obtain ⟨w5, hw5, h⟩ := hy_bd h
    cases h
    cases K
    exact hy_throw (text := "these are no bounds of a range") (names := ["java/lang/RuntimeException", "java/lang/Exception"]) hA B S hw5 (by decide +kernel) (by decide +kernel) tw_396 tw_14 (by decide +kernel) at_H_IA hl.1 d_H_letters_19 d_H_letters_22 d_H_letters_23 d_H_letters_25 d_H_letters_28 (Nat.le_of_ble_eq_true rfl) (Nat.le_of_ble_eq_true rfl)
  · rw [if_neg c4] at h
    refine lv_iload_n hx hb d_H_letters_7 rfl (lv_at hl 2 rfl) ?_
    obtain ⟨x8, w6, hq_w6, h⟩ := hy_bi_spec h
    refine hy_calli (hy_runS (rest := []) (As := [.int v2]) B S (by rfl) (c_H_isCharacter hl9 G ad2 hq_w6) (hy_oki hy_ok0) tw_394 tw_1 tw_392 tw_393 (by decide) rfl (Nat.le_of_ble_eq_true rfl) (Nat.le_of_ble_eq_true rfl) hl.1 (Nat.le_of_ble_eq_true rfl) d_H_letters_8) (fun ad7 H locs cells slots hag hl_w6 S => ?_)
    have ha_v0 : ad7 v0 = a_v0 := (hag v0 (by omega)).trans ha_v0
    refine lv_if_eq (tgt := 19) hx hb d_H_letters_11 (by decide) (fun c9 => ?_) (fun c9 => ?_)
    · rw [if_pos c9] at h
      obtain ⟨w10, hw10, h⟩ := hy_bd h
      cases h
      cases K
      exact hy_throw (text := "these are no bounds of a range") (names := ["java/lang/RuntimeException", "java/lang/Exception"]) hA B S hw10 (by decide +kernel) (by decide +kernel) tw_396 tw_14 (by decide +kernel) at_H_IA hl.1 d_H_letters_19 d_H_letters_22 d_H_letters_23 d_H_letters_25 d_H_letters_28 (Nat.le_of_ble_eq_true rfl) (Nat.le_of_ble_eq_true rfl)
    · rw [if_neg c9] at h
      refine lv_iload_n hx hb d_H_letters_14 rfl (lv_at hl 1 rfl) ?_
      refine lv_iload_n hx hb d_H_letters_15 rfl (lv_at hl 2 rfl) ?_
      refine lv_icmp_le (tgt := 29) hx hb d_H_letters_16 (by decide) (fun c11 => ?_) (fun c11 => ?_)
      · rw [if_pos c11] at h
        refine lv_iload_n hx hb d_H_letters_29 rfl (lv_at hl 3 rfl) ?_
        refine lv_if_lt (tgt := 43) hx hb d_H_letters_30 (by decide) (fun c12 => ?_) (fun c12 => ?_)
        · rw [if_pos c12] at h
          obtain ⟨w13, hw13, h⟩ := hy_bd h
          cases h
          cases K
          exact hy_throw (text := "these are no letters") (names := ["java/lang/RuntimeException", "java/lang/Exception"]) hA B S hw13 (by decide +kernel) (by decide +kernel) tw_396 tw_14 (by decide +kernel) at_H_IA hl.1 d_H_letters_43 d_H_letters_46 d_H_letters_47 d_H_letters_49 d_H_letters_52 (Nat.le_of_ble_eq_true rfl) (Nat.le_of_ble_eq_true rfl)
        · rw [if_neg c12] at h
          refine lv_iload_n hx hb d_H_letters_33 rfl (lv_at hl 3 rfl) ?_
          refine lv_ldc (v := 1114111) hx hb B.2.2.2.1 (B.2.2.2.2.1 _ tw_395) d_H_letters_34 ?_
          refine lv_iload_n hx hb d_H_letters_36 rfl (lv_at hl 2 rfl) ?_
          refine lv_iload_n hx hb d_H_letters_37 rfl (lv_at hl 1 rfl) ?_
          refine lv_isub hx hb d_H_letters_38 ?_
          refine lv_isub hx hb d_H_letters_39 ?_
          refine lv_icmp_le (tgt := 53) hx hb d_H_letters_40 (by decide) (fun c14 => ?_) (fun c14 => ?_)
          · rw [if_pos c14] at h
            refine lv_aload_n hx hb d_H_letters_53 rfl (lv_at hl 0 rfl) ?_
            obtain ⟨r15, hr15, h⟩ := hy_bd h
            refine hy_getr B S ha_v0 hr15 rfl (Nat.le_of_ble_eq_true rfl) i_5 (j := 0) tw_163 (fun _ h => h) d_H_letters_54 (fun a_r15 ha_r15 hv_r15 => ?_)
            refine lv_aload_n hx hb d_H_letters_57 rfl (lv_at hl 0 rfl) ?_
            obtain ⟨x16, hx16, h⟩ := hy_bd h
            refine hy_geti B S ha_v0 hx16 rfl (Nat.le_of_ble_eq_true rfl) i_5 (j := 5) tw_168 (fun _ h => h) d_H_letters_58 ?_
            obtain ⟨r17, hr17, h⟩ := hy_bd h
            refine hy_aald B S ha_r15 (Or.inl rfl) hr17 d_H_letters_61 (fun a_r17 ha_r17 hv_r17 => ?_)
            obtain ⟨x18, hx18, h⟩ := hy_bd h
            refine hy_geti B S ha_r17 hx18 rfl (Nat.le_of_ble_eq_true rfl) i_1 (j := 5) tw_139 (fun _ h => h) d_H_letters_62 ?_
            refine lv_bipush (v := 20) hx hb d_H_letters_65 (by decide) ?_
            refine lv_icmp_lt (tgt := 80) hx hb d_H_letters_67 (by decide) (fun c19 => ?_) (fun c19 => ?_)
            · rw [if_pos c19] at h
              refine lv_aload_n hx hb d_H_letters_80 rfl (lv_at hl 0 rfl) ?_
              obtain ⟨r20, hr20, h⟩ := hy_bd h
              refine hy_getr B S ha_v0 hr20 rfl (Nat.le_of_ble_eq_true rfl) i_5 (j := 0) tw_163 (fun _ h => h) d_H_letters_81 (fun a_r20 ha_r20 hv_r20 => ?_)
              refine lv_aload_n hx hb d_H_letters_84 rfl (lv_at hl 0 rfl) ?_
              obtain ⟨x21, hx21, h⟩ := hy_bd h
              refine hy_geti B S ha_v0 hx21 rfl (Nat.le_of_ble_eq_true rfl) i_5 (j := 5) tw_168 (fun _ h => h) d_H_letters_85 ?_
              obtain ⟨r22, hr22, h⟩ := hy_bd h
              refine hy_aald B S ha_r20 (Or.inl rfl) hr22 d_H_letters_88 (fun a_r22 ha_r22 hv_r22 => ?_)
              refine lv_iload_n hx hb d_H_letters_89 rfl (lv_at hl 1 rfl) ?_
              refine lv_iload_n hx hb d_H_letters_90 rfl (lv_at hl 2 rfl) ?_
              refine lv_iload_n hx hb d_H_letters_91 rfl (lv_at hl 3 rfl) ?_
              obtain ⟨ob26, h⟩ := hy_if h
              obtain ⟨fs_ob26, hf_ob26, hg_ob26⟩ := hy_ob_spec ob26
              obtain ⟨w23, hq_w23, h⟩ := hy_bv_spec h
              refine hy_callv (hy_runV (rest := []) (As := [.int v1, .int v2, .int v3]) (r := r22) (b := a_r22) B S rfl ha_r22 (by rfl) (c_L_addRange hl9 G ad7 hq_w23) (hy_okr (by omega) (hy_oki (hy_oki (hy_oki hy_ok0)))) tw_432 tw_5 tw_429 tw_430 sl_L_addRange (by decide) rfl (Nat.le_of_ble_eq_true rfl) (Nat.le_of_ble_eq_true rfl) hf_ob26 hg_ob26 rfl hl.1 (Nat.le_of_ble_eq_true rfl) d_H_letters_92) (fun ad24 H locs cells slots hag hl_w23 S => ?_)
              have ha_v0 : ad24 v0 = a_v0 := (hag v0 (by omega)).trans ha_v0
              cases h
              cases K
              exact hy_vret hA B S d_H_letters_95
            · rw [if_neg c19] at h
              obtain ⟨w27, hw27, h⟩ := hy_bd h
              cases h
              cases K
              exact hy_throw (text := "the language has all its ranges") (names := ["java/lang/RuntimeException", "java/lang/Exception"]) hA B S hw27 (by decide +kernel) (by decide +kernel) tw_413 tw_15 (by decide +kernel) at_H_IS hl.1 d_H_letters_70 d_H_letters_73 d_H_letters_74 d_H_letters_76 d_H_letters_79 (Nat.le_of_ble_eq_true rfl) (Nat.le_of_ble_eq_true rfl)
          · rw [if_neg c14] at h
            obtain ⟨w28, hw28, h⟩ := hy_bd h
            cases h
            cases K
            exact hy_throw (text := "these are no letters") (names := ["java/lang/RuntimeException", "java/lang/Exception"]) hA B S hw28 (by decide +kernel) (by decide +kernel) tw_396 tw_14 (by decide +kernel) at_H_IA hl.1 d_H_letters_43 d_H_letters_46 d_H_letters_47 d_H_letters_49 d_H_letters_52 (Nat.le_of_ble_eq_true rfl) (Nat.le_of_ble_eq_true rfl)
      · rw [if_neg c11] at h
        obtain ⟨w29, hw29, h⟩ := hy_bd h
        cases h
        cases K
        exact hy_throw (text := "these are no bounds of a range") (names := ["java/lang/RuntimeException", "java/lang/Exception"]) hA B S hw29 (by decide +kernel) (by decide +kernel) tw_396 tw_14 (by decide +kernel) at_H_IA hl.1 d_H_letters_19 d_H_letters_22 d_H_letters_23 d_H_letters_25 d_H_letters_28 (Nat.le_of_ble_eq_true rfl) (Nat.le_of_ble_eq_true rfl)
theorem nk_H_letters {p : Program} {l : Launch} {e : Env} {s : State} {m : MethodId} {args : Array Value} {below : List Frame} {meth : Method} {c : Code} {G : hy_G} {A : Nat → Prop} {ad0 : Nat → Nat} {w0 : hy_W} {o : hy_O} (hl9 : l.flags = flags0) (hA : hy_A G ad0 w0 s.heap.size = A) (B : hy_B p l e (hy_rm 6 82 w0) s m args below meth c "HyphenPatterns" b_H_letters 4 none [] G A) (q : hy_P) (nx : hy_N) (hq : nx_H_letters q = some nx) (K : hy_Nx lay_H_letters p l e (hy_rm 6 82 w0) s m args below meth c 4 G A ad0 w0.1.length (hy_Q below G ad0 w0 o args s) o nx) : hy_At lay_H_letters p l e (hy_rm 6 82 w0) s m args below meth c 4 G A ad0 w0.1.length (hy_Q below G ad0 w0 o args s) q := by
  unfold nx_H_letters at hq
  split at hq
  · exact sk_H_letters_0 hl9 hA B _ _ _ _ _ nx hq K
  · cases hq
theorem c_H_letters {l : Launch} (hl9 : l.flags = flags0) (G : hy_G) (ad : Nat → Nat) {v0 : Nat} {v1 : Int32} {v2 : Int32} {v3 : Int32} {w : hy_W} {o : hy_O} (h : f_H_letters [.ref v0, .int v1, .int v2, .int v3] w = some o) : hy_M l y_H_letters (Cond.code y_H_letters b_H_letters 4 none :: hy_T) 6 82 G ad [.ref v0, .int v1, .int v2, .int v3] w o := by
  obtain ⟨n, hn⟩ := hy_fx_iff.mp h
  refine hy_ofW hl9 (by decide +kernel) (Nat.le_of_ble_eq_true rfl) (fun p e s m args below meth c A hA hi B S hok ls hl => ?_)
  exact hy_loop (nk_H_letters hl9 hA B) n _ hn ad s.heap [] 0 0 ls S hok hl
theorem d_X_letters_0 : decode b_X_letters 0 = .ok (.aload_n 0, 1) := by decide +kernel
theorem d_X_letters_1 : decode b_X_letters 1 = .ok (.iload_n 1, 1) := by decide +kernel
theorem d_X_letters_2 : decode b_X_letters 2 = .ok (.iload_n 2, 1) := by decide +kernel
theorem d_X_letters_3 : decode b_X_letters 3 = .ok (.iload_n 3, 1) := by decide +kernel
theorem d_X_letters_4 : decode b_X_letters 4 = .ok (.invokevirtual 15, 3) := by decide +kernel
theorem d_X_letters_7 : decode b_X_letters 7 = .ok (.goto 11, 3) := by decide +kernel
theorem d_X_letters_10 : decode b_X_letters 10 = .ok (.astore 4, 2) := by decide +kernel
theorem d_X_letters_12 : decode b_X_letters 12 = .ok (.iconst 1, 1) := by decide +kernel
theorem d_X_letters_13 : decode b_X_letters 13 = .ok (.ireturn, 1) := by decide +kernel
theorem d_X_letters_14 : decode b_X_letters 14 = .ok (.astore 4, 2) := by decide +kernel
theorem d_X_letters_16 : decode b_X_letters 16 = .ok (.iconst 2, 1) := by decide +kernel
theorem d_X_letters_17 : decode b_X_letters 17 = .ok (.ireturn, 1) := by decide +kernel
theorem d_X_letters_18 : decode b_X_letters 18 = .ok (.iconst 0, 1) := by decide +kernel
theorem d_X_letters_19 : decode b_X_letters 19 = .ok (.ireturn, 1) := by decide +kernel
def lay_X_letters (pc : Nat) : List Nat := if pc = 0 then [0, 1, 2, 3] else []
noncomputable def sg_X_letters_0 (v0 : Nat) (v1 : Int32) (v2 : Int32) (v3 : Int32) (w : hy_W) : Option hy_N := if hy_ob w v0 5 = true then hy_xv (f_H_letters [.ref v0, .int v1, .int v2, .int v3] w) (fun w1 => some (.inr (.inl (some (.int 0)), w1))) (fun E5 w6 => if E5 = "java/lang/IllegalArgumentException" then (some (.inr (.inl (some (.int 1)), w6))) else (if E5 = "java/lang/IllegalStateException" then (some (.inr (.inl (some (.int 2)), w6))) else none)) else none
noncomputable def nx_X_letters (q : hy_P) : Option hy_N := match q with
  | (0, [.ref v0, .int v1, .int v2, .int v3], w) => sg_X_letters_0 v0 v1 v2 v3 w
  | _ => none
noncomputable def f_X_letters (av : List Value) (w : hy_W) : Option hy_O := hy_fx nx_X_letters (0, av, w)
set_option maxHeartbeats 4000000 in
set_option maxRecDepth 100000 in
theorem sk_X_letters_0 {p : Program} {l : Launch} {e : Env} {s : State} {m : MethodId} {args : Array Value} {below : List Frame} {meth : Method} {c : Code} {G : hy_G} {A : Nat → Prop} {ad0 : Nat → Nat} {w0 : hy_W} {o : hy_O} (hl9 : l.flags = flags0) (hA : hy_A G ad0 w0 s.heap.size = A) (B : hy_B p l e (hy_rm 7 105 w0) s m args below meth c "HyphenPatternsLaw" b_X_letters 5 (some .int) [(0, 7, 10, 19), (0, 7, 14, 21)] G A) (v0 : Nat) (v1 : Int32) (v2 : Int32) (v3 : Int32) (w : hy_W) (nx : hy_N) (h : sg_X_letters_0 v0 v1 v2 v3 w = some nx) (K : hy_Nx lay_X_letters p l e (hy_rm 7 105 w0) s m args below meth c 5 G A ad0 w0.1.length (hy_Q below G ad0 w0 o args s) o nx) : hy_At lay_X_letters p l e (hy_rm 7 105 w0) s m args below meth c 5 G A ad0 w0.1.length (hy_Q below G ad0 w0 o args s) (0, [.ref v0, .int v1, .int v2, .int v3], w) := by
  intro ad H locs cells slots ls S hok hl
  have hx := B.1
  have hb := B.2.1
  dsimp only at S hok
  have hl : lv_has ls 5 [(0, .ref (ad v0)), (1, .int v1), (2, .int v2), (3, .int v3)] := hl
  show W p l e (hy_rm 7 105 w0) s m args below meth c H locs cells slots (hy_Q below G ad0 w0 o args s) (F0 m 0 ls [])
  have hv_v0 : v0 < w.1.length := hok (.ref v0) (List.mem_of_getElem? (i := 0) rfl) v0 rfl
  obtain ⟨a_v0, ha_v0⟩ : ∃ a, ad v0 = a := ⟨_, rfl⟩
  rw [ha_v0] at hl
  unfold sg_X_letters_0 at h
  refine lv_aload_n hx hb d_X_letters_0 rfl (lv_at hl 0 rfl) ?_
  refine lv_iload_n hx hb d_X_letters_1 rfl (lv_at hl 1 rfl) ?_
  refine lv_iload_n hx hb d_X_letters_2 rfl (lv_at hl 2 rfl) ?_
  refine lv_iload_n hx hb d_X_letters_3 rfl (lv_at hl 3 rfl) ?_
  obtain ⟨ob4, h⟩ := hy_if h
  obtain ⟨fs_ob4, hf_ob4, hg_ob4⟩ := hy_ob_spec ob4
  rcases hy_xv_spec h with ⟨w1, hq_w1, h⟩ | ⟨E5, w6, hq_w6, h⟩
  · refine hy_callv (hy_runV (rest := []) (As := [.int v1, .int v2, .int v3]) (r := v0) (b := a_v0) B S rfl ha_v0 (by rfl) (c_H_letters hl9 G ad hq_w1) (hy_okr (by omega) (hy_oki (hy_oki (hy_oki hy_ok0)))) tw_391 tw_1 tw_388 tw_389 sl_H_letters (by decide) rfl (Nat.le_of_ble_eq_true rfl) (Nat.le_of_ble_eq_true rfl) hf_ob4 hg_ob4 rfl hl.1 (Nat.le_of_ble_eq_true rfl) d_X_letters_4) (fun ad2 H locs cells slots hag hl_w1 S => ?_)
    have ha_v0 : ad2 v0 = a_v0 := (hag v0 (by omega)).trans ha_v0
    refine lv_goto (tgt := 18) hx hb d_X_letters_7 (by decide) ?_
    refine lv_iconst (v := 0) hx hb d_X_letters_18 (by decide) ?_
    cases h
    cases K
    exact hy_iret hA B S d_X_letters_19
  · by_cases c10 : E5 = "java/lang/IllegalArgumentException"
    · rw [if_pos c10] at h
      subst c10
      refine hy_callT (rest := []) (As := [.int v1, .int v2, .int v3]) (r := v0) (b := a_v0) B S rfl ha_v0 (by rfl) (c_H_letters hl9 G ad hq_w6) (hy_okr (by omega) (hy_oki (hy_oki (hy_oki hy_ok0)))) tw_391 tw_1 tw_388 tw_389 sl_H_letters (by decide) rfl (Nat.le_of_ble_eq_true rfl) (Nat.le_of_ble_eq_true rfl) hf_ob4 hg_ob4 rfl hl.1 (Nat.le_of_ble_eq_true rfl) d_X_letters_4 (fun ad7 H locs cells slots q8 ce9 hag hl_w6 S z1 z2 z3 => ?_)
      have ha_v0 : ad7 v0 = a_v0 := (hag v0 (by omega)).trans ha_v0
      refine hy_catch1 B (Nat.le_of_ble_eq_true rfl) (Nat.le_of_ble_eq_true rfl) (by decide) tw_386 (by decide +kernel) z1 z2 z3 ?_
      refine lv_astore (lv' := [(4, .ref q8), (0, .ref a_v0), (1, .int v1), (2, .int v2), (3, .int v3)]) hx hb d_X_letters_10 hl (Nat.le_of_ble_eq_true rfl) rfl (fun ls hl => ?_)
      refine lv_iconst (v := 1) hx hb d_X_letters_12 (by decide) ?_
      cases h
      cases K
      exact hy_iret hA B S d_X_letters_13
    rw [if_neg c10] at h
    by_cases c11 : E5 = "java/lang/IllegalStateException"
    · rw [if_pos c11] at h
      subst c11
      refine hy_callT (rest := []) (As := [.int v1, .int v2, .int v3]) (r := v0) (b := a_v0) B S rfl ha_v0 (by rfl) (c_H_letters hl9 G ad hq_w6) (hy_okr (by omega) (hy_oki (hy_oki (hy_oki hy_ok0)))) tw_391 tw_1 tw_388 tw_389 sl_H_letters (by decide) rfl (Nat.le_of_ble_eq_true rfl) (Nat.le_of_ble_eq_true rfl) hf_ob4 hg_ob4 rfl hl.1 (Nat.le_of_ble_eq_true rfl) d_X_letters_4 (fun ad7 H locs cells slots q8 ce9 hag hl_w6 S z1 z2 z3 => ?_)
      have ha_v0 : ad7 v0 = a_v0 := (hag v0 (by omega)).trans ha_v0
      refine hy_catch2 B (Nat.le_of_ble_eq_true rfl) (Nat.le_of_ble_eq_true rfl) (by decide) tw_386 B.2.2.2.2.2.2.2.2.2.1.2.2.2.2.1 (Nat.le_of_ble_eq_true rfl) (Nat.le_of_ble_eq_true rfl) (by decide) tw_387 (by decide +kernel) z1 z2 z3 ?_
      refine lv_astore (lv' := [(4, .ref q8), (0, .ref a_v0), (1, .int v1), (2, .int v2), (3, .int v3)]) hx hb d_X_letters_14 hl (Nat.le_of_ble_eq_true rfl) rfl (fun ls hl => ?_)
      refine lv_iconst (v := 2) hx hb d_X_letters_16 (by decide) ?_
      cases h
      cases K
      exact hy_iret hA B S d_X_letters_17
    rw [if_neg c11] at h
    cases h
theorem nk_X_letters {p : Program} {l : Launch} {e : Env} {s : State} {m : MethodId} {args : Array Value} {below : List Frame} {meth : Method} {c : Code} {G : hy_G} {A : Nat → Prop} {ad0 : Nat → Nat} {w0 : hy_W} {o : hy_O} (hl9 : l.flags = flags0) (hA : hy_A G ad0 w0 s.heap.size = A) (B : hy_B p l e (hy_rm 7 105 w0) s m args below meth c "HyphenPatternsLaw" b_X_letters 5 (some .int) [(0, 7, 10, 19), (0, 7, 14, 21)] G A) (q : hy_P) (nx : hy_N) (hq : nx_X_letters q = some nx) (K : hy_Nx lay_X_letters p l e (hy_rm 7 105 w0) s m args below meth c 5 G A ad0 w0.1.length (hy_Q below G ad0 w0 o args s) o nx) : hy_At lay_X_letters p l e (hy_rm 7 105 w0) s m args below meth c 5 G A ad0 w0.1.length (hy_Q below G ad0 w0 o args s) q := by
  unfold nx_X_letters at hq
  split at hq
  · exact sk_X_letters_0 hl9 hA B _ _ _ _ _ nx hq K
  · cases hq
theorem c_X_letters {l : Launch} (hl9 : l.flags = flags0) (G : hy_G) (ad : Nat → Nat) {v0 : Nat} {v1 : Int32} {v2 : Int32} {v3 : Int32} {w : hy_W} {o : hy_O} (h : f_X_letters [.ref v0, .int v1, .int v2, .int v3] w = some o) : hy_M l y_X_letters (Cond.codeWith y_X_letters b_X_letters 5 (some .int) [(0, 7, 10, 19), (0, 7, 14, 21)] :: hy_T) 7 105 G ad [.ref v0, .int v1, .int v2, .int v3] w o := by
  obtain ⟨n, hn⟩ := hy_fx_iff.mp h
  refine hy_ofWW hl9 (by decide +kernel) (Nat.le_of_ble_eq_true rfl) (fun p e s m args below meth c A hA B S hok ls hl => ?_)
  exact hy_loop (nk_X_letters hl9 hA B) n _ hn ad s.heap [] 0 0 ls S hok hl
theorem d_H_least_0 : decode b_H_least 0 = .ok (.iload_n 1, 1) := by decide +kernel
theorem d_H_least_1 : decode b_H_least 1 = .ok (.iconst 1, 1) := by decide +kernel
theorem d_H_least_2 : decode b_H_least 2 = .ok (.if_icmp .lt 20, 3) := by decide +kernel
theorem d_H_least_5 : decode b_H_least 5 = .ok (.iload_n 1, 1) := by decide +kernel
theorem d_H_least_6 : decode b_H_least 6 = .ok (.bipush 20, 2) := by decide +kernel
theorem d_H_least_8 : decode b_H_least 8 = .ok (.if_icmp .gt 14, 3) := by decide +kernel
theorem d_H_least_11 : decode b_H_least 11 = .ok (.iload_n 2, 1) := by decide +kernel
theorem d_H_least_12 : decode b_H_least 12 = .ok (.iconst 1, 1) := by decide +kernel
theorem d_H_least_13 : decode b_H_least 13 = .ok (.if_icmp .lt 9, 3) := by decide +kernel
theorem d_H_least_16 : decode b_H_least 16 = .ok (.iload_n 2, 1) := by decide +kernel
theorem d_H_least_17 : decode b_H_least 17 = .ok (.bipush 20, 2) := by decide +kernel
theorem d_H_least_19 : decode b_H_least 19 = .ok (.if_icmp .le 13, 3) := by decide +kernel
theorem d_H_least_22 : decode b_H_least 22 = .ok (.new 57, 3) := by decide +kernel
theorem d_H_least_25 : decode b_H_least 25 = .ok (.dup, 1) := by decide +kernel
theorem d_H_least_26 : decode b_H_least 26 = .ok (.ldc 77, 2) := by decide +kernel
theorem d_H_least_28 : decode b_H_least 28 = .ok (.invokespecial 61, 3) := by decide +kernel
theorem d_H_least_31 : decode b_H_least 31 = .ok (.athrow, 1) := by decide +kernel
theorem d_H_least_32 : decode b_H_least 32 = .ok (.aload_n 0, 1) := by decide +kernel
theorem d_H_least_33 : decode b_H_least 33 = .ok (.getfield 11, 3) := by decide +kernel
theorem d_H_least_36 : decode b_H_least 36 = .ok (.aload_n 0, 1) := by decide +kernel
theorem d_H_least_37 : decode b_H_least 37 = .ok (.getfield 41, 3) := by decide +kernel
theorem d_H_least_40 : decode b_H_least 40 = .ok (.aaload, 1) := by decide +kernel
theorem d_H_least_41 : decode b_H_least 41 = .ok (.iload_n 1, 1) := by decide +kernel
theorem d_H_least_42 : decode b_H_least 42 = .ok (.putfield 79, 3) := by decide +kernel
theorem d_H_least_45 : decode b_H_least 45 = .ok (.aload_n 0, 1) := by decide +kernel
theorem d_H_least_46 : decode b_H_least 46 = .ok (.getfield 11, 3) := by decide +kernel
theorem d_H_least_49 : decode b_H_least 49 = .ok (.aload_n 0, 1) := by decide +kernel
theorem d_H_least_50 : decode b_H_least 50 = .ok (.getfield 41, 3) := by decide +kernel
theorem d_H_least_53 : decode b_H_least 53 = .ok (.aaload, 1) := by decide +kernel
theorem d_H_least_54 : decode b_H_least 54 = .ok (.iload_n 2, 1) := by decide +kernel
theorem d_H_least_55 : decode b_H_least 55 = .ok (.putfield 82, 3) := by decide +kernel
theorem d_H_least_58 : decode b_H_least 58 = .ok (.return_, 1) := by decide +kernel
def lay_H_least (pc : Nat) : List Nat := if pc = 0 then [0, 1, 2] else []
noncomputable def sg_H_least_0 (v0 : Nat) (v1 : Int32) (v2 : Int32) (w : hy_W) : Option hy_N := if v1 < 1 then ((hy_th w).bind fun w2 => some (.inr (.inr "java/lang/IllegalArgumentException", w2))) else (if (20 : Int32) < v1 then ((hy_th w).bind fun w4 => some (.inr (.inr "java/lang/IllegalArgumentException", w4))) else (if v2 < 1 then ((hy_th w).bind fun w6 => some (.inr (.inr "java/lang/IllegalArgumentException", w6))) else (if v2 ≤ 20 then ((hy_gr w v0 5 0).bind fun r8 => (hy_gi w v0 5 5).bind fun x9 => (hy_ar w 2 r8 x9).bind fun r10 => (hy_pf w r10 1 6 (.int v1)).bind fun w11 => (hy_gr w11 v0 5 0).bind fun r12 => (hy_gi w11 v0 5 5).bind fun x13 => (hy_ar w11 2 r12 x13).bind fun r14 => (hy_pf w11 r14 1 7 (.int v2)).bind fun w15 => some (.inr (.inl none, w15))) else ((hy_th w).bind fun w16 => some (.inr (.inr "java/lang/IllegalArgumentException", w16))))))
noncomputable def nx_H_least (q : hy_P) : Option hy_N := match q with
  | (0, [.ref v0, .int v1, .int v2], w) => sg_H_least_0 v0 v1 v2 w
  | _ => none
noncomputable def f_H_least (av : List Value) (w : hy_W) : Option hy_O := hy_fx nx_H_least (0, av, w)
set_option maxHeartbeats 4000000 in
set_option maxRecDepth 100000 in
theorem sk_H_least_0 {p : Program} {l : Launch} {e : Env} {s : State} {m : MethodId} {args : Array Value} {below : List Frame} {meth : Method} {c : Code} {G : hy_G} {A : Nat → Prop} {ad0 : Nat → Nat} {w0 : hy_W} {o : hy_O} (hl9 : l.flags = flags0) (hA : hy_A G ad0 w0 s.heap.size = A) (B : hy_B p l e (hy_rm 6 82 w0) s m args below meth c "HyphenPatterns" b_H_least 3 none [] G A) (v0 : Nat) (v1 : Int32) (v2 : Int32) (w : hy_W) (nx : hy_N) (h : sg_H_least_0 v0 v1 v2 w = some nx) (K : hy_Nx lay_H_least p l e (hy_rm 6 82 w0) s m args below meth c 3 G A ad0 w0.1.length (hy_Q below G ad0 w0 o args s) o nx) : hy_At lay_H_least p l e (hy_rm 6 82 w0) s m args below meth c 3 G A ad0 w0.1.length (hy_Q below G ad0 w0 o args s) (0, [.ref v0, .int v1, .int v2], w) := by
  intro ad H locs cells slots ls S hok hl
  have hx := B.1
  have hb := B.2.1
  dsimp only at S hok
  have hl : lv_has ls 3 [(0, .ref (ad v0)), (1, .int v1), (2, .int v2)] := hl
  show W p l e (hy_rm 6 82 w0) s m args below meth c H locs cells slots (hy_Q below G ad0 w0 o args s) (F0 m 0 ls [])
  have hv_v0 : v0 < w.1.length := hok (.ref v0) (List.mem_of_getElem? (i := 0) rfl) v0 rfl
  obtain ⟨a_v0, ha_v0⟩ : ∃ a, ad v0 = a := ⟨_, rfl⟩
  rw [ha_v0] at hl
  unfold sg_H_least_0 at h
  refine lv_iload_n hx hb d_H_least_0 rfl (lv_at hl 1 rfl) ?_
  refine lv_iconst (v := 1) hx hb d_H_least_1 (by decide) ?_
  refine lv_icmp_lt (tgt := 22) hx hb d_H_least_2 (by decide) (fun c1 => ?_) (fun c1 => ?_)
  · rw [if_pos c1] at h
    obtain ⟨w2, hw2, h⟩ := hy_bd h
    cases h
    cases K
    exact hy_throw (text := "a least number is 1 to 20") (names := ["java/lang/RuntimeException", "java/lang/Exception"]) hA B S hw2 (by decide +kernel) (by decide +kernel) tw_396 tw_14 (by decide +kernel) at_H_IA hl.1 d_H_least_22 d_H_least_25 d_H_least_26 d_H_least_28 d_H_least_31 (Nat.le_of_ble_eq_true rfl) (Nat.le_of_ble_eq_true rfl)
  · rw [if_neg c1] at h
    refine lv_iload_n hx hb d_H_least_5 rfl (lv_at hl 1 rfl) ?_
    refine lv_bipush (v := 20) hx hb d_H_least_6 (by decide) ?_
    refine lv_icmp_gt (tgt := 22) hx hb d_H_least_8 (by decide) (fun c3 => ?_) (fun c3 => ?_)
    · rw [if_pos c3] at h
      obtain ⟨w4, hw4, h⟩ := hy_bd h
      cases h
      cases K
      exact hy_throw (text := "a least number is 1 to 20") (names := ["java/lang/RuntimeException", "java/lang/Exception"]) hA B S hw4 (by decide +kernel) (by decide +kernel) tw_396 tw_14 (by decide +kernel) at_H_IA hl.1 d_H_least_22 d_H_least_25 d_H_least_26 d_H_least_28 d_H_least_31 (Nat.le_of_ble_eq_true rfl) (Nat.le_of_ble_eq_true rfl)
    · rw [if_neg c3] at h
      refine lv_iload_n hx hb d_H_least_11 rfl (lv_at hl 2 rfl) ?_
      refine lv_iconst (v := 1) hx hb d_H_least_12 (by decide) ?_
      refine lv_icmp_lt (tgt := 22) hx hb d_H_least_13 (by decide) (fun c5 => ?_) (fun c5 => ?_)
      · rw [if_pos c5] at h
        obtain ⟨w6, hw6, h⟩ := hy_bd h
        cases h
        cases K
        exact hy_throw (text := "a least number is 1 to 20") (names := ["java/lang/RuntimeException", "java/lang/Exception"]) hA B S hw6 (by decide +kernel) (by decide +kernel) tw_396 tw_14 (by decide +kernel) at_H_IA hl.1 d_H_least_22 d_H_least_25 d_H_least_26 d_H_least_28 d_H_least_31 (Nat.le_of_ble_eq_true rfl) (Nat.le_of_ble_eq_true rfl)
      · rw [if_neg c5] at h
        refine lv_iload_n hx hb d_H_least_16 rfl (lv_at hl 2 rfl) ?_
        refine lv_bipush (v := 20) hx hb d_H_least_17 (by decide) ?_
        refine lv_icmp_le (tgt := 32) hx hb d_H_least_19 (by decide) (fun c7 => ?_) (fun c7 => ?_)
        · rw [if_pos c7] at h
          refine lv_aload_n hx hb d_H_least_32 rfl (lv_at hl 0 rfl) ?_
          obtain ⟨r8, hr8, h⟩ := hy_bd h
          refine hy_getr B S ha_v0 hr8 rfl (Nat.le_of_ble_eq_true rfl) i_5 (j := 0) tw_163 (fun _ h => h) d_H_least_33 (fun a_r8 ha_r8 hv_r8 => ?_)
          refine lv_aload_n hx hb d_H_least_36 rfl (lv_at hl 0 rfl) ?_
          obtain ⟨x9, hx9, h⟩ := hy_bd h
          refine hy_geti B S ha_v0 hx9 rfl (Nat.le_of_ble_eq_true rfl) i_5 (j := 5) tw_168 (fun _ h => h) d_H_least_37 ?_
          obtain ⟨r10, hr10, h⟩ := hy_bd h
          refine hy_aald B S ha_r8 (Or.inl rfl) hr10 d_H_least_40 (fun a_r10 ha_r10 hv_r10 => ?_)
          refine lv_iload_n hx hb d_H_least_41 rfl (lv_at hl 1 rfl) ?_
          obtain ⟨w11, hw11, h⟩ := hy_bd h
          refine hy_put B S ha_r10 rfl hy_cvi hw11 rfl (Nat.le_of_ble_eq_true rfl) i_1 t_1 t_1_ok n_1 (j := 6) tw_141 (fun _ h => h) rfl rfl rfl d_H_least_42 (fun H locs S hl_w11 => ?_)
          refine lv_aload_n hx hb d_H_least_45 rfl (lv_at hl 0 rfl) ?_
          obtain ⟨r12, hr12, h⟩ := hy_bd h
          refine hy_getr B S ha_v0 hr12 rfl (Nat.le_of_ble_eq_true rfl) i_5 (j := 0) tw_163 (fun _ h => h) d_H_least_46 (fun a_r12 ha_r12 hv_r12 => ?_)
          refine lv_aload_n hx hb d_H_least_49 rfl (lv_at hl 0 rfl) ?_
          obtain ⟨x13, hx13, h⟩ := hy_bd h
          refine hy_geti B S ha_v0 hx13 rfl (Nat.le_of_ble_eq_true rfl) i_5 (j := 5) tw_168 (fun _ h => h) d_H_least_50 ?_
          obtain ⟨r14, hr14, h⟩ := hy_bd h
          refine hy_aald B S ha_r12 (Or.inl rfl) hr14 d_H_least_53 (fun a_r14 ha_r14 hv_r14 => ?_)
          refine lv_iload_n hx hb d_H_least_54 rfl (lv_at hl 2 rfl) ?_
          obtain ⟨w15, hw15, h⟩ := hy_bd h
          refine hy_put B S ha_r14 rfl hy_cvi hw15 rfl (Nat.le_of_ble_eq_true rfl) i_1 t_1 t_1_ok n_1 (j := 7) tw_144 (fun _ h => h) rfl rfl rfl d_H_least_55 (fun H locs S hl_w15 => ?_)
          cases h
          cases K
          exact hy_vret hA B S d_H_least_58
        · rw [if_neg c7] at h
          obtain ⟨w16, hw16, h⟩ := hy_bd h
          cases h
          cases K
          exact hy_throw (text := "a least number is 1 to 20") (names := ["java/lang/RuntimeException", "java/lang/Exception"]) hA B S hw16 (by decide +kernel) (by decide +kernel) tw_396 tw_14 (by decide +kernel) at_H_IA hl.1 d_H_least_22 d_H_least_25 d_H_least_26 d_H_least_28 d_H_least_31 (Nat.le_of_ble_eq_true rfl) (Nat.le_of_ble_eq_true rfl)
theorem nk_H_least {p : Program} {l : Launch} {e : Env} {s : State} {m : MethodId} {args : Array Value} {below : List Frame} {meth : Method} {c : Code} {G : hy_G} {A : Nat → Prop} {ad0 : Nat → Nat} {w0 : hy_W} {o : hy_O} (hl9 : l.flags = flags0) (hA : hy_A G ad0 w0 s.heap.size = A) (B : hy_B p l e (hy_rm 6 82 w0) s m args below meth c "HyphenPatterns" b_H_least 3 none [] G A) (q : hy_P) (nx : hy_N) (hq : nx_H_least q = some nx) (K : hy_Nx lay_H_least p l e (hy_rm 6 82 w0) s m args below meth c 3 G A ad0 w0.1.length (hy_Q below G ad0 w0 o args s) o nx) : hy_At lay_H_least p l e (hy_rm 6 82 w0) s m args below meth c 3 G A ad0 w0.1.length (hy_Q below G ad0 w0 o args s) q := by
  unfold nx_H_least at hq
  split at hq
  · exact sk_H_least_0 hl9 hA B _ _ _ _ nx hq K
  · cases hq
theorem c_H_least {l : Launch} (hl9 : l.flags = flags0) (G : hy_G) (ad : Nat → Nat) {v0 : Nat} {v1 : Int32} {v2 : Int32} {w : hy_W} {o : hy_O} (h : f_H_least [.ref v0, .int v1, .int v2] w = some o) : hy_M l y_H_least (Cond.code y_H_least b_H_least 3 none :: hy_T) 6 82 G ad [.ref v0, .int v1, .int v2] w o := by
  obtain ⟨n, hn⟩ := hy_fx_iff.mp h
  refine hy_ofW hl9 (by decide +kernel) (Nat.le_of_ble_eq_true rfl) (fun p e s m args below meth c A hA hi B S hok ls hl => ?_)
  exact hy_loop (nk_H_least hl9 hA B) n _ hn ad s.heap [] 0 0 ls S hok hl
theorem d_X_least_0 : decode b_X_least 0 = .ok (.aload_n 0, 1) := by decide +kernel
theorem d_X_least_1 : decode b_X_least 1 = .ok (.iload_n 1, 1) := by decide +kernel
theorem d_X_least_2 : decode b_X_least 2 = .ok (.iload_n 2, 1) := by decide +kernel
theorem d_X_least_3 : decode b_X_least 3 = .ok (.invokevirtual 23, 3) := by decide +kernel
theorem d_X_least_6 : decode b_X_least 6 = .ok (.goto 6, 3) := by decide +kernel
theorem d_X_least_9 : decode b_X_least 9 = .ok (.astore_n 3, 1) := by decide +kernel
theorem d_X_least_10 : decode b_X_least 10 = .ok (.iconst 1, 1) := by decide +kernel
theorem d_X_least_11 : decode b_X_least 11 = .ok (.ireturn, 1) := by decide +kernel
theorem d_X_least_12 : decode b_X_least 12 = .ok (.iconst 0, 1) := by decide +kernel
theorem d_X_least_13 : decode b_X_least 13 = .ok (.ireturn, 1) := by decide +kernel
def lay_X_least (pc : Nat) : List Nat := if pc = 0 then [0, 1, 2] else []
noncomputable def sg_X_least_0 (v0 : Nat) (v1 : Int32) (v2 : Int32) (w : hy_W) : Option hy_N := if hy_ob w v0 5 = true then hy_xv (f_H_least [.ref v0, .int v1, .int v2] w) (fun w1 => some (.inr (.inl (some (.int 0)), w1))) (fun E5 w6 => if E5 = "java/lang/IllegalArgumentException" then (some (.inr (.inl (some (.int 1)), w6))) else none) else none
noncomputable def nx_X_least (q : hy_P) : Option hy_N := match q with
  | (0, [.ref v0, .int v1, .int v2], w) => sg_X_least_0 v0 v1 v2 w
  | _ => none
noncomputable def f_X_least (av : List Value) (w : hy_W) : Option hy_O := hy_fx nx_X_least (0, av, w)
set_option maxHeartbeats 4000000 in
set_option maxRecDepth 100000 in
theorem sk_X_least_0 {p : Program} {l : Launch} {e : Env} {s : State} {m : MethodId} {args : Array Value} {below : List Frame} {meth : Method} {c : Code} {G : hy_G} {A : Nat → Prop} {ad0 : Nat → Nat} {w0 : hy_W} {o : hy_O} (hl9 : l.flags = flags0) (hA : hy_A G ad0 w0 s.heap.size = A) (B : hy_B p l e (hy_rm 7 104 w0) s m args below meth c "HyphenPatternsLaw" b_X_least 4 (some .int) [(0, 6, 9, 19)] G A) (v0 : Nat) (v1 : Int32) (v2 : Int32) (w : hy_W) (nx : hy_N) (h : sg_X_least_0 v0 v1 v2 w = some nx) (K : hy_Nx lay_X_least p l e (hy_rm 7 104 w0) s m args below meth c 4 G A ad0 w0.1.length (hy_Q below G ad0 w0 o args s) o nx) : hy_At lay_X_least p l e (hy_rm 7 104 w0) s m args below meth c 4 G A ad0 w0.1.length (hy_Q below G ad0 w0 o args s) (0, [.ref v0, .int v1, .int v2], w) := by
  intro ad H locs cells slots ls S hok hl
  have hx := B.1
  have hb := B.2.1
  dsimp only at S hok
  have hl : lv_has ls 4 [(0, .ref (ad v0)), (1, .int v1), (2, .int v2)] := hl
  show W p l e (hy_rm 7 104 w0) s m args below meth c H locs cells slots (hy_Q below G ad0 w0 o args s) (F0 m 0 ls [])
  have hv_v0 : v0 < w.1.length := hok (.ref v0) (List.mem_of_getElem? (i := 0) rfl) v0 rfl
  obtain ⟨a_v0, ha_v0⟩ : ∃ a, ad v0 = a := ⟨_, rfl⟩
  rw [ha_v0] at hl
  unfold sg_X_least_0 at h
  refine lv_aload_n hx hb d_X_least_0 rfl (lv_at hl 0 rfl) ?_
  refine lv_iload_n hx hb d_X_least_1 rfl (lv_at hl 1 rfl) ?_
  refine lv_iload_n hx hb d_X_least_2 rfl (lv_at hl 2 rfl) ?_
  obtain ⟨ob4, h⟩ := hy_if h
  obtain ⟨fs_ob4, hf_ob4, hg_ob4⟩ := hy_ob_spec ob4
  rcases hy_xv_spec h with ⟨w1, hq_w1, h⟩ | ⟨E5, w6, hq_w6, h⟩
  · refine hy_callv (hy_runV (rest := []) (As := [.int v1, .int v2]) (r := v0) (b := a_v0) B S rfl ha_v0 (by rfl) (c_H_least hl9 G ad hq_w1) (hy_okr (by omega) (hy_oki (hy_oki hy_ok0))) tw_439 tw_1 tw_436 tw_437 sl_H_least (by decide) rfl (Nat.le_of_ble_eq_true rfl) (Nat.le_of_ble_eq_true rfl) hf_ob4 hg_ob4 rfl hl.1 (Nat.le_of_ble_eq_true rfl) d_X_least_3) (fun ad2 H locs cells slots hag hl_w1 S => ?_)
    have ha_v0 : ad2 v0 = a_v0 := (hag v0 (by omega)).trans ha_v0
    refine lv_goto (tgt := 12) hx hb d_X_least_6 (by decide) ?_
    refine lv_iconst (v := 0) hx hb d_X_least_12 (by decide) ?_
    cases h
    cases K
    exact hy_iret hA B S d_X_least_13
  · by_cases c10 : E5 = "java/lang/IllegalArgumentException"
    · rw [if_pos c10] at h
      subst c10
      refine hy_callT (rest := []) (As := [.int v1, .int v2]) (r := v0) (b := a_v0) B S rfl ha_v0 (by rfl) (c_H_least hl9 G ad hq_w6) (hy_okr (by omega) (hy_oki (hy_oki hy_ok0))) tw_439 tw_1 tw_436 tw_437 sl_H_least (by decide) rfl (Nat.le_of_ble_eq_true rfl) (Nat.le_of_ble_eq_true rfl) hf_ob4 hg_ob4 rfl hl.1 (Nat.le_of_ble_eq_true rfl) d_X_least_3 (fun ad7 H locs cells slots q8 ce9 hag hl_w6 S z1 z2 z3 => ?_)
      have ha_v0 : ad7 v0 = a_v0 := (hag v0 (by omega)).trans ha_v0
      refine hy_catch1 B (Nat.le_of_ble_eq_true rfl) (Nat.le_of_ble_eq_true rfl) (by decide) tw_386 (by decide +kernel) z1 z2 z3 ?_
      refine lv_astore_n (lv' := [(3, .ref q8), (0, .ref a_v0), (1, .int v1), (2, .int v2)]) hx hb d_X_least_9 rfl hl (Nat.le_of_ble_eq_true rfl) rfl (fun ls hl => ?_)
      refine lv_iconst (v := 1) hx hb d_X_least_10 (by decide) ?_
      cases h
      cases K
      exact hy_iret hA B S d_X_least_11
    rw [if_neg c10] at h
    cases h
theorem nk_X_least {p : Program} {l : Launch} {e : Env} {s : State} {m : MethodId} {args : Array Value} {below : List Frame} {meth : Method} {c : Code} {G : hy_G} {A : Nat → Prop} {ad0 : Nat → Nat} {w0 : hy_W} {o : hy_O} (hl9 : l.flags = flags0) (hA : hy_A G ad0 w0 s.heap.size = A) (B : hy_B p l e (hy_rm 7 104 w0) s m args below meth c "HyphenPatternsLaw" b_X_least 4 (some .int) [(0, 6, 9, 19)] G A) (q : hy_P) (nx : hy_N) (hq : nx_X_least q = some nx) (K : hy_Nx lay_X_least p l e (hy_rm 7 104 w0) s m args below meth c 4 G A ad0 w0.1.length (hy_Q below G ad0 w0 o args s) o nx) : hy_At lay_X_least p l e (hy_rm 7 104 w0) s m args below meth c 4 G A ad0 w0.1.length (hy_Q below G ad0 w0 o args s) q := by
  unfold nx_X_least at hq
  split at hq
  · exact sk_X_least_0 hl9 hA B _ _ _ _ nx hq K
  · cases hq
theorem c_X_least {l : Launch} (hl9 : l.flags = flags0) (G : hy_G) (ad : Nat → Nat) {v0 : Nat} {v1 : Int32} {v2 : Int32} {w : hy_W} {o : hy_O} (h : f_X_least [.ref v0, .int v1, .int v2] w = some o) : hy_M l y_X_least (Cond.codeWith y_X_least b_X_least 4 (some .int) [(0, 6, 9, 19)] :: hy_T) 7 104 G ad [.ref v0, .int v1, .int v2] w o := by
  obtain ⟨n, hn⟩ := hy_fx_iff.mp h
  refine hy_ofWW hl9 (by decide +kernel) (Nat.le_of_ble_eq_true rfl) (fun p e s m args below meth c A hA B S hok ls hl => ?_)
  exact hy_loop (nk_X_least hl9 hA B) n _ hn ad s.heap [] 0 0 ls S hok hl
theorem d_N_offer_0 : decode b_N_offer 0 = .ok (.aload_n 0, 1) := by decide +kernel
theorem d_N_offer_1 : decode b_N_offer 1 = .ok (.getfield 9, 3) := by decide +kernel
theorem d_N_offer_4 : decode b_N_offer 4 = .ok (.iconst 0, 1) := by decide +kernel
theorem d_N_offer_5 : decode b_N_offer 5 = .ok (.iload_n 1, 1) := by decide +kernel
theorem d_N_offer_6 : decode b_N_offer 6 = .ok (.iastore, 1) := by decide +kernel
theorem d_N_offer_7 : decode b_N_offer 7 = .ok (.aload_n 0, 1) := by decide +kernel
theorem d_N_offer_8 : decode b_N_offer 8 = .ok (.getfield 9, 3) := by decide +kernel
theorem d_N_offer_11 : decode b_N_offer 11 = .ok (.iconst 1, 1) := by decide +kernel
theorem d_N_offer_12 : decode b_N_offer 12 = .ok (.iload_n 2, 1) := by decide +kernel
theorem d_N_offer_13 : decode b_N_offer 13 = .ok (.iastore, 1) := by decide +kernel
theorem d_N_offer_14 : decode b_N_offer 14 = .ok (.aload_n 0, 1) := by decide +kernel
theorem d_N_offer_15 : decode b_N_offer 15 = .ok (.getfield 9, 3) := by decide +kernel
theorem d_N_offer_18 : decode b_N_offer 18 = .ok (.iconst 2, 1) := by decide +kernel
theorem d_N_offer_19 : decode b_N_offer 19 = .ok (.iload_n 3, 1) := by decide +kernel
theorem d_N_offer_20 : decode b_N_offer 20 = .ok (.iastore, 1) := by decide +kernel
theorem d_N_offer_21 : decode b_N_offer 21 = .ok (.aload_n 0, 1) := by decide +kernel
theorem d_N_offer_22 : decode b_N_offer 22 = .ok (.getfield 9, 3) := by decide +kernel
theorem d_N_offer_25 : decode b_N_offer 25 = .ok (.iconst 3, 1) := by decide +kernel
theorem d_N_offer_26 : decode b_N_offer 26 = .ok (.iload 4, 2) := by decide +kernel
theorem d_N_offer_28 : decode b_N_offer 28 = .ok (.iastore, 1) := by decide +kernel
theorem d_N_offer_29 : decode b_N_offer 29 = .ok (.aload_n 0, 1) := by decide +kernel
theorem d_N_offer_30 : decode b_N_offer 30 = .ok (.getfield 9, 3) := by decide +kernel
theorem d_N_offer_33 : decode b_N_offer 33 = .ok (.iconst 4, 1) := by decide +kernel
theorem d_N_offer_34 : decode b_N_offer 34 = .ok (.iload 5, 2) := by decide +kernel
theorem d_N_offer_36 : decode b_N_offer 36 = .ok (.iastore, 1) := by decide +kernel
theorem d_N_offer_37 : decode b_N_offer 37 = .ok (.iconst 0, 1) := by decide +kernel
theorem d_N_offer_38 : decode b_N_offer 38 = .ok (.istore 6, 2) := by decide +kernel
theorem d_N_offer_40 : decode b_N_offer 40 = .ok (.iload 6, 2) := by decide +kernel
theorem d_N_offer_42 : decode b_N_offer 42 = .ok (.iconst 5, 1) := by decide +kernel
theorem d_N_offer_43 : decode b_N_offer 43 = .ok (.if_icmp .ge 21, 3) := by decide +kernel
theorem d_N_offer_46 : decode b_N_offer 46 = .ok (.aload_n 0, 1) := by decide +kernel
theorem d_N_offer_47 : decode b_N_offer 47 = .ok (.getfield 9, 3) := by decide +kernel
theorem d_N_offer_50 : decode b_N_offer 50 = .ok (.iload 6, 2) := by decide +kernel
theorem d_N_offer_52 : decode b_N_offer 52 = .ok (.iaload, 1) := by decide +kernel
theorem d_N_offer_53 : decode b_N_offer 53 = .ok (.bipush (-11), 2) := by decide +kernel
theorem d_N_offer_55 : decode b_N_offer 55 = .ok (.if_icmp .eq 9, 3) := by decide +kernel
theorem d_N_offer_58 : decode b_N_offer 58 = .ok (.iinc 6 1, 3) := by decide +kernel
theorem d_N_offer_61 : decode b_N_offer 61 = .ok (.goto (-21), 3) := by decide +kernel
theorem d_N_offer_64 : decode b_N_offer 64 = .ok (.iload 6, 2) := by decide +kernel
theorem d_N_offer_66 : decode b_N_offer 66 = .ok (.ireturn, 1) := by decide +kernel
def lay_N_offer (pc : Nat) : List Nat := if pc = 0 then [0, 1, 2, 3, 4, 5] else if pc = 40 then [0, 6] else []
noncomputable def sg_N_offer_0 (v0 : Nat) (v1 : Int32) (v2 : Int32) (v3 : Int32) (v4 : Int32) (v5 : Int32) (w : hy_W) : Option hy_N := (hy_gr w v0 2 2).bind fun r1 => (hy_pa w 0 r1 0 (.int v1)).bind fun w2 => (hy_gr w2 v0 2 2).bind fun r3 => (hy_pa w2 0 r3 1 (.int v2)).bind fun w4 => (hy_gr w4 v0 2 2).bind fun r5 => (hy_pa w4 0 r5 2 (.int v3)).bind fun w6 => (hy_gr w6 v0 2 2).bind fun r7 => (hy_pa w6 0 r7 3 (.int v4)).bind fun w8 => (hy_gr w8 v0 2 2).bind fun r9 => (hy_pa w8 0 r9 4 (.int v5)).bind fun w10 => some (.inl (40, [.ref v0, .int 0], w10))
noncomputable def sg_N_offer_40 (v0 : Nat) (v6 : Int32) (w : hy_W) : Option hy_N := if (5 : Int32) ≤ v6 then (some (.inr (.inl (some (.int v6)), w))) else ((hy_gr w v0 2 2).bind fun r2 => (hy_ai w r2 v6).bind fun x3 => if x3 = (-11) then (some (.inr (.inl (some (.int v6)), w))) else (some (.inl (40, [.ref v0, .int (v6 + 1)], w))))
noncomputable def nx_N_offer (q : hy_P) : Option hy_N := match q with
  | (0, [.ref v0, .int v1, .int v2, .int v3, .int v4, .int v5], w) => sg_N_offer_0 v0 v1 v2 v3 v4 v5 w
  | (40, [.ref v0, .int v6], w) => sg_N_offer_40 v0 v6 w
  | _ => none
noncomputable def f_N_offer (av : List Value) (w : hy_W) : Option hy_O := hy_fx nx_N_offer (0, av, w)
set_option maxHeartbeats 4000000 in
set_option maxRecDepth 100000 in
theorem sk_N_offer_0 {p : Program} {l : Launch} {e : Env} {s : State} {m : MethodId} {args : Array Value} {below : List Frame} {meth : Method} {c : Code} {G : hy_G} {A : Nat → Prop} {ad0 : Nat → Nat} {w0 : hy_W} {o : hy_O} (hl9 : l.flags = flags0) (hA : hy_A G ad0 w0 s.heap.size = A) (B : hy_B p l e (hy_rm 0 0 w0) s m args below meth c "HyphenPatterns$Numbers" b_N_offer 7 (some .int) [] G A) (v0 : Nat) (v1 : Int32) (v2 : Int32) (v3 : Int32) (v4 : Int32) (v5 : Int32) (w : hy_W) (nx : hy_N) (h : sg_N_offer_0 v0 v1 v2 v3 v4 v5 w = some nx) (K : hy_Nx lay_N_offer p l e (hy_rm 0 0 w0) s m args below meth c 7 G A ad0 w0.1.length (hy_Q below G ad0 w0 o args s) o nx) : hy_At lay_N_offer p l e (hy_rm 0 0 w0) s m args below meth c 7 G A ad0 w0.1.length (hy_Q below G ad0 w0 o args s) (0, [.ref v0, .int v1, .int v2, .int v3, .int v4, .int v5], w) := by
  intro ad H locs cells slots ls S hok hl
  have hx := B.1
  have hb := B.2.1
  dsimp only at S hok
  have hl : lv_has ls 7 [(0, .ref (ad v0)), (1, .int v1), (2, .int v2), (3, .int v3), (4, .int v4), (5, .int v5)] := hl
  show W p l e (hy_rm 0 0 w0) s m args below meth c H locs cells slots (hy_Q below G ad0 w0 o args s) (F0 m 0 ls [])
  have hv_v0 : v0 < w.1.length := hok (.ref v0) (List.mem_of_getElem? (i := 0) rfl) v0 rfl
  obtain ⟨a_v0, ha_v0⟩ : ∃ a, ad v0 = a := ⟨_, rfl⟩
  rw [ha_v0] at hl
  unfold sg_N_offer_0 at h
  refine lv_aload_n hx hb d_N_offer_0 rfl (lv_at hl 0 rfl) ?_
  obtain ⟨r1, hr1, h⟩ := hy_bd h
  refine hy_getr B S ha_v0 hr1 rfl (Nat.le_of_ble_eq_true rfl) i_2 (j := 2) tw_43 (fun _ h => h) d_N_offer_1 (fun a_r1 ha_r1 hv_r1 => ?_)
  refine lv_iconst (v := 0) hx hb d_N_offer_4 (by decide) ?_
  refine lv_iload_n hx hb d_N_offer_5 rfl (lv_at hl 1 rfl) ?_
  obtain ⟨w2, hw2, h⟩ := hy_bd h
  refine hy_iast B S ha_r1 hw2 d_N_offer_6 (fun H locs S hl_w2 => ?_)
  refine lv_aload_n hx hb d_N_offer_7 rfl (lv_at hl 0 rfl) ?_
  obtain ⟨r3, hr3, h⟩ := hy_bd h
  refine hy_getr B S ha_v0 hr3 rfl (Nat.le_of_ble_eq_true rfl) i_2 (j := 2) tw_43 (fun _ h => h) d_N_offer_8 (fun a_r3 ha_r3 hv_r3 => ?_)
  refine lv_iconst (v := 1) hx hb d_N_offer_11 (by decide) ?_
  refine lv_iload_n hx hb d_N_offer_12 rfl (lv_at hl 2 rfl) ?_
  obtain ⟨w4, hw4, h⟩ := hy_bd h
  refine hy_iast B S ha_r3 hw4 d_N_offer_13 (fun H locs S hl_w4 => ?_)
  refine lv_aload_n hx hb d_N_offer_14 rfl (lv_at hl 0 rfl) ?_
  obtain ⟨r5, hr5, h⟩ := hy_bd h
  refine hy_getr B S ha_v0 hr5 rfl (Nat.le_of_ble_eq_true rfl) i_2 (j := 2) tw_43 (fun _ h => h) d_N_offer_15 (fun a_r5 ha_r5 hv_r5 => ?_)
  refine lv_iconst (v := 2) hx hb d_N_offer_18 (by decide) ?_
  refine lv_iload_n hx hb d_N_offer_19 rfl (lv_at hl 3 rfl) ?_
  obtain ⟨w6, hw6, h⟩ := hy_bd h
  refine hy_iast B S ha_r5 hw6 d_N_offer_20 (fun H locs S hl_w6 => ?_)
  refine lv_aload_n hx hb d_N_offer_21 rfl (lv_at hl 0 rfl) ?_
  obtain ⟨r7, hr7, h⟩ := hy_bd h
  refine hy_getr B S ha_v0 hr7 rfl (Nat.le_of_ble_eq_true rfl) i_2 (j := 2) tw_43 (fun _ h => h) d_N_offer_22 (fun a_r7 ha_r7 hv_r7 => ?_)
  refine lv_iconst (v := 3) hx hb d_N_offer_25 (by decide) ?_
  refine lv_iload hx hb d_N_offer_26 (lv_at hl 4 rfl) ?_
  obtain ⟨w8, hw8, h⟩ := hy_bd h
  refine hy_iast B S ha_r7 hw8 d_N_offer_28 (fun H locs S hl_w8 => ?_)
  refine lv_aload_n hx hb d_N_offer_29 rfl (lv_at hl 0 rfl) ?_
  obtain ⟨r9, hr9, h⟩ := hy_bd h
  refine hy_getr B S ha_v0 hr9 rfl (Nat.le_of_ble_eq_true rfl) i_2 (j := 2) tw_43 (fun _ h => h) d_N_offer_30 (fun a_r9 ha_r9 hv_r9 => ?_)
  refine lv_iconst (v := 4) hx hb d_N_offer_33 (by decide) ?_
  refine lv_iload hx hb d_N_offer_34 (lv_at hl 5 rfl) ?_
  obtain ⟨w10, hw10, h⟩ := hy_bd h
  refine hy_iast B S ha_r9 hw10 d_N_offer_36 (fun H locs S hl_w10 => ?_)
  refine lv_iconst (v := 0) hx hb d_N_offer_37 (by decide) ?_
  refine lv_istore (lv' := [(6, .int 0), (0, .ref a_v0), (1, .int v1), (2, .int v2), (3, .int v3), (4, .int v4), (5, .int v5)]) hx hb d_N_offer_38 hl (Nat.le_of_ble_eq_true rfl) rfl (fun ls hl => ?_)
  cases h
  exact hy_jump K S (hy_okr (by omega) (hy_oki hy_ok0)) (lv_sub hl [1, 0] rfl) (by subst ha_v0; rfl) (by subst ha_v0; rfl)
set_option maxHeartbeats 4000000 in
set_option maxRecDepth 100000 in
theorem sk_N_offer_40 {p : Program} {l : Launch} {e : Env} {s : State} {m : MethodId} {args : Array Value} {below : List Frame} {meth : Method} {c : Code} {G : hy_G} {A : Nat → Prop} {ad0 : Nat → Nat} {w0 : hy_W} {o : hy_O} (hl9 : l.flags = flags0) (hA : hy_A G ad0 w0 s.heap.size = A) (B : hy_B p l e (hy_rm 0 0 w0) s m args below meth c "HyphenPatterns$Numbers" b_N_offer 7 (some .int) [] G A) (v0 : Nat) (v6 : Int32) (w : hy_W) (nx : hy_N) (h : sg_N_offer_40 v0 v6 w = some nx) (K : hy_Nx lay_N_offer p l e (hy_rm 0 0 w0) s m args below meth c 7 G A ad0 w0.1.length (hy_Q below G ad0 w0 o args s) o nx) : hy_At lay_N_offer p l e (hy_rm 0 0 w0) s m args below meth c 7 G A ad0 w0.1.length (hy_Q below G ad0 w0 o args s) (40, [.ref v0, .int v6], w) := by
  intro ad H locs cells slots ls S hok hl
  have hx := B.1
  have hb := B.2.1
  dsimp only at S hok
  have hl : lv_has ls 7 [(0, .ref (ad v0)), (6, .int v6)] := hl
  show W p l e (hy_rm 0 0 w0) s m args below meth c H locs cells slots (hy_Q below G ad0 w0 o args s) (F0 m 40 ls [])
  have hv_v0 : v0 < w.1.length := hok (.ref v0) (List.mem_of_getElem? (i := 0) rfl) v0 rfl
  obtain ⟨a_v0, ha_v0⟩ : ∃ a, ad v0 = a := ⟨_, rfl⟩
  rw [ha_v0] at hl
  unfold sg_N_offer_40 at h
  refine lv_iload hx hb d_N_offer_40 (lv_at hl 1 rfl) ?_
  refine lv_iconst (v := 5) hx hb d_N_offer_42 (by decide) ?_
  refine lv_icmp_ge (tgt := 64) hx hb d_N_offer_43 (by decide) (fun c1 => ?_) (fun c1 => ?_)
  · rw [if_pos c1] at h
    refine lv_iload hx hb d_N_offer_64 (lv_at hl 1 rfl) ?_
    cases h
    cases K
    exact hy_iret hA B S d_N_offer_66
  · rw [if_neg c1] at h
    refine lv_aload_n hx hb d_N_offer_46 rfl (lv_at hl 0 rfl) ?_
    obtain ⟨r2, hr2, h⟩ := hy_bd h
    refine hy_getr B S ha_v0 hr2 rfl (Nat.le_of_ble_eq_true rfl) i_2 (j := 2) tw_43 (fun _ h => h) d_N_offer_47 (fun a_r2 ha_r2 hv_r2 => ?_)
    refine lv_iload hx hb d_N_offer_50 (lv_at hl 1 rfl) ?_
    obtain ⟨x3, hx3, h⟩ := hy_bd h
    refine hy_iald B S ha_r2 hx3 d_N_offer_52 ?_
    refine lv_bipush (v := (-11)) hx hb d_N_offer_53 (by decide) ?_
    refine lv_icmp_eq (tgt := 64) hx hb d_N_offer_55 (by decide) (fun c4 => ?_) (fun c4 => ?_)
    · rw [if_pos c4] at h
      refine lv_iload hx hb d_N_offer_64 (lv_at hl 1 rfl) ?_
      cases h
      cases K
      exact hy_iret hA B S d_N_offer_66
    · rw [if_neg c4] at h
      refine lv_iinc (v := (v6 + 1)) (lv' := [(6, .int (v6 + 1)), (0, .ref a_v0)]) hx hb d_N_offer_58 hl (k := 1) rfl rfl (Nat.le_of_ble_eq_true rfl) rfl (fun ls hl => ?_)
      refine lv_goto (tgt := 40) hx hb d_N_offer_61 (by decide) ?_
      cases h
      exact hy_jump K S (hy_okr (by omega) (hy_oki hy_ok0)) (lv_sub hl [1, 0] rfl) (by subst ha_v0; rfl) (by subst ha_v0; rfl)
theorem nk_N_offer {p : Program} {l : Launch} {e : Env} {s : State} {m : MethodId} {args : Array Value} {below : List Frame} {meth : Method} {c : Code} {G : hy_G} {A : Nat → Prop} {ad0 : Nat → Nat} {w0 : hy_W} {o : hy_O} (hl9 : l.flags = flags0) (hA : hy_A G ad0 w0 s.heap.size = A) (B : hy_B p l e (hy_rm 0 0 w0) s m args below meth c "HyphenPatterns$Numbers" b_N_offer 7 (some .int) [] G A) (q : hy_P) (nx : hy_N) (hq : nx_N_offer q = some nx) (K : hy_Nx lay_N_offer p l e (hy_rm 0 0 w0) s m args below meth c 7 G A ad0 w0.1.length (hy_Q below G ad0 w0 o args s) o nx) : hy_At lay_N_offer p l e (hy_rm 0 0 w0) s m args below meth c 7 G A ad0 w0.1.length (hy_Q below G ad0 w0 o args s) q := by
  unfold nx_N_offer at hq
  split at hq
  · exact sk_N_offer_0 hl9 hA B _ _ _ _ _ _ _ nx hq K
  · exact sk_N_offer_40 hl9 hA B _ _ _ nx hq K
  · cases hq
theorem c_N_offer {l : Launch} (hl9 : l.flags = flags0) (G : hy_G) (ad : Nat → Nat) {v0 : Nat} {v1 : Int32} {v2 : Int32} {v3 : Int32} {v4 : Int32} {v5 : Int32} {w : hy_W} {o : hy_O} (h : f_N_offer [.ref v0, .int v1, .int v2, .int v3, .int v4, .int v5] w = some o) : hy_M l y_N_offer (Cond.code y_N_offer b_N_offer 7 (some .int) :: hy_T) 0 0 G ad [.ref v0, .int v1, .int v2, .int v3, .int v4, .int v5] w o := by
  obtain ⟨n, hn⟩ := hy_fx_iff.mp h
  refine hy_ofW hl9 (by decide +kernel) (Nat.le_of_ble_eq_true rfl) (fun p e s m args below meth c A hA hi B S hok ls hl => ?_)
  exact hy_loop (nk_N_offer hl9 hA B) n _ hn ad s.heap [] 0 0 ls S hok hl
