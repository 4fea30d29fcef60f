/-! BODIES (printed by our translator): D_readException, H_exceptionsInAll, H_exception, X_exception, H_add, X_add, H_isWithinWord, H_wordStart, H_value, X_value, H_breaks -/
theorem d_D_readException_0 : decode b_D_readException 0 = .ok (.aload_n 0, 1) := by decide +kernel
theorem d_D_readException_1 : decode b_D_readException 1 = .ok (.invokevirtual 22, 3) := by decide +kernel
theorem d_D_readException_4 : decode b_D_readException 4 = .ok (.iconst 0, 1) := by decide +kernel
theorem d_D_readException_5 : decode b_D_readException 5 = .ok (.istore_n 2, 1) := by decide +kernel
theorem d_D_readException_6 : decode b_D_readException 6 = .ok (.iload_n 2, 1) := by decide +kernel
theorem d_D_readException_7 : decode b_D_readException 7 = .ok (.aload_n 1, 1) := by decide +kernel
theorem d_D_readException_8 : decode b_D_readException 8 = .ok (.getfield 25, 3) := by decide +kernel
theorem d_D_readException_11 : decode b_D_readException 11 = .ok (.if_icmp .ge 56, 3) := by decide +kernel
theorem d_D_readException_14 : decode b_D_readException 14 = .ok (.aload_n 1, 1) := by decide +kernel
theorem d_D_readException_15 : decode b_D_readException 15 = .ok (.getfield 28, 3) := by decide +kernel
theorem d_D_readException_18 : decode b_D_readException 18 = .ok (.iload_n 2, 1) := by decide +kernel
theorem d_D_readException_19 : decode b_D_readException 19 = .ok (.iaload, 1) := by decide +kernel
theorem d_D_readException_20 : decode b_D_readException 20 = .ok (.istore_n 3, 1) := by decide +kernel
theorem d_D_readException_21 : decode b_D_readException 21 = .ok (.iload_n 3, 1) := by decide +kernel
theorem d_D_readException_22 : decode b_D_readException 22 = .ok (.ifCond .le 11, 3) := by decide +kernel
theorem d_D_readException_25 : decode b_D_readException 25 = .ok (.aload_n 0, 1) := by decide +kernel
theorem d_D_readException_26 : decode b_D_readException 26 = .ok (.iload_n 3, 1) := by decide +kernel
theorem d_D_readException_27 : decode b_D_readException 27 = .ok (.invokevirtual 31, 3) := by decide +kernel
theorem d_D_readException_30 : decode b_D_readException 30 = .ok (.goto 22, 3) := by decide +kernel
theorem d_D_readException_33 : decode b_D_readException 33 = .ok (.iload_n 3, 1) := by decide +kernel
theorem d_D_readException_34 : decode b_D_readException 34 = .ok (.bipush (-10), 2) := by decide +kernel
theorem d_D_readException_36 : decode b_D_readException 36 = .ok (.if_icmp .ne 15, 3) := by decide +kernel
theorem d_D_readException_39 : decode b_D_readException 39 = .ok (.aload_n 0, 1) := by decide +kernel
theorem d_D_readException_40 : decode b_D_readException 40 = .ok (.iconst 1, 1) := by decide +kernel
theorem d_D_readException_41 : decode b_D_readException 41 = .ok (.invokevirtual 35, 3) := by decide +kernel
theorem d_D_readException_44 : decode b_D_readException 44 = .ok (.ifCond .eq 7, 3) := by decide +kernel
theorem d_D_readException_47 : decode b_D_readException 47 = .ok (.iconst 1, 1) := by decide +kernel
theorem d_D_readException_48 : decode b_D_readException 48 = .ok (.goto 4, 3) := by decide +kernel
theorem d_D_readException_51 : decode b_D_readException 51 = .ok (.iconst 0, 1) := by decide +kernel
theorem d_D_readException_52 : decode b_D_readException 52 = .ok (.istore 4, 2) := by decide +kernel
theorem d_D_readException_54 : decode b_D_readException 54 = .ok (.iload 4, 2) := by decide +kernel
theorem d_D_readException_56 : decode b_D_readException 56 = .ok (.ifCond .ne 5, 3) := by decide +kernel
theorem d_D_readException_59 : decode b_D_readException 59 = .ok (.iconst 0, 1) := by decide +kernel
theorem d_D_readException_60 : decode b_D_readException 60 = .ok (.ireturn, 1) := by decide +kernel
theorem d_D_readException_61 : decode b_D_readException 61 = .ok (.iinc 2 1, 3) := by decide +kernel
theorem d_D_readException_64 : decode b_D_readException 64 = .ok (.goto (-58), 3) := by decide +kernel
theorem d_D_readException_67 : decode b_D_readException 67 = .ok (.aload_n 0, 1) := by decide +kernel
theorem d_D_readException_68 : decode b_D_readException 68 = .ok (.getfield 18, 3) := by decide +kernel
theorem d_D_readException_71 : decode b_D_readException 71 = .ok (.bipush 40, 2) := by decide +kernel
theorem d_D_readException_73 : decode b_D_readException 73 = .ok (.if_icmp .gt 14, 3) := by decide +kernel
theorem d_D_readException_76 : decode b_D_readException 76 = .ok (.aload_n 0, 1) := by decide +kernel
theorem d_D_readException_77 : decode b_D_readException 77 = .ok (.invokevirtual 38, 3) := by decide +kernel
theorem d_D_readException_80 : decode b_D_readException 80 = .ok (.ifCond .eq 7, 3) := by decide +kernel
theorem d_D_readException_83 : decode b_D_readException 83 = .ok (.iconst 1, 1) := by decide +kernel
theorem d_D_readException_84 : decode b_D_readException 84 = .ok (.goto 4, 3) := by decide +kernel
theorem d_D_readException_87 : decode b_D_readException 87 = .ok (.iconst 0, 1) := by decide +kernel
theorem d_D_readException_88 : decode b_D_readException 88 = .ok (.ireturn, 1) := by decide +kernel
def lay_D_readException (pc : Nat) : List Nat := if pc = 0 then [0, 1] else if pc = 6 then [0, 1, 2] else if pc = 51 then [0, 1, 2] else if pc = 52 then [0, 1, 2] else if pc = 87 then [] else []
noncomputable def sg_D_readException_0 (v0 : Nat) (v1 : Nat) (w : hy_W) : Option hy_N := if hy_ob w v0 0 = true then hy_bv (f_D_start [.ref v0] w) fun w1 => some (.inl (6, [.ref v0, .ref v1, .int 0], w1)) else none
noncomputable def sg_D_readException_6 (v0 : Nat) (v1 : Nat) (v2 : Int32) (w : hy_W) : Option hy_N := (hy_gi w v1 2 3).bind fun x1 => if x1 ≤ v2 then ((hy_gi w v0 0 2).bind fun x3 => if (40 : Int32) < x3 then (some (.inl (87, [], w))) else (if hy_ob w v0 0 = true then hy_bi (f_D_hasLetter [.ref v0] w) fun x7 w5 => if x7 = 0 then (some (.inl (87, [], w5))) else (some (.inr (.inl (some (.int 1)), w5))) else none)) else ((hy_gr w v1 2 0).bind fun r10 => (hy_ai w r10 v2).bind fun x11 => if x11 ≤ 0 then (if x11 = (-10) then (if hy_ob w v0 0 = true then hy_bi (f_D_takeValue [.ref v0, .int 1] w) fun x16 w14 => if x16 = 0 then (some (.inl (51, [.ref v0, .ref v1, .int v2], w14))) else (some (.inl (52, [.ref v0, .ref v1, .int v2, .int 1], w14))) else none) else (some (.inl (51, [.ref v0, .ref v1, .int v2], w)))) else (if hy_ob w v0 0 = true then hy_bi (f_D_takeLetter [.ref v0, .int x11] w) fun x21 w19 => some (.inl (52, [.ref v0, .ref v1, .int v2, .int x21], w19)) else none))
noncomputable def sg_D_readException_51 (v0 : Nat) (v1 : Nat) (v2 : Int32) (w : hy_W) : Option hy_N := some (.inl (52, [.ref v0, .ref v1, .int v2, .int 0], w))
noncomputable def sg_D_readException_52 (v0 : Nat) (v1 : Nat) (v2 : Int32) (s0 : Int32) (w : hy_W) : Option hy_N := if s0 = 0 then (some (.inr (.inl (some (.int 0)), w))) else (some (.inl (6, [.ref v0, .ref v1, .int (v2 + 1)], w)))
noncomputable def sg_D_readException_87  (w : hy_W) : Option hy_N := some (.inr (.inl (some (.int 0)), w))
noncomputable def nx_D_readException (q : hy_P) : Option hy_N := match q with
  | (0, [.ref v0, .ref v1], w) => sg_D_readException_0 v0 v1 w
  | (6, [.ref v0, .ref v1, .int v2], w) => sg_D_readException_6 v0 v1 v2 w
  | (51, [.ref v0, .ref v1, .int v2], w) => sg_D_readException_51 v0 v1 v2 w
  | (52, [.ref v0, .ref v1, .int v2, .int s0], w) => sg_D_readException_52 v0 v1 v2 s0 w
  | (87, [], w) => sg_D_readException_87  w
  | _ => none
noncomputable def f_D_readException (av : List Value) (w : hy_W) : Option hy_O := hy_fx nx_D_readException (0, av, w)
set_option maxHeartbeats 4000000 in
set_option maxRecDepth 100000 in
theorem sk_D_readException_0 {p : Program} {l : Launch} {e : Env} {s : State} {m : MethodId} {args : Array Value} {below : List Frame} {meth : Method} {c : Code} {G : hy_G} {A : Nat → Prop} {ad0 : Nat → Nat} {w0 : hy_W} {o : hy_O} (hl9 : l.flags = flags0) (hA : hy_A G ad0 w0 s.heap.size = A) (B : hy_B p l e (hy_rm 1 21 w0) s m args below meth c "HyphenPatterns$Draft" b_D_readException 5 (some .boolean) [] G A) (v0 : Nat) (v1 : Nat) (w : hy_W) (nx : hy_N) (h : sg_D_readException_0 v0 v1 w = some nx) (K : hy_Nx lay_D_readException p l e (hy_rm 1 21 w0) s m args below meth c 5 G A ad0 w0.1.length (hy_Q below G ad0 w0 o args s) o nx) : hy_At lay_D_readException p l e (hy_rm 1 21 w0) s m args below meth c 5 G A ad0 w0.1.length (hy_Q below G ad0 w0 o args s) (0, [.ref v0, .ref v1], w) := by
  intro ad H locs cells slots ls S hok hl
  have hx := B.1
  have hb := B.2.1
  dsimp only at S hok
  have hl : lv_has ls 5 [(0, .ref (ad v0)), (1, .ref (ad v1))] := hl
  show W p l e (hy_rm 1 21 w0) s m args below meth c H locs cells slots (hy_Q below G ad0 w0 o args s) (F0 m 0 ls [])
  have hv_v0 : v0 < w.1.length := hok (.ref v0) (List.mem_of_getElem? (i := 0) rfl) v0 rfl
  obtain ⟨a_v0, ha_v0⟩ : ∃ a, ad v0 = a := ⟨_, rfl⟩
  rw [ha_v0] at hl
  have hv_v1 : v1 < w.1.length := hok (.ref v1) (List.mem_of_getElem? (i := 1) rfl) v1 rfl
  obtain ⟨a_v1, ha_v1⟩ : ∃ a, ad v1 = a := ⟨_, rfl⟩
  rw [ha_v1] at hl
  unfold sg_D_readException_0 at h
  refine lv_aload_n hx hb d_D_readException_0 rfl (lv_at hl 0 rfl) ?_
  obtain ⟨ob4, h⟩ := hy_if h
  obtain ⟨fs_ob4, hf_ob4, hg_ob4⟩ := hy_ob_spec ob4
  obtain ⟨w1, hq_w1, h⟩ := hy_bv_spec h
  refine hy_callv (hy_runV (rest := []) (As := []) (r := v0) (b := a_v0) B S rfl ha_v0 (by rfl) (c_D_start hl9 G ad hq_w1) (hy_okr (by omega) hy_ok0) tw_480 tw_3 tw_477 tw_479 sl_D_start (by decide) rfl (Nat.le_of_ble_eq_true rfl) (Nat.le_of_ble_eq_true rfl) hf_ob4 hg_ob4 rfl hl.1 (Nat.le_of_ble_eq_true rfl) d_D_readException_1) (fun ad2 H locs cells slots hag hl_w1 S => ?_)
  have ha_v0 : ad2 v0 = a_v0 := (hag v0 (by omega)).trans ha_v0
  have ha_v1 : ad2 v1 = a_v1 := (hag v1 (by omega)).trans ha_v1
  refine lv_iconst (v := 0) hx hb d_D_readException_4 (by decide) ?_
  refine lv_istore_n (lv' := [(2, .int 0), (0, .ref a_v0), (1, .ref a_v1)]) hx hb d_D_readException_5 rfl hl (Nat.le_of_ble_eq_true rfl) rfl (fun ls hl => ?_)
  cases h
  exact hy_jump K S (hy_okr (by omega) (hy_okr (by omega) (hy_oki hy_ok0))) (lv_sub hl [1, 2, 0] rfl) (by subst ha_v0 ha_v1; rfl) (by subst ha_v0 ha_v1; rfl)
set_option maxHeartbeats 4000000 in
set_option maxRecDepth 100000 in
theorem sk_D_readException_6 {p : Program} {l : Launch} {e : Env} {s : State} {m : MethodId} {args : Array Value} {below : List Frame} {meth : Method} {c : Code} {G : hy_G} {A : Nat → Prop} {ad0 : Nat → Nat} {w0 : hy_W} {o : hy_O} (hl9 : l.flags = flags0) (hA : hy_A G ad0 w0 s.heap.size = A) (B : hy_B p l e (hy_rm 1 21 w0) s m args below meth c "HyphenPatterns$Draft" b_D_readException 5 (some .boolean) [] G A) (v0 : Nat) (v1 : Nat) (v2 : Int32) (w : hy_W) (nx : hy_N) (h : sg_D_readException_6 v0 v1 v2 w = some nx) (K : hy_Nx lay_D_readException p l e (hy_rm 1 21 w0) s m args below meth c 5 G A ad0 w0.1.length (hy_Q below G ad0 w0 o args s) o nx) : hy_At lay_D_readException p l e (hy_rm 1 21 w0) s m args below meth c 5 G A ad0 w0.1.length (hy_Q below G ad0 w0 o args s) (6, [.ref v0, .ref v1, .int v2], w) := by
  intro ad H locs cells slots ls S hok hl
  have hx := B.1
  have hb := B.2.1
  dsimp only at S hok
  have hl : lv_has ls 5 [(0, .ref (ad v0)), (1, .ref (ad v1)), (2, .int v2)] := hl
  show W p l e (hy_rm 1 21 w0) s m args below meth c H locs cells slots (hy_Q below G ad0 w0 o args s) (F0 m 6 ls [])
  have hv_v0 : v0 < w.1.length := hok (.ref v0) (List.mem_of_getElem? (i := 0) rfl) v0 rfl
  obtain ⟨a_v0, ha_v0⟩ : ∃ a, ad v0 = a := ⟨_, rfl⟩
  rw [ha_v0] at hl
  have hv_v1 : v1 < w.1.length := hok (.ref v1) (List.mem_of_getElem? (i := 1) rfl) v1 rfl
  obtain ⟨a_v1, ha_v1⟩ : ∃ a, ad v1 = a := ⟨_, rfl⟩
  rw [ha_v1] at hl
  unfold sg_D_readException_6 at h
  refine lv_iload_n hx hb d_D_readException_6 rfl (lv_at hl 2 rfl) ?_
  refine lv_aload_n hx hb d_D_readException_7 rfl (lv_at hl 1 rfl) ?_
  obtain ⟨x1, hx1, h⟩ := hy_bd h
  refine hy_geti B S ha_v1 hx1 rfl (Nat.le_of_ble_eq_true rfl) i_2 (j := 3) tw_45 (fun _ h => h) d_D_readException_8 ?_
  refine lv_icmp_ge (tgt := 67) hx hb d_D_readException_11 (by decide) (fun c2 => ?_) (fun c2 => ?_)
  · rw [if_pos c2] at h
    refine lv_aload_n hx hb d_D_readException_67 rfl (lv_at hl 0 rfl) ?_
    obtain ⟨x3, hx3, h⟩ := hy_bd h
    refine hy_geti B S ha_v0 hx3 rfl (Nat.le_of_ble_eq_true rfl) i_0 (j := 2) tw_66 (fun _ h => h) d_D_readException_68 ?_
    refine lv_bipush (v := 40) hx hb d_D_readException_71 (by decide) ?_
    refine lv_icmp_gt (tgt := 87) hx hb d_D_readException_73 (by decide) (fun c4 => ?_) (fun c4 => ?_)
    · rw [if_pos c4] at h
      cases h
      exact hy_jump K S hy_ok0 (lv_sub hl [] rfl) (by rfl) (by rfl)
    · rw [if_neg c4] at h
      refine lv_aload_n hx hb d_D_readException_76 rfl (lv_at hl 0 rfl) ?_
      obtain ⟨ob8, h⟩ := hy_if h
      obtain ⟨fs_ob8, hf_ob8, hg_ob8⟩ := hy_ob_spec ob8
      obtain ⟨x7, w5, hq_w5, h⟩ := hy_bi_spec h
      refine hy_calli (hy_runV (rest := []) (As := []) (r := v0) (b := a_v0) B S rfl ha_v0 (by rfl) (c_D_hasLetter hl9 G ad hq_w5) (hy_okr (by omega) hy_ok0) tw_492 tw_3 tw_489 tw_491 sl_D_hasLetter (by decide) rfl (Nat.le_of_ble_eq_true rfl) (Nat.le_of_ble_eq_true rfl) hf_ob8 hg_ob8 rfl hl.1 (Nat.le_of_ble_eq_true rfl) d_D_readException_77) (fun ad6 H locs cells slots hag hl_w5 S => ?_)
      have ha_v0 : ad6 v0 = a_v0 := (hag v0 (by omega)).trans ha_v0
      have ha_v1 : ad6 v1 = a_v1 := (hag v1 (by omega)).trans ha_v1
      refine lv_if_eq (tgt := 87) hx hb d_D_readException_80 (by decide) (fun c9 => ?_) (fun c9 => ?_)
      · rw [if_pos c9] at h
        cases h
        exact hy_jump K S hy_ok0 (lv_sub hl [] rfl) (by rfl) (by rfl)
      · rw [if_neg c9] at h
        refine lv_iconst (v := 1) hx hb d_D_readException_83 (by decide) ?_
        refine lv_goto (tgt := 88) hx hb d_D_readException_84 (by decide) ?_
        cases h
        cases K
        exact hy_zret hA B S (by decide) d_D_readException_88
  · rw [if_neg c2] at h
    refine lv_aload_n hx hb d_D_readException_14 rfl (lv_at hl 1 rfl) ?_
    obtain ⟨r10, hr10, h⟩ := hy_bd h
    refine hy_getr B S ha_v1 hr10 rfl (Nat.le_of_ble_eq_true rfl) i_2 (j := 0) tw_40 (fun _ h => h) d_D_readException_15 (fun a_r10 ha_r10 hv_r10 => ?_)
    refine lv_iload_n hx hb d_D_readException_18 rfl (lv_at hl 2 rfl) ?_
    obtain ⟨x11, hx11, h⟩ := hy_bd h
    refine hy_iald B S ha_r10 hx11 d_D_readException_19 ?_
    refine lv_istore_n (lv' := [(3, .int x11), (0, .ref a_v0), (1, .ref a_v1), (2, .int v2)]) hx hb d_D_readException_20 rfl hl (Nat.le_of_ble_eq_true rfl) rfl (fun ls hl => ?_)
    refine lv_iload_n hx hb d_D_readException_21 rfl (lv_at hl 0 rfl) ?_
    refine lv_if_le (tgt := 33) hx hb d_D_readException_22 (by decide) (fun c12 => ?_) (fun c12 => ?_)
    · rw [if_pos c12] at h
      refine lv_iload_n hx hb d_D_readException_33 rfl (lv_at hl 0 rfl) ?_
      refine lv_bipush (v := (-10)) hx hb d_D_readException_34 (by decide) ?_
      refine lv_icmp_ne (tgt := 51) hx hb d_D_readException_36 (by decide) (fun c13 => ?_) (fun c13 => ?_)
      · rw [if_neg c13] at h
        cases h
        exact hy_jump K S (hy_okr (by omega) (hy_okr (by omega) (hy_oki hy_ok0))) (lv_sub hl [1, 2, 3] rfl) (by subst ha_v0 ha_v1; rfl) (by subst ha_v0 ha_v1; rfl)
      · rw [if_pos c13] at h
        refine lv_aload_n hx hb d_D_readException_39 rfl (lv_at hl 1 rfl) ?_
        refine lv_iconst (v := 1) hx hb d_D_readException_40 (by decide) ?_
        obtain ⟨ob17, h⟩ := hy_if h
        obtain ⟨fs_ob17, hf_ob17, hg_ob17⟩ := hy_ob_spec ob17
        obtain ⟨x16, w14, hq_w14, h⟩ := hy_bi_spec h
        refine hy_calli (hy_runV (rest := []) (As := [.int 1]) (r := v0) (b := a_v0) B S rfl ha_v0 (by rfl) (c_D_takeValue hl9 G ad hq_w14) (hy_okr (by omega) (hy_oki hy_ok0)) tw_488 tw_3 tw_485 tw_487 sl_D_takeValue (by decide) rfl (Nat.le_of_ble_eq_true rfl) (Nat.le_of_ble_eq_true rfl) hf_ob17 hg_ob17 rfl hl.1 (Nat.le_of_ble_eq_true rfl) d_D_readException_41) (fun ad15 H locs cells slots hag hl_w14 S => ?_)
        have ha_v0 : ad15 v0 = a_v0 := (hag v0 (by omega)).trans ha_v0
        have ha_v1 : ad15 v1 = a_v1 := (hag v1 (by omega)).trans ha_v1
        refine lv_if_eq (tgt := 51) hx hb d_D_readException_44 (by decide) (fun c18 => ?_) (fun c18 => ?_)
        · rw [if_pos c18] at h
          cases h
          exact hy_jump K S (hy_okr (by omega) (hy_okr (by omega) (hy_oki hy_ok0))) (lv_sub hl [1, 2, 3] rfl) (by subst ha_v0 ha_v1; rfl) (by subst ha_v0 ha_v1; rfl)
        · rw [if_neg c18] at h
          refine lv_iconst (v := 1) hx hb d_D_readException_47 (by decide) ?_
          refine lv_goto (tgt := 52) hx hb d_D_readException_48 (by decide) ?_
          cases h
          exact hy_jump K S (hy_okr (by omega) (hy_okr (by omega) (hy_oki (hy_oki hy_ok0)))) (lv_sub hl [1, 2, 3] rfl) (by subst ha_v0 ha_v1; rfl) (by subst ha_v0 ha_v1; rfl)
    · rw [if_neg c12] at h
      refine lv_aload_n hx hb d_D_readException_25 rfl (lv_at hl 1 rfl) ?_
      refine lv_iload_n hx hb d_D_readException_26 rfl (lv_at hl 0 rfl) ?_
      obtain ⟨ob22, h⟩ := hy_if h
      obtain ⟨fs_ob22, hf_ob22, hg_ob22⟩ := hy_ob_spec ob22
      obtain ⟨x21, w19, hq_w19, h⟩ := hy_bi_spec h
      refine hy_calli (hy_runV (rest := []) (As := [.int x11]) (r := v0) (b := a_v0) B S rfl ha_v0 (by rfl) (c_D_takeLetter hl9 G ad hq_w19) (hy_okr (by omega) (hy_oki hy_ok0)) tw_484 tw_3 tw_481 tw_483 sl_D_takeLetter (by decide) rfl (Nat.le_of_ble_eq_true rfl) (Nat.le_of_ble_eq_true rfl) hf_ob22 hg_ob22 rfl hl.1 (Nat.le_of_ble_eq_true rfl) d_D_readException_27) (fun ad20 H locs cells slots hag hl_w19 S => ?_)
      have ha_v0 : ad20 v0 = a_v0 := (hag v0 (by omega)).trans ha_v0
      have ha_v1 : ad20 v1 = a_v1 := (hag v1 (by omega)).trans ha_v1
      refine lv_goto (tgt := 52) hx hb d_D_readException_30 (by decide) ?_
      cases h
      exact hy_jump K S (hy_okr (by omega) (hy_okr (by omega) (hy_oki (hy_oki hy_ok0)))) (lv_sub hl [1, 2, 3] rfl) (by subst ha_v0 ha_v1; rfl) (by subst ha_v0 ha_v1; rfl)
set_option maxHeartbeats 4000000 in
set_option maxRecDepth 100000 in
theorem sk_D_readException_51 {p : Program} {l : Launch} {e : Env} {s : State} {m : MethodId} {args : Array Value} {below : List Frame} {meth : Method} {c : Code} {G : hy_G} {A : Nat → Prop} {ad0 : Nat → Nat} {w0 : hy_W} {o : hy_O} (hl9 : l.flags = flags0) (hA : hy_A G ad0 w0 s.heap.size = A) (B : hy_B p l e (hy_rm 1 21 w0) s m args below meth c "HyphenPatterns$Draft" b_D_readException 5 (some .boolean) [] G A) (v0 : Nat) (v1 : Nat) (v2 : Int32) (w : hy_W) (nx : hy_N) (h : sg_D_readException_51 v0 v1 v2 w = some nx) (K : hy_Nx lay_D_readException p l e (hy_rm 1 21 w0) s m args below meth c 5 G A ad0 w0.1.length (hy_Q below G ad0 w0 o args s) o nx) : hy_At lay_D_readException p l e (hy_rm 1 21 w0) s m args below meth c 5 G A ad0 w0.1.length (hy_Q below G ad0 w0 o args s) (51, [.ref v0, .ref v1, .int v2], w) := by
  intro ad H locs cells slots ls S hok hl
  have hx := B.1
  have hb := B.2.1
  dsimp only at S hok
  have hl : lv_has ls 5 [(0, .ref (ad v0)), (1, .ref (ad v1)), (2, .int v2)] := hl
  show W p l e (hy_rm 1 21 w0) s m args below meth c H locs cells slots (hy_Q below G ad0 w0 o args s) (F0 m 51 ls [])
  have hv_v0 : v0 < w.1.length := hok (.ref v0) (List.mem_of_getElem? (i := 0) rfl) v0 rfl
  obtain ⟨a_v0, ha_v0⟩ : ∃ a, ad v0 = a := ⟨_, rfl⟩
  rw [ha_v0] at hl
  have hv_v1 : v1 < w.1.length := hok (.ref v1) (List.mem_of_getElem? (i := 1) rfl) v1 rfl
  obtain ⟨a_v1, ha_v1⟩ : ∃ a, ad v1 = a := ⟨_, rfl⟩
  rw [ha_v1] at hl
  unfold sg_D_readException_51 at h
  refine lv_iconst (v := 0) hx hb d_D_readException_51 (by decide) ?_
  cases h
  exact hy_jump K S (hy_okr (by omega) (hy_okr (by omega) (hy_oki (hy_oki hy_ok0)))) (lv_sub hl [0, 1, 2] rfl) (by subst ha_v0 ha_v1; rfl) (by subst ha_v0 ha_v1; rfl)
set_option maxHeartbeats 4000000 in
set_option maxRecDepth 100000 in
theorem sk_D_readException_52 {p : Program} {l : Launch} {e : Env} {s : State} {m : MethodId} {args : Array Value} {below : List Frame} {meth : Method} {c : Code} {G : hy_G} {A : Nat → Prop} {ad0 : Nat → Nat} {w0 : hy_W} {o : hy_O} (hl9 : l.flags = flags0) (hA : hy_A G ad0 w0 s.heap.size = A) (B : hy_B p l e (hy_rm 1 21 w0) s m args below meth c "HyphenPatterns$Draft" b_D_readException 5 (some .boolean) [] G A) (v0 : Nat) (v1 : Nat) (v2 : Int32) (s0 : Int32) (w : hy_W) (nx : hy_N) (h : sg_D_readException_52 v0 v1 v2 s0 w = some nx) (K : hy_Nx lay_D_readException p l e (hy_rm 1 21 w0) s m args below meth c 5 G A ad0 w0.1.length (hy_Q below G ad0 w0 o args s) o nx) : hy_At lay_D_readException p l e (hy_rm 1 21 w0) s m args below meth c 5 G A ad0 w0.1.length (hy_Q below G ad0 w0 o args s) (52, [.ref v0, .ref v1, .int v2, .int s0], w) := by
  intro ad H locs cells slots ls S hok hl
  have hx := B.1
  have hb := B.2.1
  dsimp only at S hok
  have hl : lv_has ls 5 [(0, .ref (ad v0)), (1, .ref (ad v1)), (2, .int v2)] := hl
  show W p l e (hy_rm 1 21 w0) s m args below meth c H locs cells slots (hy_Q below G ad0 w0 o args s) (F0 m 52 ls [.int s0])
  have hv_v0 : v0 < w.1.length := hok (.ref v0) (List.mem_of_getElem? (i := 0) rfl) v0 rfl
  obtain ⟨a_v0, ha_v0⟩ : ∃ a, ad v0 = a := ⟨_, rfl⟩
  rw [ha_v0] at hl
  have hv_v1 : v1 < w.1.length := hok (.ref v1) (List.mem_of_getElem? (i := 1) rfl) v1 rfl
  obtain ⟨a_v1, ha_v1⟩ : ∃ a, ad v1 = a := ⟨_, rfl⟩
  rw [ha_v1] at hl
  unfold sg_D_readException_52 at h
  refine lv_istore (lv' := [(4, .int s0), (0, .ref a_v0), (1, .ref a_v1), (2, .int v2)]) hx hb d_D_readException_52 hl (Nat.le_of_ble_eq_true rfl) rfl (fun ls hl => ?_)
  refine lv_iload hx hb d_D_readException_54 (lv_at hl 0 rfl) ?_
  refine lv_if_ne (tgt := 61) hx hb d_D_readException_56 (by decide) (fun c1 => ?_) (fun c1 => ?_)
  · rw [if_neg c1] at h
    refine lv_iinc (v := (v2 + 1)) (lv' := [(2, .int (v2 + 1)), (4, .int s0), (0, .ref a_v0), (1, .ref a_v1)]) hx hb d_D_readException_61 hl (k := 3) rfl rfl (Nat.le_of_ble_eq_true rfl) rfl (fun ls hl => ?_)
    refine lv_goto (tgt := 6) hx hb d_D_readException_64 (by decide) ?_
    cases h
    exact hy_jump K S (hy_okr (by omega) (hy_okr (by omega) (hy_oki hy_ok0))) (lv_sub hl [2, 3, 0] rfl) (by subst ha_v0 ha_v1; rfl) (by subst ha_v0 ha_v1; rfl)
  · rw [if_pos c1] at h
    refine lv_iconst (v := 0) hx hb d_D_readException_59 (by decide) ?_
    cases h
    cases K
    exact hy_zret hA B S (by decide) d_D_readException_60
set_option maxHeartbeats 4000000 in
set_option maxRecDepth 100000 in
theorem sk_D_readException_87 {p : Program} {l : Launch} {e : Env} {s : State} {m : MethodId} {args : Array Value} {below : List Frame} {meth : Method} {c : Code} {G : hy_G} {A : Nat → Prop} {ad0 : Nat → Nat} {w0 : hy_W} {o : hy_O} (hl9 : l.flags = flags0) (hA : hy_A G ad0 w0 s.heap.size = A) (B : hy_B p l e (hy_rm 1 21 w0) s m args below meth c "HyphenPatterns$Draft" b_D_readException 5 (some .boolean) [] G A)  (w : hy_W) (nx : hy_N) (h : sg_D_readException_87  w = some nx) (K : hy_Nx lay_D_readException p l e (hy_rm 1 21 w0) s m args below meth c 5 G A ad0 w0.1.length (hy_Q below G ad0 w0 o args s) o nx) : hy_At lay_D_readException p l e (hy_rm 1 21 w0) s m args below meth c 5 G A ad0 w0.1.length (hy_Q below G ad0 w0 o args s) (87, [], w) := by
  intro ad H locs cells slots ls S hok hl
  have hx := B.1
  have hb := B.2.1
  dsimp only at S hok
  have hl : lv_has ls 5 [] := hl
  show W p l e (hy_rm 1 21 w0) s m args below meth c H locs cells slots (hy_Q below G ad0 w0 o args s) (F0 m 87 ls [])
  unfold sg_D_readException_87 at h
  refine lv_iconst (v := 0) hx hb d_D_readException_87 (by decide) ?_
  cases h
  cases K
  exact hy_zret hA B S (by decide) d_D_readException_88
theorem nk_D_readException {p : Program} {l : Launch} {e : Env} {s : State} {m : MethodId} {args : Array Value} {below : List Frame} {meth : Method} {c : Code} {G : hy_G} {A : Nat → Prop} {ad0 : Nat → Nat} {w0 : hy_W} {o : hy_O} (hl9 : l.flags = flags0) (hA : hy_A G ad0 w0 s.heap.size = A) (B : hy_B p l e (hy_rm 1 21 w0) s m args below meth c "HyphenPatterns$Draft" b_D_readException 5 (some .boolean) [] G A) (q : hy_P) (nx : hy_N) (hq : nx_D_readException q = some nx) (K : hy_Nx lay_D_readException p l e (hy_rm 1 21 w0) s m args below meth c 5 G A ad0 w0.1.length (hy_Q below G ad0 w0 o args s) o nx) : hy_At lay_D_readException p l e (hy_rm 1 21 w0) s m args below meth c 5 G A ad0 w0.1.length (hy_Q below G ad0 w0 o args s) q := by
  unfold nx_D_readException at hq
  split at hq
  · exact sk_D_readException_0 hl9 hA B _ _ _ nx hq K
  · exact sk_D_readException_6 hl9 hA B _ _ _ _ nx hq K
  · exact sk_D_readException_51 hl9 hA B _ _ _ _ nx hq K
  · exact sk_D_readException_52 hl9 hA B _ _ _ _ _ nx hq K
  · exact sk_D_readException_87 hl9 hA B _ nx hq K
  · cases hq
theorem c_D_readException {l : Launch} (hl9 : l.flags = flags0) (G : hy_G) (ad : Nat → Nat) {v0 : Nat} {v1 : Nat} {w : hy_W} {o : hy_O} (h : f_D_readException [.ref v0, .ref v1] w = some o) : hy_M l y_D_readException (Cond.code y_D_readException b_D_readException 5 (some .boolean) :: hy_T) 1 21 G ad [.ref v0, .ref v1] w o := by
  obtain ⟨n, hn⟩ := hy_fx_iff.mp h
  refine hy_ofW hl9 (by decide +kernel) (Nat.le_of_ble_eq_true rfl) (fun p e s m args below meth c A hA hi B S hok ls hl => ?_)
  exact hy_loop (nk_D_readException hl9 hA B) n _ hn ad s.heap [] 0 0 ls S hok hl
theorem d_H_exceptionsInAll_0 : decode b_H_exceptionsInAll 0 = .ok (.iconst 0, 1) := by decide +kernel
theorem d_H_exceptionsInAll_1 : decode b_H_exceptionsInAll 1 = .ok (.istore_n 1, 1) := by decide +kernel
theorem d_H_exceptionsInAll_2 : decode b_H_exceptionsInAll 2 = .ok (.iconst 0, 1) := by decide +kernel
theorem d_H_exceptionsInAll_3 : decode b_H_exceptionsInAll 3 = .ok (.istore_n 2, 1) := by decide +kernel
theorem d_H_exceptionsInAll_4 : decode b_H_exceptionsInAll 4 = .ok (.iload_n 2, 1) := by decide +kernel
theorem d_H_exceptionsInAll_5 : decode b_H_exceptionsInAll 5 = .ok (.iconst 4, 1) := by decide +kernel
theorem d_H_exceptionsInAll_6 : decode b_H_exceptionsInAll 6 = .ok (.if_icmp .ge 24, 3) := by decide +kernel
theorem d_H_exceptionsInAll_9 : decode b_H_exceptionsInAll 9 = .ok (.iload_n 1, 1) := by decide +kernel
theorem d_H_exceptionsInAll_10 : decode b_H_exceptionsInAll 10 = .ok (.aload_n 0, 1) := by decide +kernel
theorem d_H_exceptionsInAll_11 : decode b_H_exceptionsInAll 11 = .ok (.getfield 11, 3) := by decide +kernel
theorem d_H_exceptionsInAll_14 : decode b_H_exceptionsInAll 14 = .ok (.iload_n 2, 1) := by decide +kernel
theorem d_H_exceptionsInAll_15 : decode b_H_exceptionsInAll 15 = .ok (.aaload, 1) := by decide +kernel
theorem d_H_exceptionsInAll_16 : decode b_H_exceptionsInAll 16 = .ok (.getfield 115, 3) := by decide +kernel
theorem d_H_exceptionsInAll_19 : decode b_H_exceptionsInAll 19 = .ok (.invokevirtual 121, 3) := by decide +kernel
theorem d_H_exceptionsInAll_22 : decode b_H_exceptionsInAll 22 = .ok (.iadd, 1) := by decide +kernel
theorem d_H_exceptionsInAll_23 : decode b_H_exceptionsInAll 23 = .ok (.istore_n 1, 1) := by decide +kernel
theorem d_H_exceptionsInAll_24 : decode b_H_exceptionsInAll 24 = .ok (.iinc 2 1, 3) := by decide +kernel
theorem d_H_exceptionsInAll_27 : decode b_H_exceptionsInAll 27 = .ok (.goto (-23), 3) := by decide +kernel
theorem d_H_exceptionsInAll_30 : decode b_H_exceptionsInAll 30 = .ok (.iload_n 1, 1) := by decide +kernel
theorem d_H_exceptionsInAll_31 : decode b_H_exceptionsInAll 31 = .ok (.ireturn, 1) := by decide +kernel
def lay_H_exceptionsInAll (pc : Nat) : List Nat := if pc = 0 then [0] else if pc = 4 then [0, 1, 2] else []
noncomputable def sg_H_exceptionsInAll_0 (v0 : Nat) (w : hy_W) : Option hy_N := some (.inl (4, [.ref v0, .int 0, .int 0], w))
noncomputable def sg_H_exceptionsInAll_4 (v0 : Nat) (v1 : Int32) (v2 : Int32) (w : hy_W) : Option hy_N := if (4 : Int32) ≤ v2 then (some (.inr (.inl (some (.int v1)), w))) else ((hy_gr w v0 5 0).bind fun r2 => (hy_ar w 2 r2 v2).bind fun r3 => (hy_gr w r3 1 4).bind fun r4 => if hy_ob w r4 7 = true then hy_bi (f_A_size [.ref r4] w) fun x7 w5 => some (.inl (4, [.ref v0, .int (v1 + x7), .int (v2 + 1)], w5)) else none)
noncomputable def nx_H_exceptionsInAll (q : hy_P) : Option hy_N := match q with
  | (0, [.ref v0], w) => sg_H_exceptionsInAll_0 v0 w
  | (4, [.ref v0, .int v1, .int v2], w) => sg_H_exceptionsInAll_4 v0 v1 v2 w
  | _ => none
noncomputable def f_H_exceptionsInAll (av : List Value) (w : hy_W) : Option hy_O := hy_fx nx_H_exceptionsInAll (0, av, w)
set_option maxHeartbeats 4000000 in
set_option maxRecDepth 100000 in
theorem sk_H_exceptionsInAll_0 {p : Program} {l : Launch} {e : Env} {s : State} {m : MethodId} {args : Array Value} {below : List Frame} {meth : Method} {c : Code} {G : hy_G} {A : Nat → Prop} {ad0 : Nat → Nat} {w0 : hy_W} {o : hy_O} (hl9 : l.flags = flags0) (hA : hy_A G ad0 w0 s.heap.size = A) (B : hy_B p l e (hy_rm 1 20 w0) s m args below meth c "HyphenPatterns" b_H_exceptionsInAll 3 (some .int) [] G A) (v0 : Nat) (w : hy_W) (nx : hy_N) (h : sg_H_exceptionsInAll_0 v0 w = some nx) (K : hy_Nx lay_H_exceptionsInAll p l e (hy_rm 1 20 w0) s m args below meth c 3 G A ad0 w0.1.length (hy_Q below G ad0 w0 o args s) o nx) : hy_At lay_H_exceptionsInAll p l e (hy_rm 1 20 w0) s m args below meth c 3 G A ad0 w0.1.length (hy_Q below G ad0 w0 o args s) (0, [.ref v0], w) := by
  intro ad H locs cells slots ls S hok hl
  have hx := B.1
  have hb := B.2.1
  dsimp only at S hok
  have hl : lv_has ls 3 [(0, .ref (ad v0))] := hl
  show W p l e (hy_rm 1 20 w0) s m args below meth c H locs cells slots (hy_Q below G ad0 w0 o args s) (F0 m 0 ls [])
  have hv_v0 : v0 < w.1.length := hok (.ref v0) (List.mem_of_getElem? (i := 0) rfl) v0 rfl
  obtain ⟨a_v0, ha_v0⟩ : ∃ a, ad v0 = a := ⟨_, rfl⟩
  rw [ha_v0] at hl
  unfold sg_H_exceptionsInAll_0 at h
  refine lv_iconst (v := 0) hx hb d_H_exceptionsInAll_0 (by decide) ?_
  refine lv_istore_n (lv' := [(1, .int 0), (0, .ref a_v0)]) hx hb d_H_exceptionsInAll_1 rfl hl (Nat.le_of_ble_eq_true rfl) rfl (fun ls hl => ?_)
  refine lv_iconst (v := 0) hx hb d_H_exceptionsInAll_2 (by decide) ?_
  refine lv_istore_n (lv' := [(2, .int 0), (1, .int 0), (0, .ref a_v0)]) hx hb d_H_exceptionsInAll_3 rfl hl (Nat.le_of_ble_eq_true rfl) rfl (fun ls hl => ?_)
  cases h
  exact hy_jump K S (hy_okr (by omega) (hy_oki (hy_oki hy_ok0))) (lv_sub hl [2, 1, 0] rfl) (by subst ha_v0; rfl) (by subst ha_v0; rfl)
set_option maxHeartbeats 4000000 in
set_option maxRecDepth 100000 in
theorem sk_H_exceptionsInAll_4 {p : Program} {l : Launch} {e : Env} {s : State} {m : MethodId} {args : Array Value} {below : List Frame} {meth : Method} {c : Code} {G : hy_G} {A : Nat → Prop} {ad0 : Nat → Nat} {w0 : hy_W} {o : hy_O} (hl9 : l.flags = flags0) (hA : hy_A G ad0 w0 s.heap.size = A) (B : hy_B p l e (hy_rm 1 20 w0) s m args below meth c "HyphenPatterns" b_H_exceptionsInAll 3 (some .int) [] G A) (v0 : Nat) (v1 : Int32) (v2 : Int32) (w : hy_W) (nx : hy_N) (h : sg_H_exceptionsInAll_4 v0 v1 v2 w = some nx) (K : hy_Nx lay_H_exceptionsInAll p l e (hy_rm 1 20 w0) s m args below meth c 3 G A ad0 w0.1.length (hy_Q below G ad0 w0 o args s) o nx) : hy_At lay_H_exceptionsInAll p l e (hy_rm 1 20 w0) s m args below meth c 3 G A ad0 w0.1.length (hy_Q below G ad0 w0 o args s) (4, [.ref v0, .int v1, .int v2], w) := by
  intro ad H locs cells slots ls S hok hl
  have hx := B.1
  have hb := B.2.1
  dsimp only at S hok
  have hl : lv_has ls 3 [(0, .ref (ad v0)), (1, .int v1), (2, .int v2)] := hl
  show W p l e (hy_rm 1 20 w0) s m args below meth c H locs cells slots (hy_Q below G ad0 w0 o args s) (F0 m 4 ls [])
  have hv_v0 : v0 < w.1.length := hok (.ref v0) (List.mem_of_getElem? (i := 0) rfl) v0 rfl
  obtain ⟨a_v0, ha_v0⟩ : ∃ a, ad v0 = a := ⟨_, rfl⟩
  rw [ha_v0] at hl
  unfold sg_H_exceptionsInAll_4 at h
  refine lv_iload_n hx hb d_H_exceptionsInAll_4 rfl (lv_at hl 2 rfl) ?_
  refine lv_iconst (v := 4) hx hb d_H_exceptionsInAll_5 (by decide) ?_
  refine lv_icmp_ge (tgt := 30) hx hb d_H_exceptionsInAll_6 (by decide) (fun c1 => ?_) (fun c1 => ?_)
  · rw [if_pos c1] at h
    refine lv_iload_n hx hb d_H_exceptionsInAll_30 rfl (lv_at hl 1 rfl) ?_
    cases h
    cases K
    exact hy_iret hA B S d_H_exceptionsInAll_31
  · rw [if_neg c1] at h
    refine lv_iload_n hx hb d_H_exceptionsInAll_9 rfl (lv_at hl 1 rfl) ?_
    refine lv_aload_n hx hb d_H_exceptionsInAll_10 rfl (lv_at hl 0 rfl) ?_
    obtain ⟨r2, hr2, h⟩ := hy_bd h
    refine hy_getr B S ha_v0 hr2 rfl (Nat.le_of_ble_eq_true rfl) i_5 (j := 0) tw_163 (fun _ h => h) d_H_exceptionsInAll_11 (fun a_r2 ha_r2 hv_r2 => ?_)
    refine lv_iload_n hx hb d_H_exceptionsInAll_14 rfl (lv_at hl 2 rfl) ?_
    obtain ⟨r3, hr3, h⟩ := hy_bd h
    refine hy_aald B S ha_r2 (Or.inl rfl) hr3 d_H_exceptionsInAll_15 (fun a_r3 ha_r3 hv_r3 => ?_)
    obtain ⟨r4, hr4, h⟩ := hy_bd h
    refine hy_getr B S ha_r3 hr4 rfl (Nat.le_of_ble_eq_true rfl) i_1 (j := 4) tw_137 (fun _ h => h) d_H_exceptionsInAll_16 (fun a_r4 ha_r4 hv_r4 => ?_)
    obtain ⟨ob8, h⟩ := hy_if h
    obtain ⟨fs_ob8, hf_ob8, hg_ob8⟩ := hy_ob_spec ob8
    obtain ⟨x7, w5, hq_w5, h⟩ := hy_bi_spec h
    refine hy_calli (hy_runV (rest := [.int v1]) (As := []) (r := r4) (b := a_r4) B S rfl ha_r4 (by rfl) (c_A_size hl9 G ad hq_w5) (hy_okr (by omega) hy_ok0) tw_197 tw_8 tw_194 tw_195 sl_A_size (by decide) rfl (Nat.le_of_ble_eq_true rfl) (Nat.le_of_ble_eq_true rfl) hf_ob8 hg_ob8 rfl hl.1 (Nat.le_of_ble_eq_true rfl) d_H_exceptionsInAll_19) (fun ad6 H locs cells slots hag hl_w5 S => ?_)
    have ha_v0 : ad6 v0 = a_v0 := (hag v0 (by omega)).trans ha_v0
    refine lv_iadd hx hb d_H_exceptionsInAll_22 ?_
    refine lv_istore_n (lv' := [(1, .int (v1 + x7)), (0, .ref a_v0), (2, .int v2)]) hx hb d_H_exceptionsInAll_23 rfl hl (Nat.le_of_ble_eq_true rfl) rfl (fun ls hl => ?_)
    refine lv_iinc (v := (v2 + 1)) (lv' := [(2, .int (v2 + 1)), (1, .int (v1 + x7)), (0, .ref a_v0)]) hx hb d_H_exceptionsInAll_24 hl (k := 2) rfl rfl (Nat.le_of_ble_eq_true rfl) rfl (fun ls hl => ?_)
    refine lv_goto (tgt := 4) hx hb d_H_exceptionsInAll_27 (by decide) ?_
    cases h
    exact hy_jump K S (hy_okr (by omega) (hy_oki (hy_oki hy_ok0))) (lv_sub hl [2, 1, 0] rfl) (by subst ha_v0; rfl) (by subst ha_v0; rfl)
theorem nk_H_exceptionsInAll {p : Program} {l : Launch} {e : Env} {s : State} {m : MethodId} {args : Array Value} {below : List Frame} {meth : Method} {c : Code} {G : hy_G} {A : Nat → Prop} {ad0 : Nat → Nat} {w0 : hy_W} {o : hy_O} (hl9 : l.flags = flags0) (hA : hy_A G ad0 w0 s.heap.size = A) (B : hy_B p l e (hy_rm 1 20 w0) s m args below meth c "HyphenPatterns" b_H_exceptionsInAll 3 (some .int) [] G A) (q : hy_P) (nx : hy_N) (hq : nx_H_exceptionsInAll q = some nx) (K : hy_Nx lay_H_exceptionsInAll p l e (hy_rm 1 20 w0) s m args below meth c 3 G A ad0 w0.1.length (hy_Q below G ad0 w0 o args s) o nx) : hy_At lay_H_exceptionsInAll p l e (hy_rm 1 20 w0) s m args below meth c 3 G A ad0 w0.1.length (hy_Q below G ad0 w0 o args s) q := by
  unfold nx_H_exceptionsInAll at hq
  split at hq
  · exact sk_H_exceptionsInAll_0 hl9 hA B _ _ nx hq K
  · exact sk_H_exceptionsInAll_4 hl9 hA B _ _ _ _ nx hq K
  · cases hq
theorem c_H_exceptionsInAll {l : Launch} (hl9 : l.flags = flags0) (G : hy_G) (ad : Nat → Nat) {v0 : Nat} {w : hy_W} {o : hy_O} (h : f_H_exceptionsInAll [.ref v0] w = some o) : hy_M l y_H_exceptionsInAll (Cond.code y_H_exceptionsInAll b_H_exceptionsInAll 3 (some .int) :: hy_T) 1 20 G ad [.ref v0] w o := by
  obtain ⟨n, hn⟩ := hy_fx_iff.mp h
  refine hy_ofW hl9 (by decide +kernel) (Nat.le_of_ble_eq_true rfl) (fun p e s m args below meth c A hA hi B S hok ls hl => ?_)
  exact hy_loop (nk_H_exceptionsInAll hl9 hA B) n _ hn ad s.heap [] 0 0 ls S hok hl
theorem d_H_exception_0 : decode b_H_exception 0 = .ok (.aload_n 0, 1) := by decide +kernel
theorem d_H_exception_1 : decode b_H_exception 1 = .ok (.getfield 30, 3) := by decide +kernel
theorem d_H_exception_4 : decode b_H_exception 4 = .ok (.aload_n 0, 1) := by decide +kernel
theorem d_H_exception_5 : decode b_H_exception 5 = .ok (.getfield 20, 3) := by decide +kernel
theorem d_H_exception_8 : decode b_H_exception 8 = .ok (.invokevirtual 110, 3) := by decide +kernel
theorem d_H_exception_11 : decode b_H_exception 11 = .ok (.ifCond .ne 13, 3) := by decide +kernel
theorem d_H_exception_14 : decode b_H_exception 14 = .ok (.new 57, 3) := by decide +kernel
theorem d_H_exception_17 : decode b_H_exception 17 = .ok (.dup, 1) := by decide +kernel
theorem d_H_exception_18 : decode b_H_exception 18 = .ok (.ldc 113, 2) := by decide +kernel
theorem d_H_exception_20 : decode b_H_exception 20 = .ok (.invokespecial 61, 3) := by decide +kernel
theorem d_H_exception_23 : decode b_H_exception 23 = .ok (.athrow, 1) := by decide +kernel
theorem d_H_exception_24 : decode b_H_exception 24 = .ok (.aload_n 0, 1) := by decide +kernel
theorem d_H_exception_25 : decode b_H_exception 25 = .ok (.aload_n 0, 1) := by decide +kernel
theorem d_H_exception_26 : decode b_H_exception 26 = .ok (.getfield 11, 3) := by decide +kernel
theorem d_H_exception_29 : decode b_H_exception 29 = .ok (.aload_n 0, 1) := by decide +kernel
theorem d_H_exception_30 : decode b_H_exception 30 = .ok (.getfield 41, 3) := by decide +kernel
theorem d_H_exception_33 : decode b_H_exception 33 = .ok (.aaload, 1) := by decide +kernel
theorem d_H_exception_34 : decode b_H_exception 34 = .ok (.getfield 115, 3) := by decide +kernel
theorem d_H_exception_37 : decode b_H_exception 37 = .ok (.aload_n 0, 1) := by decide +kernel
theorem d_H_exception_38 : decode b_H_exception 38 = .ok (.invokevirtual 118, 3) := by decide +kernel
theorem d_H_exception_41 : decode b_H_exception 41 = .ok (.bipush 40, 2) := by decide +kernel
theorem d_H_exception_43 : decode b_H_exception 43 = .ok (.if_icmp .lt 7, 3) := by decide +kernel
theorem d_H_exception_46 : decode b_H_exception 46 = .ok (.iconst 1, 1) := by decide +kernel
theorem d_H_exception_47 : decode b_H_exception 47 = .ok (.goto 4, 3) := by decide +kernel
theorem d_H_exception_50 : decode b_H_exception 50 = .ok (.iconst 0, 1) := by decide +kernel
theorem d_H_exception_51 : decode b_H_exception 51 = .ok (.invokevirtual 106, 3) := by decide +kernel
theorem d_H_exception_54 : decode b_H_exception 54 = .ok (.ireturn, 1) := by decide +kernel
def lay_H_exception (pc : Nat) : List Nat := if pc = 0 then [0] else if pc = 51 then [] else []
noncomputable def sg_H_exception_0 (v0 : Nat) (w : hy_W) : Option hy_N := (hy_gr w v0 5 3).bind fun r1 => (hy_gr w v0 5 1).bind fun r2 => if hy_ob w r1 0 = true then hy_bi (f_D_readException [.ref r1, .ref r2] w) fun x5 w3 => if x5 = 0 then ((hy_th w3).bind fun w17 => some (.inr (.inr "java/lang/IllegalArgumentException", w17))) else ((hy_gr w3 v0 5 0).bind fun r8 => (hy_gi w3 v0 5 5).bind fun x9 => (hy_ar w3 2 r8 x9).bind fun r10 => (hy_gr w3 r10 1 4).bind fun r11 => if hy_ob w3 v0 5 = true then hy_bi (f_H_exceptionsInAll [.ref v0] w3) fun x14 w12 => if x14 < 40 then (some (.inl (51, [.int 0, .ref r11, .ref v0], w12))) else (some (.inl (51, [.int 1, .ref r11, .ref v0], w12))) else none) else none
noncomputable def sg_H_exception_51 (s0 : Int32) (s1 : Nat) (s2 : Nat) (w : hy_W) : Option hy_N := if hy_ob w s2 5 = true then hy_xi (f_H_keepDraft [.ref s2, .ref s1, .int s0] w) (fun x3 w1 => some (.inr (.inl (some (.int x3)), w1))) (fun E5 w6 => some (.inr (.inr E5, w6))) else none
noncomputable def nx_H_exception (q : hy_P) : Option hy_N := match q with
  | (0, [.ref v0], w) => sg_H_exception_0 v0 w
  | (51, [.int s0, .ref s1, .ref s2], w) => sg_H_exception_51 s0 s1 s2 w
  | _ => none
noncomputable def f_H_exception (av : List Value) (w : hy_W) : Option hy_O := hy_fx nx_H_exception (0, av, w)
set_option maxHeartbeats 4000000 in
set_option maxRecDepth 100000 in
theorem sk_H_exception_0 {p : Program} {l : Launch} {e : Env} {s : State} {m : MethodId} {args : Array Value} {below : List Frame} {meth : Method} {c : Code} {G : hy_G} {A : Nat → Prop} {ad0 : Nat → Nat} {w0 : hy_W} {o : hy_O} (hl9 : l.flags = flags0) (hA : hy_A G ad0 w0 s.heap.size = A) (B : hy_B p l e (hy_rm 8 172 w0) s m args below meth c "HyphenPatterns" b_H_exception 1 (some .int) [] G A) (v0 : Nat) (w : hy_W) (nx : hy_N) (h : sg_H_exception_0 v0 w = some nx) (K : hy_Nx lay_H_exception p l e (hy_rm 8 172 w0) s m args below meth c 1 G A ad0 w0.1.length (hy_Q below G ad0 w0 o args s) o nx) : hy_At lay_H_exception p l e (hy_rm 8 172 w0) s m args below meth c 1 G A ad0 w0.1.length (hy_Q below G ad0 w0 o args s) (0, [.ref v0], w) := by
  intro ad H locs cells slots ls S hok hl
  have hx := B.1
  have hb := B.2.1
  dsimp only at S hok
  have hl : lv_has ls 1 [(0, .ref (ad v0))] := hl
  show W p l e (hy_rm 8 172 w0) s m args below meth c H locs cells slots (hy_Q below G ad0 w0 o args s) (F0 m 0 ls [])
  have hv_v0 : v0 < w.1.length := hok (.ref v0) (List.mem_of_getElem? (i := 0) rfl) v0 rfl
  obtain ⟨a_v0, ha_v0⟩ : ∃ a, ad v0 = a := ⟨_, rfl⟩
  rw [ha_v0] at hl
  unfold sg_H_exception_0 at h
  refine lv_aload_n hx hb d_H_exception_0 rfl (lv_at hl 0 rfl) ?_
  obtain ⟨r1, hr1, h⟩ := hy_bd h
  refine hy_getr B S ha_v0 hr1 rfl (Nat.le_of_ble_eq_true rfl) i_5 (j := 3) tw_166 (fun _ h => h) d_H_exception_1 (fun a_r1 ha_r1 hv_r1 => ?_)
  refine lv_aload_n hx hb d_H_exception_4 rfl (lv_at hl 0 rfl) ?_
  obtain ⟨r2, hr2, h⟩ := hy_bd h
  refine hy_getr B S ha_v0 hr2 rfl (Nat.le_of_ble_eq_true rfl) i_5 (j := 1) tw_164 (fun _ h => h) d_H_exception_5 (fun a_r2 ha_r2 hv_r2 => ?_)
  obtain ⟨ob6, h⟩ := hy_if h
  obtain ⟨fs_ob6, hf_ob6, hg_ob6⟩ := hy_ob_spec ob6
  obtain ⟨x5, w3, hq_w3, h⟩ := hy_bi_spec h
  refine hy_calli (hy_runV (rest := []) (As := [.ref a_r2]) (r := r1) (b := a_r1) B S rfl ha_r1 (by subst ha_r2; rfl) (c_D_readException hl9 G ad hq_w3) (hy_okr (by omega) (hy_okr (by omega) hy_ok0)) tw_606 tw_3 tw_603 tw_604 sl_D_readException (by decide) rfl (Nat.le_of_ble_eq_true rfl) (Nat.le_of_ble_eq_true rfl) hf_ob6 hg_ob6 rfl hl.1 (Nat.le_of_ble_eq_true rfl) d_H_exception_8) (fun ad4 H locs cells slots hag hl_w3 S => ?_)
  have ha_v0 : ad4 v0 = a_v0 := (hag v0 (by omega)).trans ha_v0
  refine lv_if_ne (tgt := 24) hx hb d_H_exception_11 (by decide) (fun c7 => ?_) (fun c7 => ?_)
  · rw [if_neg c7] at h
    refine lv_aload_n hx hb d_H_exception_24 rfl (lv_at hl 0 rfl) ?_
    refine lv_aload_n hx hb d_H_exception_25 rfl (lv_at hl 0 rfl) ?_
    obtain ⟨r8, hr8, h⟩ := hy_bd h
    refine hy_getr B S ha_v0 hr8 rfl (Nat.le_of_ble_eq_true rfl) i_5 (j := 0) tw_163 (fun _ h => h) d_H_exception_26 (fun a_r8 ha_r8 hv_r8 => ?_)
    refine lv_aload_n hx hb d_H_exception_29 rfl (lv_at hl 0 rfl) ?_
    obtain ⟨x9, hx9, h⟩ := hy_bd h
    refine hy_geti B S ha_v0 hx9 rfl (Nat.le_of_ble_eq_true rfl) i_5 (j := 5) tw_168 (fun _ h => h) d_H_exception_30 ?_
    obtain ⟨r10, hr10, h⟩ := hy_bd h
    refine hy_aald B S ha_r8 (Or.inl rfl) hr10 d_H_exception_33 (fun a_r10 ha_r10 hv_r10 => ?_)
    obtain ⟨r11, hr11, h⟩ := hy_bd h
    refine hy_getr B S ha_r10 hr11 rfl (Nat.le_of_ble_eq_true rfl) i_1 (j := 4) tw_137 (fun _ h => h) d_H_exception_34 (fun a_r11 ha_r11 hv_r11 => ?_)
    refine lv_aload_n hx hb d_H_exception_37 rfl (lv_at hl 0 rfl) ?_
    obtain ⟨ob15, h⟩ := hy_if h
    obtain ⟨fs_ob15, hf_ob15, hg_ob15⟩ := hy_ob_spec ob15
    obtain ⟨x14, w12, hq_w12, h⟩ := hy_bi_spec h
    refine hy_calli (hy_runV (rest := [.ref a_r11, .ref a_v0]) (As := []) (r := v0) (b := a_v0) B S rfl ha_v0 (by rfl) (c_H_exceptionsInAll hl9 G ad4 hq_w12) (hy_okr (by omega) hy_ok0) tw_611 tw_1 tw_608 tw_610 sl_H_exceptionsInAll (by decide) rfl (Nat.le_of_ble_eq_true rfl) (Nat.le_of_ble_eq_true rfl) hf_ob15 hg_ob15 rfl hl.1 (Nat.le_of_ble_eq_true rfl) d_H_exception_38) (fun ad13 H locs cells slots hag hl_w12 S => ?_)
    have ha_v0 : ad13 v0 = a_v0 := (hag v0 (by omega)).trans ha_v0
    have ha_r11 : ad13 r11 = a_r11 := (hag r11 (by omega)).trans ha_r11
    refine lv_bipush (v := 40) hx hb d_H_exception_41 (by decide) ?_
    refine lv_icmp_lt (tgt := 50) hx hb d_H_exception_43 (by decide) (fun c16 => ?_) (fun c16 => ?_)
    · rw [if_pos c16] at h
      refine lv_iconst (v := 0) hx hb d_H_exception_50 (by decide) ?_
      cases h
      exact hy_jump K S (hy_oki (hy_okr (by omega) (hy_okr (by omega) hy_ok0))) (lv_sub hl [] rfl) (by subst ha_r11 ha_v0; rfl) (by subst ha_r11 ha_v0; rfl)
    · rw [if_neg c16] at h
      refine lv_iconst (v := 1) hx hb d_H_exception_46 (by decide) ?_
      refine lv_goto (tgt := 51) hx hb d_H_exception_47 (by decide) ?_
      cases h
      exact hy_jump K S (hy_oki (hy_okr (by omega) (hy_okr (by omega) hy_ok0))) (lv_sub hl [] rfl) (by subst ha_r11 ha_v0; rfl) (by subst ha_r11 ha_v0; rfl)
  · rw [if_pos c7] at h
    obtain ⟨w17, hw17, h⟩ := hy_bd h
    cases h
    cases K
    exact hy_throw (text := "the telling is no exception") (names := ["java/lang/RuntimeException", "java/lang/Exception"]) hA B S hw17 (by decide +kernel) (by decide +kernel) tw_396 tw_14 (by decide +kernel) at_H_IA hl.1 d_H_exception_14 d_H_exception_17 d_H_exception_18 d_H_exception_20 d_H_exception_23 (Nat.le_of_ble_eq_true rfl) (Nat.le_of_ble_eq_true rfl)
set_option maxHeartbeats 4000000 in
set_option maxRecDepth 100000 in
theorem sk_H_exception_51 {p : Program} {l : Launch} {e : Env} {s : State} {m : MethodId} {args : Array Value} {below : List Frame} {meth : Method} {c : Code} {G : hy_G} {A : Nat → Prop} {ad0 : Nat → Nat} {w0 : hy_W} {o : hy_O} (hl9 : l.flags = flags0) (hA : hy_A G ad0 w0 s.heap.size = A) (B : hy_B p l e (hy_rm 8 172 w0) s m args below meth c "HyphenPatterns" b_H_exception 1 (some .int) [] G A) (s0 : Int32) (s1 : Nat) (s2 : Nat) (w : hy_W) (nx : hy_N) (h : sg_H_exception_51 s0 s1 s2 w = some nx) (K : hy_Nx lay_H_exception p l e (hy_rm 8 172 w0) s m args below meth c 1 G A ad0 w0.1.length (hy_Q below G ad0 w0 o args s) o nx) : hy_At lay_H_exception p l e (hy_rm 8 172 w0) s m args below meth c 1 G A ad0 w0.1.length (hy_Q below G ad0 w0 o args s) (51, [.int s0, .ref s1, .ref s2], w) := by
  intro ad H locs cells slots ls S hok hl
  have hx := B.1
  have hb := B.2.1
  dsimp only at S hok
  have hl : lv_has ls 1 [] := hl
  show W p l e (hy_rm 8 172 w0) s m args below meth c H locs cells slots (hy_Q below G ad0 w0 o args s) (F0 m 51 ls [.int s0, .ref (ad s1), .ref (ad s2)])
  have hv_s1 : s1 < w.1.length := hok (.ref s1) (List.mem_of_getElem? (i := 1) rfl) s1 rfl
  obtain ⟨a_s1, ha_s1⟩ : ∃ a, ad s1 = a := ⟨_, rfl⟩
  rw [ha_s1]
  have hv_s2 : s2 < w.1.length := hok (.ref s2) (List.mem_of_getElem? (i := 2) rfl) s2 rfl
  obtain ⟨a_s2, ha_s2⟩ : ∃ a, ad s2 = a := ⟨_, rfl⟩
  rw [ha_s2]
  unfold sg_H_exception_51 at h
  obtain ⟨ob4, h⟩ := hy_if h
  obtain ⟨fs_ob4, hf_ob4, hg_ob4⟩ := hy_ob_spec ob4
  rcases hy_xi_spec h with ⟨x3, w1, hq_w1, h⟩ | ⟨E5, w6, hq_w6, h⟩
  · refine hy_calli (hy_runV (rest := []) (As := [.ref a_s1, .int s0]) (r := s2) (b := a_s2) B S rfl ha_s2 (by subst ha_s1; rfl) (c_H_keepDraft hl9 G ad hq_w1) (hy_okr (by omega) (hy_okr (by omega) (hy_oki hy_ok0))) tw_505 tw_1 tw_502 tw_504 sl_H_keepDraft (by decide) rfl (Nat.le_of_ble_eq_true rfl) (Nat.le_of_ble_eq_true rfl) hf_ob4 hg_ob4 rfl hl.1 (Nat.le_of_ble_eq_true rfl) d_H_exception_51) (fun ad2 H locs cells slots hag hl_w1 S => ?_)
    cases h
    cases K
    exact hy_iret hA B S d_H_exception_54
  · cases h
    cases K
    refine hy_callT (rest := []) (As := [.ref a_s1, .int s0]) (r := s2) (b := a_s2) B S rfl ha_s2 (by subst ha_s1; rfl) (c_H_keepDraft hl9 G ad hq_w6) (hy_okr (by omega) (hy_okr (by omega) (hy_oki hy_ok0))) tw_505 tw_1 tw_502 tw_504 sl_H_keepDraft (by decide) rfl (Nat.le_of_ble_eq_true rfl) (Nat.le_of_ble_eq_true rfl) hf_ob4 hg_ob4 rfl hl.1 (Nat.le_of_ble_eq_true rfl) d_H_exception_51 (fun ad7 H locs cells slots q8 ce9 hag hl_w6 S z1 z2 z3 => ?_)
    exact hy_out hA B S z1 z2 z3
theorem nk_H_exception {p : Program} {l : Launch} {e : Env} {s : State} {m : MethodId} {args : Array Value} {below : List Frame} {meth : Method} {c : Code} {G : hy_G} {A : Nat → Prop} {ad0 : Nat → Nat} {w0 : hy_W} {o : hy_O} (hl9 : l.flags = flags0) (hA : hy_A G ad0 w0 s.heap.size = A) (B : hy_B p l e (hy_rm 8 172 w0) s m args below meth c "HyphenPatterns" b_H_exception 1 (some .int) [] G A) (q : hy_P) (nx : hy_N) (hq : nx_H_exception q = some nx) (K : hy_Nx lay_H_exception p l e (hy_rm 8 172 w0) s m args below meth c 1 G A ad0 w0.1.length (hy_Q below G ad0 w0 o args s) o nx) : hy_At lay_H_exception p l e (hy_rm 8 172 w0) s m args below meth c 1 G A ad0 w0.1.length (hy_Q below G ad0 w0 o args s) q := by
  unfold nx_H_exception at hq
  split at hq
  · exact sk_H_exception_0 hl9 hA B _ _ nx hq K
  · exact sk_H_exception_51 hl9 hA B _ _ _ _ nx hq K
  · cases hq
theorem c_H_exception {l : Launch} (hl9 : l.flags = flags0) (G : hy_G) (ad : Nat → Nat) {v0 : Nat} {w : hy_W} {o : hy_O} (h : f_H_exception [.ref v0] w = some o) : hy_M l y_H_exception (Cond.code y_H_exception b_H_exception 1 (some .int) :: hy_T) 8 172 G ad [.ref v0] w o := by
  obtain ⟨n, hn⟩ := hy_fx_iff.mp h
  refine hy_ofW hl9 (by decide +kernel) (Nat.le_of_ble_eq_true rfl) (fun p e s m args below meth c A hA hi B S hok ls hl => ?_)
  exact hy_loop (nk_H_exception hl9 hA B) n _ hn ad s.heap [] 0 0 ls S hok hl
theorem d_X_exception_0 : decode b_X_exception 0 = .ok (.aload_n 1, 1) := by decide +kernel
theorem d_X_exception_1 : decode b_X_exception 1 = .ok (.iconst 0, 1) := by decide +kernel
theorem d_X_exception_2 : decode b_X_exception 2 = .ok (.aload_n 0, 1) := by decide +kernel
theorem d_X_exception_3 : decode b_X_exception 3 = .ok (.invokevirtual 35, 3) := by decide +kernel
theorem d_X_exception_6 : decode b_X_exception 6 = .ok (.i2l, 1) := by decide +kernel
theorem d_X_exception_7 : decode b_X_exception 7 = .ok (.lastore, 1) := by decide +kernel
theorem d_X_exception_8 : decode b_X_exception 8 = .ok (.goto 9, 3) := by decide +kernel
theorem d_X_exception_11 : decode b_X_exception 11 = .ok (.astore_n 2, 1) := by decide +kernel
theorem d_X_exception_12 : decode b_X_exception 12 = .ok (.iconst 1, 1) := by decide +kernel
theorem d_X_exception_13 : decode b_X_exception 13 = .ok (.ireturn, 1) := by decide +kernel
theorem d_X_exception_14 : decode b_X_exception 14 = .ok (.astore_n 2, 1) := by decide +kernel
theorem d_X_exception_15 : decode b_X_exception 15 = .ok (.iconst 2, 1) := by decide +kernel
theorem d_X_exception_16 : decode b_X_exception 16 = .ok (.ireturn, 1) := by decide +kernel
theorem d_X_exception_17 : decode b_X_exception 17 = .ok (.iconst 0, 1) := by decide +kernel
theorem d_X_exception_18 : decode b_X_exception 18 = .ok (.ireturn, 1) := by decide +kernel
def lay_X_exception (pc : Nat) : List Nat := if pc = 0 then [0, 1] else []
noncomputable def sg_X_exception_0 (v0 : Nat) (v1 : Nat) (w : hy_W) : Option hy_N := if hy_ob w v0 5 = true then hy_xi (f_H_exception [.ref v0] w) (fun x3 w1 => (hy_pa w1 1 v1 0 (.long ((x3 : Int32).toInt64))).bind fun w5 => some (.inr (.inl (some (.int 0)), w5))) (fun E6 w7 => if E6 = "java/lang/IllegalArgumentException" then (some (.inr (.inl (some (.int 1)), w7))) else (if E6 = "java/lang/IllegalStateException" then (some (.inr (.inl (some (.int 2)), w7))) else none)) else none
noncomputable def nx_X_exception (q : hy_P) : Option hy_N := match q with
  | (0, [.ref v0, .ref v1], w) => sg_X_exception_0 v0 v1 w
  | _ => none
noncomputable def f_X_exception (av : List Value) (w : hy_W) : Option hy_O := hy_fx nx_X_exception (0, av, w)
set_option maxHeartbeats 4000000 in
set_option maxRecDepth 100000 in
theorem sk_X_exception_0 {p : Program} {l : Launch} {e : Env} {s : State} {m : MethodId} {args : Array Value} {below : List Frame} {meth : Method} {c : Code} {G : hy_G} {A : Nat → Prop} {ad0 : Nat → Nat} {w0 : hy_W} {o : hy_O} (hl9 : l.flags = flags0) (hA : hy_A G ad0 w0 s.heap.size = A) (B : hy_B p l e (hy_rm 9 192 w0) s m args below meth c "HyphenPatternsLaw" b_X_exception 3 (some .int) [(0, 8, 11, 19), (0, 8, 14, 21)] G A) (v0 : Nat) (v1 : Nat) (w : hy_W) (nx : hy_N) (h : sg_X_exception_0 v0 v1 w = some nx) (K : hy_Nx lay_X_exception p l e (hy_rm 9 192 w0) s m args below meth c 3 G A ad0 w0.1.length (hy_Q below G ad0 w0 o args s) o nx) : hy_At lay_X_exception p l e (hy_rm 9 192 w0) s m args below meth c 3 G A ad0 w0.1.length (hy_Q below G ad0 w0 o args s) (0, [.ref v0, .ref v1], w) := by
  intro ad H locs cells slots ls S hok hl
  have hx := B.1
  have hb := B.2.1
  dsimp only at S hok
  have hl : lv_has ls 3 [(0, .ref (ad v0)), (1, .ref (ad v1))] := hl
  show W p l e (hy_rm 9 192 w0) s m args below meth c H locs cells slots (hy_Q below G ad0 w0 o args s) (F0 m 0 ls [])
  have hv_v0 : v0 < w.1.length := hok (.ref v0) (List.mem_of_getElem? (i := 0) rfl) v0 rfl
  obtain ⟨a_v0, ha_v0⟩ : ∃ a, ad v0 = a := ⟨_, rfl⟩
  rw [ha_v0] at hl
  have hv_v1 : v1 < w.1.length := hok (.ref v1) (List.mem_of_getElem? (i := 1) rfl) v1 rfl
  obtain ⟨a_v1, ha_v1⟩ : ∃ a, ad v1 = a := ⟨_, rfl⟩
  rw [ha_v1] at hl
  unfold sg_X_exception_0 at h
  refine lv_aload_n hx hb d_X_exception_0 rfl (lv_at hl 1 rfl) ?_
  refine lv_iconst (v := 0) hx hb d_X_exception_1 (by decide) ?_
  refine lv_aload_n hx hb d_X_exception_2 rfl (lv_at hl 0 rfl) ?_
  obtain ⟨ob4, h⟩ := hy_if h
  obtain ⟨fs_ob4, hf_ob4, hg_ob4⟩ := hy_ob_spec ob4
  rcases hy_xi_spec h with ⟨x3, w1, hq_w1, h⟩ | ⟨E6, w7, hq_w7, h⟩
  · refine hy_calli (hy_runV (rest := [.int 0, .ref a_v1]) (As := []) (r := v0) (b := a_v0) B S rfl ha_v0 (by rfl) (c_H_exception hl9 G ad hq_w1) (hy_okr (by omega) hy_ok0) tw_602 tw_1 tw_599 tw_600 sl_H_exception (by decide) rfl (Nat.le_of_ble_eq_true rfl) (Nat.le_of_ble_eq_true rfl) hf_ob4 hg_ob4 rfl hl.1 (Nat.le_of_ble_eq_true rfl) d_X_exception_3) (fun ad2 H locs cells slots hag hl_w1 S => ?_)
    have ha_v0 : ad2 v0 = a_v0 := (hag v0 (by omega)).trans ha_v0
    have ha_v1 : ad2 v1 = a_v1 := (hag v1 (by omega)).trans ha_v1
    refine lv_i2l (v := (x3 : Int32).toInt64) hx hb d_X_exception_6 rfl ?_
    obtain ⟨w5, hw5, h⟩ := hy_bd h
    refine hy_last B S ha_v1 hw5 d_X_exception_7 (fun H locs S hl_w5 => ?_)
    refine lv_goto (tgt := 17) hx hb d_X_exception_8 (by decide) ?_
    refine lv_iconst (v := 0) hx hb d_X_exception_17 (by decide) ?_
    cases h
    cases K
    exact hy_iret hA B S d_X_exception_18
  · by_cases c11 : E6 = "java/lang/IllegalArgumentException"
    · rw [if_pos c11] at h
      subst c11
      refine hy_callT (rest := [.int 0, .ref a_v1]) (As := []) (r := v0) (b := a_v0) B S rfl ha_v0 (by rfl) (c_H_exception hl9 G ad hq_w7) (hy_okr (by omega) hy_ok0) tw_602 tw_1 tw_599 tw_600 sl_H_exception (by decide) rfl (Nat.le_of_ble_eq_true rfl) (Nat.le_of_ble_eq_true rfl) hf_ob4 hg_ob4 rfl hl.1 (Nat.le_of_ble_eq_true rfl) d_X_exception_3 (fun ad8 H locs cells slots q9 ce10 hag hl_w7 S z1 z2 z3 => ?_)
      have ha_v0 : ad8 v0 = a_v0 := (hag v0 (by omega)).trans ha_v0
      have ha_v1 : ad8 v1 = a_v1 := (hag v1 (by omega)).trans ha_v1
      refine hy_catch1 B (Nat.le_of_ble_eq_true rfl) (Nat.le_of_ble_eq_true rfl) (by decide) tw_386 (by decide +kernel) z1 z2 z3 ?_
      refine lv_astore_n (lv' := [(2, .ref q9), (0, .ref a_v0), (1, .ref a_v1)]) hx hb d_X_exception_11 rfl hl (Nat.le_of_ble_eq_true rfl) rfl (fun ls hl => ?_)
      refine lv_iconst (v := 1) hx hb d_X_exception_12 (by decide) ?_
      cases h
      cases K
      exact hy_iret hA B S d_X_exception_13
    rw [if_neg c11] at h
    by_cases c12 : E6 = "java/lang/IllegalStateException"
    · rw [if_pos c12] at h
      subst c12
      refine hy_callT (rest := [.int 0, .ref a_v1]) (As := []) (r := v0) (b := a_v0) B S rfl ha_v0 (by rfl) (c_H_exception hl9 G ad hq_w7) (hy_okr (by omega) hy_ok0) tw_602 tw_1 tw_599 tw_600 sl_H_exception (by decide) rfl (Nat.le_of_ble_eq_true rfl) (Nat.le_of_ble_eq_true rfl) hf_ob4 hg_ob4 rfl hl.1 (Nat.le_of_ble_eq_true rfl) d_X_exception_3 (fun ad8 H locs cells slots q9 ce10 hag hl_w7 S z1 z2 z3 => ?_)
      have ha_v0 : ad8 v0 = a_v0 := (hag v0 (by omega)).trans ha_v0
      have ha_v1 : ad8 v1 = a_v1 := (hag v1 (by omega)).trans ha_v1
      refine hy_catch2 B (Nat.le_of_ble_eq_true rfl) (Nat.le_of_ble_eq_true rfl) (by decide) tw_386 B.2.2.2.2.2.2.2.2.2.1.2.2.2.2.1 (Nat.le_of_ble_eq_true rfl) (Nat.le_of_ble_eq_true rfl) (by decide) tw_387 (by decide +kernel) z1 z2 z3 ?_
      refine lv_astore_n (lv' := [(2, .ref q9), (0, .ref a_v0), (1, .ref a_v1)]) hx hb d_X_exception_14 rfl hl (Nat.le_of_ble_eq_true rfl) rfl (fun ls hl => ?_)
      refine lv_iconst (v := 2) hx hb d_X_exception_15 (by decide) ?_
      cases h
      cases K
      exact hy_iret hA B S d_X_exception_16
    rw [if_neg c12] at h
    cases h
theorem nk_X_exception {p : Program} {l : Launch} {e : Env} {s : State} {m : MethodId} {args : Array Value} {below : List Frame} {meth : Method} {c : Code} {G : hy_G} {A : Nat → Prop} {ad0 : Nat → Nat} {w0 : hy_W} {o : hy_O} (hl9 : l.flags = flags0) (hA : hy_A G ad0 w0 s.heap.size = A) (B : hy_B p l e (hy_rm 9 192 w0) s m args below meth c "HyphenPatternsLaw" b_X_exception 3 (some .int) [(0, 8, 11, 19), (0, 8, 14, 21)] G A) (q : hy_P) (nx : hy_N) (hq : nx_X_exception q = some nx) (K : hy_Nx lay_X_exception p l e (hy_rm 9 192 w0) s m args below meth c 3 G A ad0 w0.1.length (hy_Q below G ad0 w0 o args s) o nx) : hy_At lay_X_exception p l e (hy_rm 9 192 w0) s m args below meth c 3 G A ad0 w0.1.length (hy_Q below G ad0 w0 o args s) q := by
  unfold nx_X_exception at hq
  split at hq
  · exact sk_X_exception_0 hl9 hA B _ _ _ nx hq K
  · cases hq
theorem c_X_exception {l : Launch} (hl9 : l.flags = flags0) (G : hy_G) (ad : Nat → Nat) {v0 : Nat} {v1 : Nat} {w : hy_W} {o : hy_O} (h : f_X_exception [.ref v0, .ref v1] w = some o) : hy_M l y_X_exception (Cond.codeWith y_X_exception b_X_exception 3 (some .int) [(0, 8, 11, 19), (0, 8, 14, 21)] :: hy_T) 9 192 G ad [.ref v0, .ref v1] w o := by
  obtain ⟨n, hn⟩ := hy_fx_iff.mp h
  refine hy_ofWW hl9 (by decide +kernel) (Nat.le_of_ble_eq_true rfl) (fun p e s m args below meth c A hA B S hok ls hl => ?_)
  exact hy_loop (nk_X_exception hl9 hA B) n _ hn ad s.heap [] 0 0 ls S hok hl
theorem d_H_add_0 : decode b_H_add 0 = .ok (.aload_n 0, 1) := by decide +kernel
theorem d_H_add_1 : decode b_H_add 1 = .ok (.getfield 24, 3) := by decide +kernel
theorem d_H_add_4 : decode b_H_add 4 = .ok (.iload_n 1, 1) := by decide +kernel
theorem d_H_add_5 : decode b_H_add 5 = .ok (.iload_n 2, 1) := by decide +kernel
theorem d_H_add_6 : decode b_H_add 6 = .ok (.iload_n 3, 1) := by decide +kernel
theorem d_H_add_7 : decode b_H_add 7 = .ok (.iload 4, 2) := by decide +kernel
theorem d_H_add_9 : decode b_H_add 9 = .ok (.iload 5, 2) := by decide +kernel
theorem d_H_add_11 : decode b_H_add 11 = .ok (.invokevirtual 85, 3) := by decide +kernel
theorem d_H_add_14 : decode b_H_add 14 = .ok (.ireturn, 1) := by decide +kernel
def lay_H_add (pc : Nat) : List Nat := if pc = 0 then [0, 1, 2, 3, 4, 5] else []
noncomputable def sg_H_add_0 (v0 : Nat) (v1 : Int32) (v2 : Int32) (v3 : Int32) (v4 : Int32) (v5 : Int32) (w : hy_W) : Option hy_N := (hy_gr w v0 5 2).bind fun r1 => if hy_ob w r1 2 = true then hy_xi (f_N_append [.ref r1, .int v1, .int v2, .int v3, .int v4, .int v5] w) (fun x4 w2 => some (.inr (.inl (some (.int x4)), w2))) (fun E6 w7 => some (.inr (.inr E6, w7))) else none
noncomputable def nx_H_add (q : hy_P) : Option hy_N := match q with
  | (0, [.ref v0, .int v1, .int v2, .int v3, .int v4, .int v5], w) => sg_H_add_0 v0 v1 v2 v3 v4 v5 w
  | _ => none
noncomputable def f_H_add (av : List Value) (w : hy_W) : Option hy_O := hy_fx nx_H_add (0, av, w)
set_option maxHeartbeats 4000000 in
set_option maxRecDepth 100000 in
theorem sk_H_add_0 {p : Program} {l : Launch} {e : Env} {s : State} {m : MethodId} {args : Array Value} {below : List Frame} {meth : Method} {c : Code} {G : hy_G} {A : Nat → Prop} {ad0 : Nat → Nat} {w0 : hy_W} {o : hy_O} (hl9 : l.flags = flags0) (hA : hy_A G ad0 w0 s.heap.size = A) (B : hy_B p l e (hy_rm 7 109 w0) s m args below meth c "HyphenPatterns" b_H_add 6 (some .int) [] G A) (v0 : Nat) (v1 : Int32) (v2 : Int32) (v3 : Int32) (v4 : Int32) (v5 : Int32) (w : hy_W) (nx : hy_N) (h : sg_H_add_0 v0 v1 v2 v3 v4 v5 w = some nx) (K : hy_Nx lay_H_add p l e (hy_rm 7 109 w0) s m args below meth c 6 G A ad0 w0.1.length (hy_Q below G ad0 w0 o args s) o nx) : hy_At lay_H_add p l e (hy_rm 7 109 w0) s m args below meth c 6 G A ad0 w0.1.length (hy_Q below G ad0 w0 o args s) (0, [.ref v0, .int v1, .int v2, .int v3, .int v4, .int v5], w) := by
  intro ad H locs cells slots ls S hok hl
  have hx := B.1
  have hb := B.2.1
  dsimp only at S hok
  have hl : lv_has ls 6 [(0, .ref (ad v0)), (1, .int v1), (2, .int v2), (3, .int v3), (4, .int v4), (5, .int v5)] := hl
  show W p l e (hy_rm 7 109 w0) s m args below meth c H locs cells slots (hy_Q below G ad0 w0 o args s) (F0 m 0 ls [])
  have hv_v0 : v0 < w.1.length := hok (.ref v0) (List.mem_of_getElem? (i := 0) rfl) v0 rfl
  obtain ⟨a_v0, ha_v0⟩ : ∃ a, ad v0 = a := ⟨_, rfl⟩
  rw [ha_v0] at hl
  unfold sg_H_add_0 at h
  refine lv_aload_n hx hb d_H_add_0 rfl (lv_at hl 0 rfl) ?_
  obtain ⟨r1, hr1, h⟩ := hy_bd h
  refine hy_getr B S ha_v0 hr1 rfl (Nat.le_of_ble_eq_true rfl) i_5 (j := 2) tw_165 (fun _ h => h) d_H_add_1 (fun a_r1 ha_r1 hv_r1 => ?_)
  refine lv_iload_n hx hb d_H_add_4 rfl (lv_at hl 1 rfl) ?_
  refine lv_iload_n hx hb d_H_add_5 rfl (lv_at hl 2 rfl) ?_
  refine lv_iload_n hx hb d_H_add_6 rfl (lv_at hl 3 rfl) ?_
  refine lv_iload hx hb d_H_add_7 (lv_at hl 4 rfl) ?_
  refine lv_iload hx hb d_H_add_9 (lv_at hl 5 rfl) ?_
  obtain ⟨ob5, h⟩ := hy_if h
  obtain ⟨fs_ob5, hf_ob5, hg_ob5⟩ := hy_ob_spec ob5
  rcases hy_xi_spec h with ⟨x4, w2, hq_w2, h⟩ | ⟨E6, w7, hq_w7, h⟩
  · refine hy_calli (hy_runV (rest := []) (As := [.int v1, .int v2, .int v3, .int v4, .int v5]) (r := r1) (b := a_r1) B S rfl ha_r1 (by rfl) (c_N_append hl9 G ad hq_w2) (hy_okr (by omega) (hy_oki (hy_oki (hy_oki (hy_oki (hy_oki hy_ok0)))))) tw_451 tw_2 tw_448 tw_449 sl_N_append (by decide) rfl (Nat.le_of_ble_eq_true rfl) (Nat.le_of_ble_eq_true rfl) hf_ob5 hg_ob5 rfl hl.1 (Nat.le_of_ble_eq_true rfl) d_H_add_11) (fun ad3 H locs cells slots hag hl_w2 S => ?_)
    have ha_v0 : ad3 v0 = a_v0 := (hag v0 (by omega)).trans ha_v0
    cases h
    cases K
    exact hy_iret hA B S d_H_add_14
  · cases h
    cases K
    refine hy_callT (rest := []) (As := [.int v1, .int v2, .int v3, .int v4, .int v5]) (r := r1) (b := a_r1) B S rfl ha_r1 (by rfl) (c_N_append hl9 G ad hq_w7) (hy_okr (by omega) (hy_oki (hy_oki (hy_oki (hy_oki (hy_oki hy_ok0)))))) tw_451 tw_2 tw_448 tw_449 sl_N_append (by decide) rfl (Nat.le_of_ble_eq_true rfl) (Nat.le_of_ble_eq_true rfl) hf_ob5 hg_ob5 rfl hl.1 (Nat.le_of_ble_eq_true rfl) d_H_add_11 (fun ad8 H locs cells slots q9 ce10 hag hl_w7 S z1 z2 z3 => ?_)
    exact hy_out hA B S z1 z2 z3
theorem nk_H_add {p : Program} {l : Launch} {e : Env} {s : State} {m : MethodId} {args : Array Value} {below : List Frame} {meth : Method} {c : Code} {G : hy_G} {A : Nat → Prop} {ad0 : Nat → Nat} {w0 : hy_W} {o : hy_O} (hl9 : l.flags = flags0) (hA : hy_A G ad0 w0 s.heap.size = A) (B : hy_B p l e (hy_rm 7 109 w0) s m args below meth c "HyphenPatterns" b_H_add 6 (some .int) [] G A) (q : hy_P) (nx : hy_N) (hq : nx_H_add q = some nx) (K : hy_Nx lay_H_add p l e (hy_rm 7 109 w0) s m args below meth c 6 G A ad0 w0.1.length (hy_Q below G ad0 w0 o args s) o nx) : hy_At lay_H_add p l e (hy_rm 7 109 w0) s m args below meth c 6 G A ad0 w0.1.length (hy_Q below G ad0 w0 o args s) q := by
  unfold nx_H_add at hq
  split at hq
  · exact sk_H_add_0 hl9 hA B _ _ _ _ _ _ _ nx hq K
  · cases hq
theorem c_H_add {l : Launch} (hl9 : l.flags = flags0) (G : hy_G) (ad : Nat → Nat) {v0 : Nat} {v1 : Int32} {v2 : Int32} {v3 : Int32} {v4 : Int32} {v5 : Int32} {w : hy_W} {o : hy_O} (h : f_H_add [.ref v0, .int v1, .int v2, .int v3, .int v4, .int v5] w = some o) : hy_M l y_H_add (Cond.code y_H_add b_H_add 6 (some .int) :: hy_T) 7 109 G ad [.ref v0, .int v1, .int v2, .int v3, .int v4, .int v5] w o := by
  obtain ⟨n, hn⟩ := hy_fx_iff.mp h
  refine hy_ofW hl9 (by decide +kernel) (Nat.le_of_ble_eq_true rfl) (fun p e s m args below meth c A hA hi B S hok ls hl => ?_)
  exact hy_loop (nk_H_add hl9 hA B) n _ hn ad s.heap [] 0 0 ls S hok hl
theorem d_X_add_0 : decode b_X_add 0 = .ok (.aload 6, 2) := by decide +kernel
theorem d_X_add_2 : decode b_X_add 2 = .ok (.iconst 0, 1) := by decide +kernel
theorem d_X_add_3 : decode b_X_add 3 = .ok (.aload_n 0, 1) := by decide +kernel
theorem d_X_add_4 : decode b_X_add 4 = .ok (.iload_n 1, 1) := by decide +kernel
theorem d_X_add_5 : decode b_X_add 5 = .ok (.iload_n 2, 1) := by decide +kernel
theorem d_X_add_6 : decode b_X_add 6 = .ok (.iload_n 3, 1) := by decide +kernel
theorem d_X_add_7 : decode b_X_add 7 = .ok (.iload 4, 2) := by decide +kernel
theorem d_X_add_9 : decode b_X_add 9 = .ok (.iload 5, 2) := by decide +kernel
theorem d_X_add_11 : decode b_X_add 11 = .ok (.invokevirtual 38, 3) := by decide +kernel
theorem d_X_add_14 : decode b_X_add 14 = .ok (.i2l, 1) := by decide +kernel
theorem d_X_add_15 : decode b_X_add 15 = .ok (.lastore, 1) := by decide +kernel
theorem d_X_add_16 : decode b_X_add 16 = .ok (.goto 11, 3) := by decide +kernel
theorem d_X_add_19 : decode b_X_add 19 = .ok (.astore 7, 2) := by decide +kernel
theorem d_X_add_21 : decode b_X_add 21 = .ok (.iconst 1, 1) := by decide +kernel
theorem d_X_add_22 : decode b_X_add 22 = .ok (.ireturn, 1) := by decide +kernel
theorem d_X_add_23 : decode b_X_add 23 = .ok (.astore 7, 2) := by decide +kernel
theorem d_X_add_25 : decode b_X_add 25 = .ok (.iconst 2, 1) := by decide +kernel
theorem d_X_add_26 : decode b_X_add 26 = .ok (.ireturn, 1) := by decide +kernel
theorem d_X_add_27 : decode b_X_add 27 = .ok (.iconst 0, 1) := by decide +kernel
theorem d_X_add_28 : decode b_X_add 28 = .ok (.ireturn, 1) := by decide +kernel
def lay_X_add (pc : Nat) : List Nat := if pc = 0 then [0, 1, 2, 3, 4, 5, 6] else []
noncomputable def sg_X_add_0 (v0 : Nat) (v1 : Int32) (v2 : Int32) (v3 : Int32) (v4 : Int32) (v5 : Int32) (v6 : Nat) (w : hy_W) : Option hy_N := if hy_ob w v0 5 = true then hy_xi (f_H_add [.ref v0, .int v1, .int v2, .int v3, .int v4, .int v5] w) (fun x3 w1 => (hy_pa w1 1 v6 0 (.long ((x3 : Int32).toInt64))).bind fun w5 => some (.inr (.inl (some (.int 0)), w5))) (fun E6 w7 => if E6 = "java/lang/IllegalArgumentException" then (some (.inr (.inl (some (.int 1)), w7))) else (if E6 = "java/lang/IllegalStateException" then (some (.inr (.inl (some (.int 2)), w7))) else none)) else none
noncomputable def nx_X_add (q : hy_P) : Option hy_N := match q with
  | (0, [.ref v0, .int v1, .int v2, .int v3, .int v4, .int v5, .ref v6], w) => sg_X_add_0 v0 v1 v2 v3 v4 v5 v6 w
  | _ => none
noncomputable def f_X_add (av : List Value) (w : hy_W) : Option hy_O := hy_fx nx_X_add (0, av, w)
set_option maxHeartbeats 4000000 in
set_option maxRecDepth 100000 in
theorem sk_X_add_0 {p : Program} {l : Launch} {e : Env} {s : State} {m : MethodId} {args : Array Value} {below : List Frame} {meth : Method} {c : Code} {G : hy_G} {A : Nat → Prop} {ad0 : Nat → Nat} {w0 : hy_W} {o : hy_O} (hl9 : l.flags = flags0) (hA : hy_A G ad0 w0 s.heap.size = A) (B : hy_B p l e (hy_rm 8 134 w0) s m args below meth c "HyphenPatternsLaw" b_X_add 8 (some .int) [(0, 16, 19, 19), (0, 16, 23, 21)] G A) (v0 : Nat) (v1 : Int32) (v2 : Int32) (v3 : Int32) (v4 : Int32) (v5 : Int32) (v6 : Nat) (w : hy_W) (nx : hy_N) (h : sg_X_add_0 v0 v1 v2 v3 v4 v5 v6 w = some nx) (K : hy_Nx lay_X_add p l e (hy_rm 8 134 w0) s m args below meth c 8 G A ad0 w0.1.length (hy_Q below G ad0 w0 o args s) o nx) : hy_At lay_X_add p l e (hy_rm 8 134 w0) s m args below meth c 8 G A ad0 w0.1.length (hy_Q below G ad0 w0 o args s) (0, [.ref v0, .int v1, .int v2, .int v3, .int v4, .int v5, .ref v6], w) := by
  intro ad H locs cells slots ls S hok hl
  have hx := B.1
  have hb := B.2.1
  dsimp only at S hok
  have hl : lv_has ls 8 [(0, .ref (ad v0)), (1, .int v1), (2, .int v2), (3, .int v3), (4, .int v4), (5, .int v5), (6, .ref (ad v6))] := hl
  show W p l e (hy_rm 8 134 w0) s m args below meth c H locs cells slots (hy_Q below G ad0 w0 o args s) (F0 m 0 ls [])
  have hv_v0 : v0 < w.1.length := hok (.ref v0) (List.mem_of_getElem? (i := 0) rfl) v0 rfl
  obtain ⟨a_v0, ha_v0⟩ : ∃ a, ad v0 = a := ⟨_, rfl⟩
  rw [ha_v0] at hl
  have hv_v6 : v6 < w.1.length := hok (.ref v6) (List.mem_of_getElem? (i := 6) rfl) v6 rfl
  obtain ⟨a_v6, ha_v6⟩ : ∃ a, ad v6 = a := ⟨_, rfl⟩
  rw [ha_v6] at hl
  unfold sg_X_add_0 at h
  refine lv_aload hx hb d_X_add_0 (lv_at hl 6 rfl) ?_
  refine lv_iconst (v := 0) hx hb d_X_add_2 (by decide) ?_
  refine lv_aload_n hx hb d_X_add_3 rfl (lv_at hl 0 rfl) ?_
  refine lv_iload_n hx hb d_X_add_4 rfl (lv_at hl 1 rfl) ?_
  refine lv_iload_n hx hb d_X_add_5 rfl (lv_at hl 2 rfl) ?_
  refine lv_iload_n hx hb d_X_add_6 rfl (lv_at hl 3 rfl) ?_
  refine lv_iload hx hb d_X_add_7 (lv_at hl 4 rfl) ?_
  refine lv_iload hx hb d_X_add_9 (lv_at hl 5 rfl) ?_
  obtain ⟨ob4, h⟩ := hy_if h
  obtain ⟨fs_ob4, hf_ob4, hg_ob4⟩ := hy_ob_spec ob4
  rcases hy_xi_spec h with ⟨x3, w1, hq_w1, h⟩ | ⟨E6, w7, hq_w7, h⟩
  · refine hy_calli (hy_runV (rest := [.int 0, .ref a_v6]) (As := [.int v1, .int v2, .int v3, .int v4, .int v5]) (r := v0) (b := a_v0) B S rfl ha_v0 (by rfl) (c_H_add hl9 G ad hq_w1) (hy_okr (by omega) (hy_oki (hy_oki (hy_oki (hy_oki (hy_oki hy_ok0)))))) tw_618 tw_1 tw_615 tw_616 sl_H_add (by decide) rfl (Nat.le_of_ble_eq_true rfl) (Nat.le_of_ble_eq_true rfl) hf_ob4 hg_ob4 rfl hl.1 (Nat.le_of_ble_eq_true rfl) d_X_add_11) (fun ad2 H locs cells slots hag hl_w1 S => ?_)
    have ha_v0 : ad2 v0 = a_v0 := (hag v0 (by omega)).trans ha_v0
    have ha_v6 : ad2 v6 = a_v6 := (hag v6 (by omega)).trans ha_v6
    refine lv_i2l (v := (x3 : Int32).toInt64) hx hb d_X_add_14 rfl ?_
    obtain ⟨w5, hw5, h⟩ := hy_bd h
    refine hy_last B S ha_v6 hw5 d_X_add_15 (fun H locs S hl_w5 => ?_)
    refine lv_goto (tgt := 27) hx hb d_X_add_16 (by decide) ?_
    refine lv_iconst (v := 0) hx hb d_X_add_27 (by decide) ?_
    cases h
    cases K
    exact hy_iret hA B S d_X_add_28
  · by_cases c11 : E6 = "java/lang/IllegalArgumentException"
    · rw [if_pos c11] at h
      subst c11
      refine hy_callT (rest := [.int 0, .ref a_v6]) (As := [.int v1, .int v2, .int v3, .int v4, .int v5]) (r := v0) (b := a_v0) B S rfl ha_v0 (by rfl) (c_H_add hl9 G ad hq_w7) (hy_okr (by omega) (hy_oki (hy_oki (hy_oki (hy_oki (hy_oki hy_ok0)))))) tw_618 tw_1 tw_615 tw_616 sl_H_add (by decide) rfl (Nat.le_of_ble_eq_true rfl) (Nat.le_of_ble_eq_true rfl) hf_ob4 hg_ob4 rfl hl.1 (Nat.le_of_ble_eq_true rfl) d_X_add_11 (fun ad8 H locs cells slots q9 ce10 hag hl_w7 S z1 z2 z3 => ?_)
      have ha_v0 : ad8 v0 = a_v0 := (hag v0 (by omega)).trans ha_v0
      have ha_v6 : ad8 v6 = a_v6 := (hag v6 (by omega)).trans ha_v6
      refine hy_catch1 B (Nat.le_of_ble_eq_true rfl) (Nat.le_of_ble_eq_true rfl) (by decide) tw_386 (by decide +kernel) z1 z2 z3 ?_
      refine lv_astore (lv' := [(7, .ref q9), (0, .ref a_v0), (1, .int v1), (2, .int v2), (3, .int v3), (4, .int v4), (5, .int v5), (6, .ref a_v6)]) hx hb d_X_add_19 hl (Nat.le_of_ble_eq_true rfl) rfl (fun ls hl => ?_)
      refine lv_iconst (v := 1) hx hb d_X_add_21 (by decide) ?_
      cases h
      cases K
      exact hy_iret hA B S d_X_add_22
    rw [if_neg c11] at h
    by_cases c12 : E6 = "java/lang/IllegalStateException"
    · rw [if_pos c12] at h
      subst c12
      refine hy_callT (rest := [.int 0, .ref a_v6]) (As := [.int v1, .int v2, .int v3, .int v4, .int v5]) (r := v0) (b := a_v0) B S rfl ha_v0 (by rfl) (c_H_add hl9 G ad hq_w7) (hy_okr (by omega) (hy_oki (hy_oki (hy_oki (hy_oki (hy_oki hy_ok0)))))) tw_618 tw_1 tw_615 tw_616 sl_H_add (by decide) rfl (Nat.le_of_ble_eq_true rfl) (Nat.le_of_ble_eq_true rfl) hf_ob4 hg_ob4 rfl hl.1 (Nat.le_of_ble_eq_true rfl) d_X_add_11 (fun ad8 H locs cells slots q9 ce10 hag hl_w7 S z1 z2 z3 => ?_)
      have ha_v0 : ad8 v0 = a_v0 := (hag v0 (by omega)).trans ha_v0
      have ha_v6 : ad8 v6 = a_v6 := (hag v6 (by omega)).trans ha_v6
      refine hy_catch2 B (Nat.le_of_ble_eq_true rfl) (Nat.le_of_ble_eq_true rfl) (by decide) tw_386 B.2.2.2.2.2.2.2.2.2.1.2.2.2.2.1 (Nat.le_of_ble_eq_true rfl) (Nat.le_of_ble_eq_true rfl) (by decide) tw_387 (by decide +kernel) z1 z2 z3 ?_
      refine lv_astore (lv' := [(7, .ref q9), (0, .ref a_v0), (1, .int v1), (2, .int v2), (3, .int v3), (4, .int v4), (5, .int v5), (6, .ref a_v6)]) hx hb d_X_add_23 hl (Nat.le_of_ble_eq_true rfl) rfl (fun ls hl => ?_)
      refine lv_iconst (v := 2) hx hb d_X_add_25 (by decide) ?_
      cases h
      cases K
      exact hy_iret hA B S d_X_add_26
    rw [if_neg c12] at h
    cases h
theorem nk_X_add {p : Program} {l : Launch} {e : Env} {s : State} {m : MethodId} {args : Array Value} {below : List Frame} {meth : Method} {c : Code} {G : hy_G} {A : Nat → Prop} {ad0 : Nat → Nat} {w0 : hy_W} {o : hy_O} (hl9 : l.flags = flags0) (hA : hy_A G ad0 w0 s.heap.size = A) (B : hy_B p l e (hy_rm 8 134 w0) s m args below meth c "HyphenPatternsLaw" b_X_add 8 (some .int) [(0, 16, 19, 19), (0, 16, 23, 21)] G A) (q : hy_P) (nx : hy_N) (hq : nx_X_add q = some nx) (K : hy_Nx lay_X_add p l e (hy_rm 8 134 w0) s m args below meth c 8 G A ad0 w0.1.length (hy_Q below G ad0 w0 o args s) o nx) : hy_At lay_X_add p l e (hy_rm 8 134 w0) s m args below meth c 8 G A ad0 w0.1.length (hy_Q below G ad0 w0 o args s) q := by
  unfold nx_X_add at hq
  split at hq
  · exact sk_X_add_0 hl9 hA B _ _ _ _ _ _ _ _ nx hq K
  · cases hq
theorem c_X_add {l : Launch} (hl9 : l.flags = flags0) (G : hy_G) (ad : Nat → Nat) {v0 : Nat} {v1 : Int32} {v2 : Int32} {v3 : Int32} {v4 : Int32} {v5 : Int32} {v6 : Nat} {w : hy_W} {o : hy_O} (h : f_X_add [.ref v0, .int v1, .int v2, .int v3, .int v4, .int v5, .ref v6] w = some o) : hy_M l y_X_add (Cond.codeWith y_X_add b_X_add 8 (some .int) [(0, 16, 19, 19), (0, 16, 23, 21)] :: hy_T) 8 134 G ad [.ref v0, .int v1, .int v2, .int v3, .int v4, .int v5, .ref v6] w o := by
  obtain ⟨n, hn⟩ := hy_fx_iff.mp h
  refine hy_ofWW hl9 (by decide +kernel) (Nat.le_of_ble_eq_true rfl) (fun p e s m args below meth c A hA B S hok ls hl => ?_)
  exact hy_loop (nk_X_add hl9 hA B) n _ hn ad s.heap [] 0 0 ls S hok hl
theorem d_H_isWithinWord_0 : decode b_H_isWithinWord 0 = .ok (.aload_n 0, 1) := by decide +kernel
theorem d_H_isWithinWord_1 : decode b_H_isWithinWord 1 = .ok (.iload_n 1, 1) := by decide +kernel
theorem d_H_isWithinWord_2 : decode b_H_isWithinWord 2 = .ok (.iconst 1, 1) := by decide +kernel
theorem d_H_isWithinWord_3 : decode b_H_isWithinWord 3 = .ok (.isub, 1) := by decide +kernel
theorem d_H_isWithinWord_4 : decode b_H_isWithinWord 4 = .ok (.invokevirtual 206, 3) := by decide +kernel
theorem d_H_isWithinWord_7 : decode b_H_isWithinWord 7 = .ok (.ifCond .eq 15, 3) := by decide +kernel
theorem d_H_isWithinWord_10 : decode b_H_isWithinWord 10 = .ok (.aload_n 0, 1) := by decide +kernel
theorem d_H_isWithinWord_11 : decode b_H_isWithinWord 11 = .ok (.iload_n 1, 1) := by decide +kernel
theorem d_H_isWithinWord_12 : decode b_H_isWithinWord 12 = .ok (.invokevirtual 206, 3) := by decide +kernel
theorem d_H_isWithinWord_15 : decode b_H_isWithinWord 15 = .ok (.ifCond .eq 7, 3) := by decide +kernel
theorem d_H_isWithinWord_18 : decode b_H_isWithinWord 18 = .ok (.iconst 1, 1) := by decide +kernel
theorem d_H_isWithinWord_19 : decode b_H_isWithinWord 19 = .ok (.goto 4, 3) := by decide +kernel
theorem d_H_isWithinWord_22 : decode b_H_isWithinWord 22 = .ok (.iconst 0, 1) := by decide +kernel
theorem d_H_isWithinWord_23 : decode b_H_isWithinWord 23 = .ok (.ireturn, 1) := by decide +kernel
def lay_H_isWithinWord (pc : Nat) : List Nat := if pc = 0 then [0, 1] else if pc = 22 then [] else []
noncomputable def sg_H_isWithinWord_0 (v0 : Nat) (v1 : Int32) (w : hy_W) : Option hy_N := if hy_ob w v0 5 = true then hy_bi (f_H_isLetterAt [.ref v0, .int (v1 - 1)] w) fun x3 w1 => if x3 = 0 then (some (.inl (22, [], w1))) else (if hy_ob w1 v0 5 = true then hy_bi (f_H_isLetterAt [.ref v0, .int v1] w1) fun x8 w6 => if x8 = 0 then (some (.inl (22, [], w6))) else (some (.inr (.inl (some (.int 1)), w6))) else none) else none
noncomputable def sg_H_isWithinWord_22  (w : hy_W) : Option hy_N := some (.inr (.inl (some (.int 0)), w))
noncomputable def nx_H_isWithinWord (q : hy_P) : Option hy_N := match q with
  | (0, [.ref v0, .int v1], w) => sg_H_isWithinWord_0 v0 v1 w
  | (22, [], w) => sg_H_isWithinWord_22  w
  | _ => none
noncomputable def f_H_isWithinWord (av : List Value) (w : hy_W) : Option hy_O := hy_fx nx_H_isWithinWord (0, av, w)
set_option maxHeartbeats 4000000 in
set_option maxRecDepth 100000 in
theorem sk_H_isWithinWord_0 {p : Program} {l : Launch} {e : Env} {s : State} {m : MethodId} {args : Array Value} {below : List Frame} {meth : Method} {c : Code} {G : hy_G} {A : Nat → Prop} {ad0 : Nat → Nat} {w0 : hy_W} {o : hy_O} (hl9 : l.flags = flags0) (hA : hy_A G ad0 w0 s.heap.size = A) (B : hy_B p l e (hy_rm 2 43 w0) s m args below meth c "HyphenPatterns" b_H_isWithinWord 2 (some .boolean) [] G A) (v0 : Nat) (v1 : Int32) (w : hy_W) (nx : hy_N) (h : sg_H_isWithinWord_0 v0 v1 w = some nx) (K : hy_Nx lay_H_isWithinWord p l e (hy_rm 2 43 w0) s m args below meth c 2 G A ad0 w0.1.length (hy_Q below G ad0 w0 o args s) o nx) : hy_At lay_H_isWithinWord p l e (hy_rm 2 43 w0) s m args below meth c 2 G A ad0 w0.1.length (hy_Q below G ad0 w0 o args s) (0, [.ref v0, .int v1], w) := by
  intro ad H locs cells slots ls S hok hl
  have hx := B.1
  have hb := B.2.1
  dsimp only at S hok
  have hl : lv_has ls 2 [(0, .ref (ad v0)), (1, .int v1)] := hl
  show W p l e (hy_rm 2 43 w0) s m args below meth c H locs cells slots (hy_Q below G ad0 w0 o args s) (F0 m 0 ls [])
  have hv_v0 : v0 < w.1.length := hok (.ref v0) (List.mem_of_getElem? (i := 0) rfl) v0 rfl
  obtain ⟨a_v0, ha_v0⟩ : ∃ a, ad v0 = a := ⟨_, rfl⟩
  rw [ha_v0] at hl
  unfold sg_H_isWithinWord_0 at h
  refine lv_aload_n hx hb d_H_isWithinWord_0 rfl (lv_at hl 0 rfl) ?_
  refine lv_iload_n hx hb d_H_isWithinWord_1 rfl (lv_at hl 1 rfl) ?_
  refine lv_iconst (v := 1) hx hb d_H_isWithinWord_2 (by decide) ?_
  refine lv_isub hx hb d_H_isWithinWord_3 ?_
  obtain ⟨ob4, h⟩ := hy_if h
  obtain ⟨fs_ob4, hf_ob4, hg_ob4⟩ := hy_ob_spec ob4
  obtain ⟨x3, w1, hq_w1, h⟩ := hy_bi_spec h
  refine hy_calli (hy_runV (rest := []) (As := [.int (v1 - 1)]) (r := v0) (b := a_v0) B S rfl ha_v0 (by rfl) (c_H_isLetterAt hl9 G ad hq_w1) (hy_okr (by omega) (hy_oki hy_ok0)) tw_217 tw_1 tw_214 tw_216 sl_H_isLetterAt (by decide) rfl (Nat.le_of_ble_eq_true rfl) (Nat.le_of_ble_eq_true rfl) hf_ob4 hg_ob4 rfl hl.1 (Nat.le_of_ble_eq_true rfl) d_H_isWithinWord_4) (fun ad2 H locs cells slots hag hl_w1 S => ?_)
  have ha_v0 : ad2 v0 = a_v0 := (hag v0 (by omega)).trans ha_v0
  refine lv_if_eq (tgt := 22) hx hb d_H_isWithinWord_7 (by decide) (fun c5 => ?_) (fun c5 => ?_)
  · rw [if_pos c5] at h
    cases h
    exact hy_jump K S hy_ok0 (lv_sub hl [] rfl) (by rfl) (by rfl)
  · rw [if_neg c5] at h
    refine lv_aload_n hx hb d_H_isWithinWord_10 rfl (lv_at hl 0 rfl) ?_
    refine lv_iload_n hx hb d_H_isWithinWord_11 rfl (lv_at hl 1 rfl) ?_
    obtain ⟨ob9, h⟩ := hy_if h
    obtain ⟨fs_ob9, hf_ob9, hg_ob9⟩ := hy_ob_spec ob9
    obtain ⟨x8, w6, hq_w6, h⟩ := hy_bi_spec h
    refine hy_calli (hy_runV (rest := []) (As := [.int v1]) (r := v0) (b := a_v0) B S rfl ha_v0 (by rfl) (c_H_isLetterAt hl9 G ad2 hq_w6) (hy_okr (by omega) (hy_oki hy_ok0)) tw_217 tw_1 tw_214 tw_216 sl_H_isLetterAt (by decide) rfl (Nat.le_of_ble_eq_true rfl) (Nat.le_of_ble_eq_true rfl) hf_ob9 hg_ob9 rfl hl.1 (Nat.le_of_ble_eq_true rfl) d_H_isWithinWord_12) (fun ad7 H locs cells slots hag hl_w6 S => ?_)
    have ha_v0 : ad7 v0 = a_v0 := (hag v0 (by omega)).trans ha_v0
    refine lv_if_eq (tgt := 22) hx hb d_H_isWithinWord_15 (by decide) (fun c10 => ?_) (fun c10 => ?_)
    · rw [if_pos c10] at h
      cases h
      exact hy_jump K S hy_ok0 (lv_sub hl [] rfl) (by rfl) (by rfl)
    · rw [if_neg c10] at h
      refine lv_iconst (v := 1) hx hb d_H_isWithinWord_18 (by decide) ?_
      refine lv_goto (tgt := 23) hx hb d_H_isWithinWord_19 (by decide) ?_
      cases h
      cases K
      exact hy_zret hA B S (by decide) d_H_isWithinWord_23
set_option maxHeartbeats 4000000 in
set_option maxRecDepth 100000 in
theorem sk_H_isWithinWord_22 {p : Program} {l : Launch} {e : Env} {s : State} {m : MethodId} {args : Array Value} {below : List Frame} {meth : Method} {c : Code} {G : hy_G} {A : Nat → Prop} {ad0 : Nat → Nat} {w0 : hy_W} {o : hy_O} (hl9 : l.flags = flags0) (hA : hy_A G ad0 w0 s.heap.size = A) (B : hy_B p l e (hy_rm 2 43 w0) s m args below meth c "HyphenPatterns" b_H_isWithinWord 2 (some .boolean) [] G A)  (w : hy_W) (nx : hy_N) (h : sg_H_isWithinWord_22  w = some nx) (K : hy_Nx lay_H_isWithinWord p l e (hy_rm 2 43 w0) s m args below meth c 2 G A ad0 w0.1.length (hy_Q below G ad0 w0 o args s) o nx) : hy_At lay_H_isWithinWord p l e (hy_rm 2 43 w0) s m args below meth c 2 G A ad0 w0.1.length (hy_Q below G ad0 w0 o args s) (22, [], w) := by
  intro ad H locs cells slots ls S hok hl
  have hx := B.1
  have hb := B.2.1
  dsimp only at S hok
  have hl : lv_has ls 2 [] := hl
  show W p l e (hy_rm 2 43 w0) s m args below meth c H locs cells slots (hy_Q below G ad0 w0 o args s) (F0 m 22 ls [])
  unfold sg_H_isWithinWord_22 at h
  refine lv_iconst (v := 0) hx hb d_H_isWithinWord_22 (by decide) ?_
  cases h
  cases K
  exact hy_zret hA B S (by decide) d_H_isWithinWord_23
theorem nk_H_isWithinWord {p : Program} {l : Launch} {e : Env} {s : State} {m : MethodId} {args : Array Value} {below : List Frame} {meth : Method} {c : Code} {G : hy_G} {A : Nat → Prop} {ad0 : Nat → Nat} {w0 : hy_W} {o : hy_O} (hl9 : l.flags = flags0) (hA : hy_A G ad0 w0 s.heap.size = A) (B : hy_B p l e (hy_rm 2 43 w0) s m args below meth c "HyphenPatterns" b_H_isWithinWord 2 (some .boolean) [] G A) (q : hy_P) (nx : hy_N) (hq : nx_H_isWithinWord q = some nx) (K : hy_Nx lay_H_isWithinWord p l e (hy_rm 2 43 w0) s m args below meth c 2 G A ad0 w0.1.length (hy_Q below G ad0 w0 o args s) o nx) : hy_At lay_H_isWithinWord p l e (hy_rm 2 43 w0) s m args below meth c 2 G A ad0 w0.1.length (hy_Q below G ad0 w0 o args s) q := by
  unfold nx_H_isWithinWord at hq
  split at hq
  · exact sk_H_isWithinWord_0 hl9 hA B _ _ _ nx hq K
  · exact sk_H_isWithinWord_22 hl9 hA B _ nx hq K
  · cases hq
theorem c_H_isWithinWord {l : Launch} (hl9 : l.flags = flags0) (G : hy_G) (ad : Nat → Nat) {v0 : Nat} {v1 : Int32} {w : hy_W} {o : hy_O} (h : f_H_isWithinWord [.ref v0, .int v1] w = some o) : hy_M l y_H_isWithinWord (Cond.code y_H_isWithinWord b_H_isWithinWord 2 (some .boolean) :: hy_T) 2 43 G ad [.ref v0, .int v1] w o := by
  obtain ⟨n, hn⟩ := hy_fx_iff.mp h
  refine hy_ofW hl9 (by decide +kernel) (Nat.le_of_ble_eq_true rfl) (fun p e s m args below meth c A hA hi B S hok ls hl => ?_)
  exact hy_loop (nk_H_isWithinWord hl9 hA B) n _ hn ad s.heap [] 0 0 ls S hok hl
theorem d_H_wordStart_0 : decode b_H_wordStart 0 = .ok (.iload_n 1, 1) := by decide +kernel
theorem d_H_wordStart_1 : decode b_H_wordStart 1 = .ok (.istore_n 2, 1) := by decide +kernel
theorem d_H_wordStart_2 : decode b_H_wordStart 2 = .ok (.iload_n 2, 1) := by decide +kernel
theorem d_H_wordStart_3 : decode b_H_wordStart 3 = .ok (.ifCond .le 19, 3) := by decide +kernel
theorem d_H_wordStart_6 : decode b_H_wordStart 6 = .ok (.aload_n 0, 1) := by decide +kernel
theorem d_H_wordStart_7 : decode b_H_wordStart 7 = .ok (.iload_n 2, 1) := by decide +kernel
theorem d_H_wordStart_8 : decode b_H_wordStart 8 = .ok (.iconst 1, 1) := by decide +kernel
theorem d_H_wordStart_9 : decode b_H_wordStart 9 = .ok (.isub, 1) := by decide +kernel
theorem d_H_wordStart_10 : decode b_H_wordStart 10 = .ok (.invokevirtual 206, 3) := by decide +kernel
theorem d_H_wordStart_13 : decode b_H_wordStart 13 = .ok (.ifCond .eq 9, 3) := by decide +kernel
theorem d_H_wordStart_16 : decode b_H_wordStart 16 = .ok (.iinc 2 (-1), 3) := by decide +kernel
theorem d_H_wordStart_19 : decode b_H_wordStart 19 = .ok (.goto (-17), 3) := by decide +kernel
theorem d_H_wordStart_22 : decode b_H_wordStart 22 = .ok (.iload_n 2, 1) := by decide +kernel
theorem d_H_wordStart_23 : decode b_H_wordStart 23 = .ok (.ireturn, 1) := by decide +kernel
def lay_H_wordStart (pc : Nat) : List Nat := if pc = 0 then [0, 1] else if pc = 2 then [0, 2] else []
noncomputable def sg_H_wordStart_0 (v0 : Nat) (v1 : Int32) (w : hy_W) : Option hy_N := some (.inl (2, [.ref v0, .int v1], w))
noncomputable def sg_H_wordStart_2 (v0 : Nat) (v2 : Int32) (w : hy_W) : Option hy_N := if v2 ≤ 0 then (some (.inr (.inl (some (.int v2)), w))) else (if hy_ob w v0 5 = true then hy_bi (f_H_isLetterAt [.ref v0, .int (v2 - 1)] w) fun x4 w2 => if x4 = 0 then (some (.inr (.inl (some (.int v2)), w2))) else (some (.inl (2, [.ref v0, .int (v2 + (-1))], w2))) else none)
noncomputable def nx_H_wordStart (q : hy_P) : Option hy_N := match q with
  | (0, [.ref v0, .int v1], w) => sg_H_wordStart_0 v0 v1 w
  | (2, [.ref v0, .int v2], w) => sg_H_wordStart_2 v0 v2 w
  | _ => none
noncomputable def f_H_wordStart (av : List Value) (w : hy_W) : Option hy_O := hy_fx nx_H_wordStart (0, av, w)
set_option maxHeartbeats 4000000 in
set_option maxRecDepth 100000 in
theorem sk_H_wordStart_0 {p : Program} {l : Launch} {e : Env} {s : State} {m : MethodId} {args : Array Value} {below : List Frame} {meth : Method} {c : Code} {G : hy_G} {A : Nat → Prop} {ad0 : Nat → Nat} {w0 : hy_W} {o : hy_O} (hl9 : l.flags = flags0) (hA : hy_A G ad0 w0 s.heap.size = A) (B : hy_B p l e (hy_rm 2 43 w0) s m args below meth c "HyphenPatterns" b_H_wordStart 3 (some .int) [] G A) (v0 : Nat) (v1 : Int32) (w : hy_W) (nx : hy_N) (h : sg_H_wordStart_0 v0 v1 w = some nx) (K : hy_Nx lay_H_wordStart p l e (hy_rm 2 43 w0) s m args below meth c 3 G A ad0 w0.1.length (hy_Q below G ad0 w0 o args s) o nx) : hy_At lay_H_wordStart p l e (hy_rm 2 43 w0) s m args below meth c 3 G A ad0 w0.1.length (hy_Q below G ad0 w0 o args s) (0, [.ref v0, .int v1], w) := by
  intro ad H locs cells slots ls S hok hl
  have hx := B.1
  have hb := B.2.1
  dsimp only at S hok
  have hl : lv_has ls 3 [(0, .ref (ad v0)), (1, .int v1)] := hl
  show W p l e (hy_rm 2 43 w0) s m args below meth c H locs cells slots (hy_Q below G ad0 w0 o args s) (F0 m 0 ls [])
  have hv_v0 : v0 < w.1.length := hok (.ref v0) (List.mem_of_getElem? (i := 0) rfl) v0 rfl
  obtain ⟨a_v0, ha_v0⟩ : ∃ a, ad v0 = a := ⟨_, rfl⟩
  rw [ha_v0] at hl
  unfold sg_H_wordStart_0 at h
  refine lv_iload_n hx hb d_H_wordStart_0 rfl (lv_at hl 1 rfl) ?_
  refine lv_istore_n (lv' := [(2, .int v1), (0, .ref a_v0), (1, .int v1)]) hx hb d_H_wordStart_1 rfl hl (Nat.le_of_ble_eq_true rfl) rfl (fun ls hl => ?_)
  cases h
  exact hy_jump K S (hy_okr (by omega) (hy_oki hy_ok0)) (lv_sub hl [1, 0] rfl) (by subst ha_v0; rfl) (by subst ha_v0; rfl)
set_option maxHeartbeats 4000000 in
set_option maxRecDepth 100000 in
theorem sk_H_wordStart_2 {p : Program} {l : Launch} {e : Env} {s : State} {m : MethodId} {args : Array Value} {below : List Frame} {meth : Method} {c : Code} {G : hy_G} {A : Nat → Prop} {ad0 : Nat → Nat} {w0 : hy_W} {o : hy_O} (hl9 : l.flags = flags0) (hA : hy_A G ad0 w0 s.heap.size = A) (B : hy_B p l e (hy_rm 2 43 w0) s m args below meth c "HyphenPatterns" b_H_wordStart 3 (some .int) [] G A) (v0 : Nat) (v2 : Int32) (w : hy_W) (nx : hy_N) (h : sg_H_wordStart_2 v0 v2 w = some nx) (K : hy_Nx lay_H_wordStart p l e (hy_rm 2 43 w0) s m args below meth c 3 G A ad0 w0.1.length (hy_Q below G ad0 w0 o args s) o nx) : hy_At lay_H_wordStart p l e (hy_rm 2 43 w0) s m args below meth c 3 G A ad0 w0.1.length (hy_Q below G ad0 w0 o args s) (2, [.ref v0, .int v2], w) := by
  intro ad H locs cells slots ls S hok hl
  have hx := B.1
  have hb := B.2.1
  dsimp only at S hok
  have hl : lv_has ls 3 [(0, .ref (ad v0)), (2, .int v2)] := hl
  show W p l e (hy_rm 2 43 w0) s m args below meth c H locs cells slots (hy_Q below G ad0 w0 o args s) (F0 m 2 ls [])
  have hv_v0 : v0 < w.1.length := hok (.ref v0) (List.mem_of_getElem? (i := 0) rfl) v0 rfl
  obtain ⟨a_v0, ha_v0⟩ : ∃ a, ad v0 = a := ⟨_, rfl⟩
  rw [ha_v0] at hl
  unfold sg_H_wordStart_2 at h
  refine lv_iload_n hx hb d_H_wordStart_2 rfl (lv_at hl 1 rfl) ?_
  refine lv_if_le (tgt := 22) hx hb d_H_wordStart_3 (by decide) (fun c1 => ?_) (fun c1 => ?_)
  · rw [if_pos c1] at h
    refine lv_iload_n hx hb d_H_wordStart_22 rfl (lv_at hl 1 rfl) ?_
    cases h
    cases K
    exact hy_iret hA B S d_H_wordStart_23
  · rw [if_neg c1] at h
    refine lv_aload_n hx hb d_H_wordStart_6 rfl (lv_at hl 0 rfl) ?_
    refine lv_iload_n hx hb d_H_wordStart_7 rfl (lv_at hl 1 rfl) ?_
    refine lv_iconst (v := 1) hx hb d_H_wordStart_8 (by decide) ?_
    refine lv_isub hx hb d_H_wordStart_9 ?_
    obtain ⟨ob5, h⟩ := hy_if h
    obtain ⟨fs_ob5, hf_ob5, hg_ob5⟩ := hy_ob_spec ob5
    obtain ⟨x4, w2, hq_w2, h⟩ := hy_bi_spec h
    refine hy_calli (hy_runV (rest := []) (As := [.int (v2 - 1)]) (r := v0) (b := a_v0) B S rfl ha_v0 (by rfl) (c_H_isLetterAt hl9 G ad hq_w2) (hy_okr (by omega) (hy_oki hy_ok0)) tw_217 tw_1 tw_214 tw_216 sl_H_isLetterAt (by decide) rfl (Nat.le_of_ble_eq_true rfl) (Nat.le_of_ble_eq_true rfl) hf_ob5 hg_ob5 rfl hl.1 (Nat.le_of_ble_eq_true rfl) d_H_wordStart_10) (fun ad3 H locs cells slots hag hl_w2 S => ?_)
    have ha_v0 : ad3 v0 = a_v0 := (hag v0 (by omega)).trans ha_v0
    refine lv_if_eq (tgt := 22) hx hb d_H_wordStart_13 (by decide) (fun c6 => ?_) (fun c6 => ?_)
    · rw [if_pos c6] at h
      refine lv_iload_n hx hb d_H_wordStart_22 rfl (lv_at hl 1 rfl) ?_
      cases h
      cases K
      exact hy_iret hA B S d_H_wordStart_23
    · rw [if_neg c6] at h
      refine lv_iinc (v := (v2 + (-1))) (lv' := [(2, .int (v2 + (-1))), (0, .ref a_v0)]) hx hb d_H_wordStart_16 hl (k := 1) rfl rfl (Nat.le_of_ble_eq_true rfl) rfl (fun ls hl => ?_)
      refine lv_goto (tgt := 2) hx hb d_H_wordStart_19 (by decide) ?_
      cases h
      exact hy_jump K S (hy_okr (by omega) (hy_oki hy_ok0)) (lv_sub hl [1, 0] rfl) (by subst ha_v0; rfl) (by subst ha_v0; rfl)
theorem nk_H_wordStart {p : Program} {l : Launch} {e : Env} {s : State} {m : MethodId} {args : Array Value} {below : List Frame} {meth : Method} {c : Code} {G : hy_G} {A : Nat → Prop} {ad0 : Nat → Nat} {w0 : hy_W} {o : hy_O} (hl9 : l.flags = flags0) (hA : hy_A G ad0 w0 s.heap.size = A) (B : hy_B p l e (hy_rm 2 43 w0) s m args below meth c "HyphenPatterns" b_H_wordStart 3 (some .int) [] G A) (q : hy_P) (nx : hy_N) (hq : nx_H_wordStart q = some nx) (K : hy_Nx lay_H_wordStart p l e (hy_rm 2 43 w0) s m args below meth c 3 G A ad0 w0.1.length (hy_Q below G ad0 w0 o args s) o nx) : hy_At lay_H_wordStart p l e (hy_rm 2 43 w0) s m args below meth c 3 G A ad0 w0.1.length (hy_Q below G ad0 w0 o args s) q := by
  unfold nx_H_wordStart at hq
  split at hq
  · exact sk_H_wordStart_0 hl9 hA B _ _ _ nx hq K
  · exact sk_H_wordStart_2 hl9 hA B _ _ _ nx hq K
  · cases hq
theorem c_H_wordStart {l : Launch} (hl9 : l.flags = flags0) (G : hy_G) (ad : Nat → Nat) {v0 : Nat} {v1 : Int32} {w : hy_W} {o : hy_O} (h : f_H_wordStart [.ref v0, .int v1] w = some o) : hy_M l y_H_wordStart (Cond.code y_H_wordStart b_H_wordStart 3 (some .int) :: hy_T) 2 43 G ad [.ref v0, .int v1] w o := by
  obtain ⟨n, hn⟩ := hy_fx_iff.mp h
  refine hy_ofW hl9 (by decide +kernel) (Nat.le_of_ble_eq_true rfl) (fun p e s m args below meth c A hA hi B S hok ls hl => ?_)
  exact hy_loop (nk_H_wordStart hl9 hA B) n _ hn ad s.heap [] 0 0 ls S hok hl
theorem d_H_value_0 : decode b_H_value 0 = .ok (.iload_n 1, 1) := by decide +kernel
theorem d_H_value_1 : decode b_H_value 1 = .ok (.ifCond .lt 14, 3) := by decide +kernel
theorem d_H_value_4 : decode b_H_value 4 = .ok (.iload_n 1, 1) := by decide +kernel
theorem d_H_value_5 : decode b_H_value 5 = .ok (.aload_n 0, 1) := by decide +kernel
theorem d_H_value_6 : decode b_H_value 6 = .ok (.getfield 24, 3) := by decide +kernel
theorem d_H_value_9 : decode b_H_value 9 = .ok (.getfield 129, 3) := by decide +kernel
theorem d_H_value_12 : decode b_H_value 12 = .ok (.if_icmp .le 13, 3) := by decide +kernel
theorem d_H_value_15 : decode b_H_value 15 = .ok (.new 46, 3) := by decide +kernel
theorem d_H_value_18 : decode b_H_value 18 = .ok (.dup, 1) := by decide +kernel
theorem d_H_value_19 : decode b_H_value 19 = .ok (.ldc 131, 2) := by decide +kernel
theorem d_H_value_21 : decode b_H_value 21 = .ok (.invokespecial 50, 3) := by decide +kernel
theorem d_H_value_24 : decode b_H_value 24 = .ok (.athrow, 1) := by decide +kernel
theorem d_H_value_25 : decode b_H_value 25 = .ok (.aload_n 0, 1) := by decide +kernel
theorem d_H_value_26 : decode b_H_value 26 = .ok (.iload_n 1, 1) := by decide +kernel
theorem d_H_value_27 : decode b_H_value 27 = .ok (.invokevirtual 133, 3) := by decide +kernel
theorem d_H_value_30 : decode b_H_value 30 = .ok (.ifCond .ne 5, 3) := by decide +kernel
theorem d_H_value_33 : decode b_H_value 33 = .ok (.iconst 0, 1) := by decide +kernel
theorem d_H_value_34 : decode b_H_value 34 = .ok (.ireturn, 1) := by decide +kernel
theorem d_H_value_35 : decode b_H_value 35 = .ok (.aload_n 0, 1) := by decide +kernel
theorem d_H_value_36 : decode b_H_value 36 = .ok (.aload_n 0, 1) := by decide +kernel
theorem d_H_value_37 : decode b_H_value 37 = .ok (.iload_n 1, 1) := by decide +kernel
theorem d_H_value_38 : decode b_H_value 38 = .ok (.invokevirtual 136, 3) := by decide +kernel
theorem d_H_value_41 : decode b_H_value 41 = .ok (.invokevirtual 140, 3) := by decide +kernel
theorem d_H_value_44 : decode b_H_value 44 = .ok (.aload_n 0, 1) := by decide +kernel
theorem d_H_value_45 : decode b_H_value 45 = .ok (.getfield 37, 3) := by decide +kernel
theorem d_H_value_48 : decode b_H_value 48 = .ok (.iload_n 1, 1) := by decide +kernel
theorem d_H_value_49 : decode b_H_value 49 = .ok (.invokevirtual 144, 3) := by decide +kernel
theorem d_H_value_52 : decode b_H_value 52 = .ok (.ireturn, 1) := by decide +kernel
def lay_H_value (pc : Nat) : List Nat := if pc = 0 then [0, 1] else []
noncomputable def sg_H_value_0 (v0 : Nat) (v1 : Int32) (w : hy_W) : Option hy_N := if v1 < 0 then ((hy_th w).bind fun w2 => some (.inr (.inr "java/lang/IndexOutOfBoundsException", w2))) else ((hy_gr w v0 5 2).bind fun r3 => (hy_gi w r3 2 3).bind fun x4 => if v1 ≤ x4 then (if hy_ob w v0 5 = true then hy_bi (f_H_isWithinWord [.ref v0, .int v1] w) fun x8 w6 => if x8 = 0 then (some (.inr (.inl (some (.int 0)), w6))) else (if hy_ob w6 v0 5 = true then hy_bi (f_H_wordStart [.ref v0, .int v1] w6) fun x13 w11 => if hy_ob w11 v0 5 = true then hy_bv (f_H_readWord [.ref v0, .int x13] w11) fun w15 => (hy_gr w15 v0 5 4).bind fun r19 => if hy_ob w15 r19 3 = true then hy_bi (f_G_weightAt [.ref r19, .int v1] w15) fun x22 w20 => some (.inr (.inl (some (.int x22)), w20)) else none else none else none) else none) else ((hy_th w).bind fun w24 => some (.inr (.inr "java/lang/IndexOutOfBoundsException", w24))))
noncomputable def nx_H_value (q : hy_P) : Option hy_N := match q with
  | (0, [.ref v0, .int v1], w) => sg_H_value_0 v0 v1 w
  | _ => none
noncomputable def f_H_value (av : List Value) (w : hy_W) : Option hy_O := hy_fx nx_H_value (0, av, w)
set_option maxHeartbeats 4000000 in
set_option maxRecDepth 100000 in
theorem sk_H_value_0 {p : Program} {l : Launch} {e : Env} {s : State} {m : MethodId} {args : Array Value} {below : List Frame} {meth : Method} {c : Code} {G : hy_G} {A : Nat → Prop} {ad0 : Nat → Nat} {w0 : hy_W} {o : hy_O} (hl9 : l.flags = flags0) (hA : hy_A G ad0 w0 s.heap.size = A) (B : hy_B p l e (hy_rm 6 133 w0) s m args below meth c "HyphenPatterns" b_H_value 2 (some .int) [] G A) (v0 : Nat) (v1 : Int32) (w : hy_W) (nx : hy_N) (h : sg_H_value_0 v0 v1 w = some nx) (K : hy_Nx lay_H_value p l e (hy_rm 6 133 w0) s m args below meth c 2 G A ad0 w0.1.length (hy_Q below G ad0 w0 o args s) o nx) : hy_At lay_H_value p l e (hy_rm 6 133 w0) s m args below meth c 2 G A ad0 w0.1.length (hy_Q below G ad0 w0 o args s) (0, [.ref v0, .int v1], w) := by
  intro ad H locs cells slots ls S hok hl
  have hx := B.1
  have hb := B.2.1
  dsimp only at S hok
  have hl : lv_has ls 2 [(0, .ref (ad v0)), (1, .int v1)] := hl
  show W p l e (hy_rm 6 133 w0) s m args below meth c H locs cells slots (hy_Q below G ad0 w0 o args s) (F0 m 0 ls [])
  have hv_v0 : v0 < w.1.length := hok (.ref v0) (List.mem_of_getElem? (i := 0) rfl) v0 rfl
  obtain ⟨a_v0, ha_v0⟩ : ∃ a, ad v0 = a := ⟨_, rfl⟩
  rw [ha_v0] at hl
  unfold sg_H_value_0 at h
  refine lv_iload_n hx hb d_H_value_0 rfl (lv_at hl 1 rfl) ?_
  refine lv_if_lt (tgt := 15) hx hb d_H_value_1 (by decide) (fun c1 => ?_) (fun c1 => ?_)
  · rw [if_pos c1] at h
    obtain ⟨w2, hw2, h⟩ := hy_bd h
    cases h
    cases K
    exact hy_throw (text := "there is no such place") (names := ["java/lang/RuntimeException", "java/lang/Exception"]) hA B S hw2 (by decide +kernel) (by decide +kernel) tw_315 tw_13 (by decide +kernel) at_H_IO hl.1 d_H_value_15 d_H_value_18 d_H_value_19 d_H_value_21 d_H_value_24 (Nat.le_of_ble_eq_true rfl) (Nat.le_of_ble_eq_true rfl)
  · rw [if_neg c1] at h
    refine lv_iload_n hx hb d_H_value_4 rfl (lv_at hl 1 rfl) ?_
    refine lv_aload_n hx hb d_H_value_5 rfl (lv_at hl 0 rfl) ?_
    obtain ⟨r3, hr3, h⟩ := hy_bd h
    refine hy_getr B S ha_v0 hr3 rfl (Nat.le_of_ble_eq_true rfl) i_5 (j := 2) tw_165 (fun _ h => h) d_H_value_6 (fun a_r3 ha_r3 hv_r3 => ?_)
    obtain ⟨x4, hx4, h⟩ := hy_bd h
    refine hy_geti B S ha_r3 hx4 rfl (Nat.le_of_ble_eq_true rfl) i_2 (j := 3) tw_46 (fun _ h => h) d_H_value_9 ?_
    refine lv_icmp_le (tgt := 25) hx hb d_H_value_12 (by decide) (fun c5 => ?_) (fun c5 => ?_)
    · rw [if_pos c5] at h
      refine lv_aload_n hx hb d_H_value_25 rfl (lv_at hl 0 rfl) ?_
      refine lv_iload_n hx hb d_H_value_26 rfl (lv_at hl 1 rfl) ?_
      obtain ⟨ob9, h⟩ := hy_if h
      obtain ⟨fs_ob9, hf_ob9, hg_ob9⟩ := hy_ob_spec ob9
      obtain ⟨x8, w6, hq_w6, h⟩ := hy_bi_spec h
      refine hy_calli (hy_runV (rest := []) (As := [.int v1]) (r := v0) (b := a_v0) B S rfl ha_v0 (by rfl) (c_H_isWithinWord hl9 G ad hq_w6) (hy_okr (by omega) (hy_oki hy_ok0)) tw_630 tw_1 tw_627 tw_629 sl_H_isWithinWord (by decide) rfl (Nat.le_of_ble_eq_true rfl) (Nat.le_of_ble_eq_true rfl) hf_ob9 hg_ob9 rfl hl.1 (Nat.le_of_ble_eq_true rfl) d_H_value_27) (fun ad7 H locs cells slots hag hl_w6 S => ?_)
      have ha_v0 : ad7 v0 = a_v0 := (hag v0 (by omega)).trans ha_v0
      refine lv_if_ne (tgt := 35) hx hb d_H_value_30 (by decide) (fun c10 => ?_) (fun c10 => ?_)
      · rw [if_neg c10] at h
        refine lv_aload_n hx hb d_H_value_35 rfl (lv_at hl 0 rfl) ?_
        refine lv_aload_n hx hb d_H_value_36 rfl (lv_at hl 0 rfl) ?_
        refine lv_iload_n hx hb d_H_value_37 rfl (lv_at hl 1 rfl) ?_
        obtain ⟨ob14, h⟩ := hy_if h
        obtain ⟨fs_ob14, hf_ob14, hg_ob14⟩ := hy_ob_spec ob14
        obtain ⟨x13, w11, hq_w11, h⟩ := hy_bi_spec h
        refine hy_calli (hy_runV (rest := [.ref a_v0]) (As := [.int v1]) (r := v0) (b := a_v0) B S rfl ha_v0 (by rfl) (c_H_wordStart hl9 G ad7 hq_w11) (hy_okr (by omega) (hy_oki hy_ok0)) tw_634 tw_1 tw_631 tw_633 sl_H_wordStart (by decide) rfl (Nat.le_of_ble_eq_true rfl) (Nat.le_of_ble_eq_true rfl) hf_ob14 hg_ob14 rfl hl.1 (Nat.le_of_ble_eq_true rfl) d_H_value_38) (fun ad12 H locs cells slots hag hl_w11 S => ?_)
        have ha_v0 : ad12 v0 = a_v0 := (hag v0 (by omega)).trans ha_v0
        obtain ⟨ob18, h⟩ := hy_if h
        obtain ⟨fs_ob18, hf_ob18, hg_ob18⟩ := hy_ob_spec ob18
        obtain ⟨w15, hq_w15, h⟩ := hy_bv_spec h
        refine hy_callv (hy_runV (rest := []) (As := [.int x13]) (r := v0) (b := a_v0) B S rfl ha_v0 (by rfl) (c_H_readWord hl9 G ad12 hq_w15) (hy_okr (by omega) (hy_oki hy_ok0)) tw_241 tw_1 tw_238 tw_240 sl_H_readWord (by decide) rfl (Nat.le_of_ble_eq_true rfl) (Nat.le_of_ble_eq_true rfl) hf_ob18 hg_ob18 rfl hl.1 (Nat.le_of_ble_eq_true rfl) d_H_value_41) (fun ad16 H locs cells slots hag hl_w15 S => ?_)
        have ha_v0 : ad16 v0 = a_v0 := (hag v0 (by omega)).trans ha_v0
        refine lv_aload_n hx hb d_H_value_44 rfl (lv_at hl 0 rfl) ?_
        obtain ⟨r19, hr19, h⟩ := hy_bd h
        refine hy_getr B S ha_v0 hr19 rfl (Nat.le_of_ble_eq_true rfl) i_5 (j := 4) tw_167 (fun _ h => h) d_H_value_45 (fun a_r19 ha_r19 hv_r19 => ?_)
        refine lv_iload_n hx hb d_H_value_48 rfl (lv_at hl 1 rfl) ?_
        obtain ⟨ob23, h⟩ := hy_if h
        obtain ⟨fs_ob23, hf_ob23, hg_ob23⟩ := hy_ob_spec ob23
        obtain ⟨x22, w20, hq_w20, h⟩ := hy_bi_spec h
        refine hy_calli (hy_runV (rest := []) (As := [.int v1]) (r := r19) (b := a_r19) B S rfl ha_r19 (by rfl) (c_G_weightAt hl9 G ad16 hq_w20) (hy_okr (by omega) (hy_oki hy_ok0)) tw_302 tw_4 tw_635 tw_300 sl_G_weightAt (by decide) rfl (Nat.le_of_ble_eq_true rfl) (Nat.le_of_ble_eq_true rfl) hf_ob23 hg_ob23 rfl hl.1 (Nat.le_of_ble_eq_true rfl) d_H_value_49) (fun ad21 H locs cells slots hag hl_w20 S => ?_)
        have ha_v0 : ad21 v0 = a_v0 := (hag v0 (by omega)).trans ha_v0
        cases h
        cases K
        exact hy_iret hA B S d_H_value_52
      · rw [if_pos c10] at h
        refine lv_iconst (v := 0) hx hb d_H_value_33 (by decide) ?_
        cases h
        cases K
        exact hy_iret hA B S d_H_value_34
    · rw [if_neg c5] at h
      obtain ⟨w24, hw24, h⟩ := hy_bd h
      cases h
      cases K
      exact hy_throw (text := "there is no such place") (names := ["java/lang/RuntimeException", "java/lang/Exception"]) hA B S hw24 (by decide +kernel) (by decide +kernel) tw_315 tw_13 (by decide +kernel) at_H_IO hl.1 d_H_value_15 d_H_value_18 d_H_value_19 d_H_value_21 d_H_value_24 (Nat.le_of_ble_eq_true rfl) (Nat.le_of_ble_eq_true rfl)
theorem nk_H_value {p : Program} {l : Launch} {e : Env} {s : State} {m : MethodId} {args : Array Value} {below : List Frame} {meth : Method} {c : Code} {G : hy_G} {A : Nat → Prop} {ad0 : Nat → Nat} {w0 : hy_W} {o : hy_O} (hl9 : l.flags = flags0) (hA : hy_A G ad0 w0 s.heap.size = A) (B : hy_B p l e (hy_rm 6 133 w0) s m args below meth c "HyphenPatterns" b_H_value 2 (some .int) [] G A) (q : hy_P) (nx : hy_N) (hq : nx_H_value q = some nx) (K : hy_Nx lay_H_value p l e (hy_rm 6 133 w0) s m args below meth c 2 G A ad0 w0.1.length (hy_Q below G ad0 w0 o args s) o nx) : hy_At lay_H_value p l e (hy_rm 6 133 w0) s m args below meth c 2 G A ad0 w0.1.length (hy_Q below G ad0 w0 o args s) q := by
  unfold nx_H_value at hq
  split at hq
  · exact sk_H_value_0 hl9 hA B _ _ _ nx hq K
  · cases hq
theorem c_H_value {l : Launch} (hl9 : l.flags = flags0) (G : hy_G) (ad : Nat → Nat) {v0 : Nat} {v1 : Int32} {w : hy_W} {o : hy_O} (h : f_H_value [.ref v0, .int v1] w = some o) : hy_M l y_H_value (Cond.code y_H_value b_H_value 2 (some .int) :: hy_T) 6 133 G ad [.ref v0, .int v1] w o := by
  obtain ⟨n, hn⟩ := hy_fx_iff.mp h
  refine hy_ofW hl9 (by decide +kernel) (Nat.le_of_ble_eq_true rfl) (fun p e s m args below meth c A hA hi B S hok ls hl => ?_)
  exact hy_loop (nk_H_value hl9 hA B) n _ hn ad s.heap [] 0 0 ls S hok hl
theorem d_X_value_0 : decode b_X_value 0 = .ok (.aload_n 2, 1) := by decide +kernel
theorem d_X_value_1 : decode b_X_value 1 = .ok (.iconst 0, 1) := by decide +kernel
theorem d_X_value_2 : decode b_X_value 2 = .ok (.aload_n 0, 1) := by decide +kernel
theorem d_X_value_3 : decode b_X_value 3 = .ok (.iload_n 1, 1) := by decide +kernel
theorem d_X_value_4 : decode b_X_value 4 = .ok (.invokevirtual 41, 3) := by decide +kernel
theorem d_X_value_7 : decode b_X_value 7 = .ok (.i2l, 1) := by decide +kernel
theorem d_X_value_8 : decode b_X_value 8 = .ok (.lastore, 1) := by decide +kernel
theorem d_X_value_9 : decode b_X_value 9 = .ok (.goto 6, 3) := by decide +kernel
theorem d_X_value_12 : decode b_X_value 12 = .ok (.astore_n 3, 1) := by decide +kernel
theorem d_X_value_13 : decode b_X_value 13 = .ok (.iconst 1, 1) := by decide +kernel
theorem d_X_value_14 : decode b_X_value 14 = .ok (.ireturn, 1) := by decide +kernel
theorem d_X_value_15 : decode b_X_value 15 = .ok (.iconst 0, 1) := by decide +kernel
theorem d_X_value_16 : decode b_X_value 16 = .ok (.ireturn, 1) := by decide +kernel
def lay_X_value (pc : Nat) : List Nat := if pc = 0 then [0, 1, 2] else []
noncomputable def sg_X_value_0 (v0 : Nat) (v1 : Int32) (v2 : Nat) (w : hy_W) : Option hy_N := if hy_ob w v0 5 = true then hy_xi (f_H_value [.ref v0, .int v1] w) (fun x3 w1 => (hy_pa w1 1 v2 0 (.long ((x3 : Int32).toInt64))).bind fun w5 => some (.inr (.inl (some (.int 0)), w5))) (fun E6 w7 => if E6 = "java/lang/IndexOutOfBoundsException" then (some (.inr (.inl (some (.int 1)), w7))) else none) else none
noncomputable def nx_X_value (q : hy_P) : Option hy_N := match q with
  | (0, [.ref v0, .int v1, .ref v2], w) => sg_X_value_0 v0 v1 v2 w
  | _ => none
noncomputable def f_X_value (av : List Value) (w : hy_W) : Option hy_O := hy_fx nx_X_value (0, av, w)
set_option maxHeartbeats 4000000 in
set_option maxRecDepth 100000 in
theorem sk_X_value_0 {p : Program} {l : Launch} {e : Env} {s : State} {m : MethodId} {args : Array Value} {below : List Frame} {meth : Method} {c : Code} {G : hy_G} {A : Nat → Prop} {ad0 : Nat → Nat} {w0 : hy_W} {o : hy_O} (hl9 : l.flags = flags0) (hA : hy_A G ad0 w0 s.heap.size = A) (B : hy_B p l e (hy_rm 7 154 w0) s m args below meth c "HyphenPatternsLaw" b_X_value 4 (some .int) [(0, 9, 12, 13)] G A) (v0 : Nat) (v1 : Int32) (v2 : Nat) (w : hy_W) (nx : hy_N) (h : sg_X_value_0 v0 v1 v2 w = some nx) (K : hy_Nx lay_X_value p l e (hy_rm 7 154 w0) s m args below meth c 4 G A ad0 w0.1.length (hy_Q below G ad0 w0 o args s) o nx) : hy_At lay_X_value p l e (hy_rm 7 154 w0) s m args below meth c 4 G A ad0 w0.1.length (hy_Q below G ad0 w0 o args s) (0, [.ref v0, .int v1, .ref v2], w) := by
  intro ad H locs cells slots ls S hok hl
  have hx := B.1
  have hb := B.2.1
  dsimp only at S hok
  have hl : lv_has ls 4 [(0, .ref (ad v0)), (1, .int v1), (2, .ref (ad v2))] := hl
  show W p l e (hy_rm 7 154 w0) s m args below meth c H locs cells slots (hy_Q below G ad0 w0 o args s) (F0 m 0 ls [])
  have hv_v0 : v0 < w.1.length := hok (.ref v0) (List.mem_of_getElem? (i := 0) rfl) v0 rfl
  obtain ⟨a_v0, ha_v0⟩ : ∃ a, ad v0 = a := ⟨_, rfl⟩
  rw [ha_v0] at hl
  have hv_v2 : v2 < w.1.length := hok (.ref v2) (List.mem_of_getElem? (i := 2) rfl) v2 rfl
  obtain ⟨a_v2, ha_v2⟩ : ∃ a, ad v2 = a := ⟨_, rfl⟩
  rw [ha_v2] at hl
  unfold sg_X_value_0 at h
  refine lv_aload_n hx hb d_X_value_0 rfl (lv_at hl 2 rfl) ?_
  refine lv_iconst (v := 0) hx hb d_X_value_1 (by decide) ?_
  refine lv_aload_n hx hb d_X_value_2 rfl (lv_at hl 0 rfl) ?_
  refine lv_iload_n hx hb d_X_value_3 rfl (lv_at hl 1 rfl) ?_
  obtain ⟨ob4, h⟩ := hy_if h
  obtain ⟨fs_ob4, hf_ob4, hg_ob4⟩ := hy_ob_spec ob4
  rcases hy_xi_spec h with ⟨x3, w1, hq_w1, h⟩ | ⟨E6, w7, hq_w7, h⟩
  · refine hy_calli (hy_runV (rest := [.int 0, .ref a_v2]) (As := [.int v1]) (r := v0) (b := a_v0) B S rfl ha_v0 (by rfl) (c_H_value hl9 G ad hq_w1) (hy_okr (by omega) (hy_oki hy_ok0)) tw_625 tw_1 tw_622 tw_623 sl_H_value (by decide) rfl (Nat.le_of_ble_eq_true rfl) (Nat.le_of_ble_eq_true rfl) hf_ob4 hg_ob4 rfl hl.1 (Nat.le_of_ble_eq_true rfl) d_X_value_4) (fun ad2 H locs cells slots hag hl_w1 S => ?_)
    have ha_v0 : ad2 v0 = a_v0 := (hag v0 (by omega)).trans ha_v0
    have ha_v2 : ad2 v2 = a_v2 := (hag v2 (by omega)).trans ha_v2
    refine lv_i2l (v := (x3 : Int32).toInt64) hx hb d_X_value_7 rfl ?_
    obtain ⟨w5, hw5, h⟩ := hy_bd h
    refine hy_last B S ha_v2 hw5 d_X_value_8 (fun H locs S hl_w5 => ?_)
    refine lv_goto (tgt := 15) hx hb d_X_value_9 (by decide) ?_
    refine lv_iconst (v := 0) hx hb d_X_value_15 (by decide) ?_
    cases h
    cases K
    exact hy_iret hA B S d_X_value_16
  · by_cases c11 : E6 = "java/lang/IndexOutOfBoundsException"
    · rw [if_pos c11] at h
      subst c11
      refine hy_callT (rest := [.int 0, .ref a_v2]) (As := [.int v1]) (r := v0) (b := a_v0) B S rfl ha_v0 (by rfl) (c_H_value hl9 G ad hq_w7) (hy_okr (by omega) (hy_oki hy_ok0)) tw_625 tw_1 tw_622 tw_623 sl_H_value (by decide) rfl (Nat.le_of_ble_eq_true rfl) (Nat.le_of_ble_eq_true rfl) hf_ob4 hg_ob4 rfl hl.1 (Nat.le_of_ble_eq_true rfl) d_X_value_4 (fun ad8 H locs cells slots q9 ce10 hag hl_w7 S z1 z2 z3 => ?_)
      have ha_v0 : ad8 v0 = a_v0 := (hag v0 (by omega)).trans ha_v0
      have ha_v2 : ad8 v2 = a_v2 := (hag v2 (by omega)).trans ha_v2
      refine hy_catch1 B (Nat.le_of_ble_eq_true rfl) (Nat.le_of_ble_eq_true rfl) (by decide) tw_310 (by decide +kernel) z1 z2 z3 ?_
      refine lv_astore_n (lv' := [(3, .ref q9), (0, .ref a_v0), (1, .int v1), (2, .ref a_v2)]) hx hb d_X_value_12 rfl hl (Nat.le_of_ble_eq_true rfl) rfl (fun ls hl => ?_)
      refine lv_iconst (v := 1) hx hb d_X_value_13 (by decide) ?_
      cases h
      cases K
      exact hy_iret hA B S d_X_value_14
    rw [if_neg c11] at h
    cases h
theorem nk_X_value {p : Program} {l : Launch} {e : Env} {s : State} {m : MethodId} {args : Array Value} {below : List Frame} {meth : Method} {c : Code} {G : hy_G} {A : Nat → Prop} {ad0 : Nat → Nat} {w0 : hy_W} {o : hy_O} (hl9 : l.flags = flags0) (hA : hy_A G ad0 w0 s.heap.size = A) (B : hy_B p l e (hy_rm 7 154 w0) s m args below meth c "HyphenPatternsLaw" b_X_value 4 (some .int) [(0, 9, 12, 13)] G A) (q : hy_P) (nx : hy_N) (hq : nx_X_value q = some nx) (K : hy_Nx lay_X_value p l e (hy_rm 7 154 w0) s m args below meth c 4 G A ad0 w0.1.length (hy_Q below G ad0 w0 o args s) o nx) : hy_At lay_X_value p l e (hy_rm 7 154 w0) s m args below meth c 4 G A ad0 w0.1.length (hy_Q below G ad0 w0 o args s) q := by
  unfold nx_X_value at hq
  split at hq
  · exact sk_X_value_0 hl9 hA B _ _ _ _ nx hq K
  · cases hq
theorem c_X_value {l : Launch} (hl9 : l.flags = flags0) (G : hy_G) (ad : Nat → Nat) {v0 : Nat} {v1 : Int32} {v2 : Nat} {w : hy_W} {o : hy_O} (h : f_X_value [.ref v0, .int v1, .ref v2] w = some o) : hy_M l y_X_value (Cond.codeWith y_X_value b_X_value 4 (some .int) [(0, 9, 12, 13)] :: hy_T) 7 154 G ad [.ref v0, .int v1, .ref v2] w o := by
  obtain ⟨n, hn⟩ := hy_fx_iff.mp h
  refine hy_ofWW hl9 (by decide +kernel) (Nat.le_of_ble_eq_true rfl) (fun p e s m args below meth c A hA B S hok ls hl => ?_)
  exact hy_loop (nk_X_value hl9 hA B) n _ hn ad s.heap [] 0 0 ls S hok hl
theorem d_H_breaks_0 : decode b_H_breaks 0 = .ok (.iload_n 1, 1) := by decide +kernel
theorem d_H_breaks_1 : decode b_H_breaks 1 = .ok (.ifCond .lt 14, 3) := by decide +kernel
theorem d_H_breaks_4 : decode b_H_breaks 4 = .ok (.iload_n 1, 1) := by decide +kernel
theorem d_H_breaks_5 : decode b_H_breaks 5 = .ok (.aload_n 0, 1) := by decide +kernel
theorem d_H_breaks_6 : decode b_H_breaks 6 = .ok (.getfield 24, 3) := by decide +kernel
theorem d_H_breaks_9 : decode b_H_breaks 9 = .ok (.getfield 129, 3) := by decide +kernel
theorem d_H_breaks_12 : decode b_H_breaks 12 = .ok (.if_icmp .le 13, 3) := by decide +kernel
theorem d_H_breaks_15 : decode b_H_breaks 15 = .ok (.new 46, 3) := by decide +kernel
theorem d_H_breaks_18 : decode b_H_breaks 18 = .ok (.dup, 1) := by decide +kernel
theorem d_H_breaks_19 : decode b_H_breaks 19 = .ok (.ldc 131, 2) := by decide +kernel
theorem d_H_breaks_21 : decode b_H_breaks 21 = .ok (.invokespecial 50, 3) := by decide +kernel
theorem d_H_breaks_24 : decode b_H_breaks 24 = .ok (.athrow, 1) := by decide +kernel
theorem d_H_breaks_25 : decode b_H_breaks 25 = .ok (.aload_n 0, 1) := by decide +kernel
theorem d_H_breaks_26 : decode b_H_breaks 26 = .ok (.iload_n 1, 1) := by decide +kernel
theorem d_H_breaks_27 : decode b_H_breaks 27 = .ok (.invokevirtual 133, 3) := by decide +kernel
theorem d_H_breaks_30 : decode b_H_breaks 30 = .ok (.ifCond .ne 5, 3) := by decide +kernel
theorem d_H_breaks_33 : decode b_H_breaks 33 = .ok (.iconst 0, 1) := by decide +kernel
theorem d_H_breaks_34 : decode b_H_breaks 34 = .ok (.ireturn, 1) := by decide +kernel
theorem d_H_breaks_35 : decode b_H_breaks 35 = .ok (.aload_n 0, 1) := by decide +kernel
theorem d_H_breaks_36 : decode b_H_breaks 36 = .ok (.aload_n 0, 1) := by decide +kernel
theorem d_H_breaks_37 : decode b_H_breaks 37 = .ok (.iload_n 1, 1) := by decide +kernel
theorem d_H_breaks_38 : decode b_H_breaks 38 = .ok (.invokevirtual 136, 3) := by decide +kernel
theorem d_H_breaks_41 : decode b_H_breaks 41 = .ok (.invokevirtual 140, 3) := by decide +kernel
theorem d_H_breaks_44 : decode b_H_breaks 44 = .ok (.aload_n 0, 1) := by decide +kernel
theorem d_H_breaks_45 : decode b_H_breaks 45 = .ok (.getfield 37, 3) := by decide +kernel
theorem d_H_breaks_48 : decode b_H_breaks 48 = .ok (.iload_n 1, 1) := by decide +kernel
theorem d_H_breaks_49 : decode b_H_breaks 49 = .ok (.aload_n 0, 1) := by decide +kernel
theorem d_H_breaks_50 : decode b_H_breaks 50 = .ok (.getfield 11, 3) := by decide +kernel
theorem d_H_breaks_53 : decode b_H_breaks 53 = .ok (.aload_n 0, 1) := by decide +kernel
theorem d_H_breaks_54 : decode b_H_breaks 54 = .ok (.getfield 41, 3) := by decide +kernel
theorem d_H_breaks_57 : decode b_H_breaks 57 = .ok (.aaload, 1) := by decide +kernel
theorem d_H_breaks_58 : decode b_H_breaks 58 = .ok (.invokevirtual 147, 3) := by decide +kernel
theorem d_H_breaks_61 : decode b_H_breaks 61 = .ok (.ireturn, 1) := by decide +kernel
def lay_H_breaks (pc : Nat) : List Nat := if pc = 0 then [0, 1] else []
noncomputable def sg_H_breaks_0 (v0 : Nat) (v1 : Int32) (w : hy_W) : Option hy_N := if v1 < 0 then ((hy_th w).bind fun w2 => some (.inr (.inr "java/lang/IndexOutOfBoundsException", w2))) else ((hy_gr w v0 5 2).bind fun r3 => (hy_gi w r3 2 3).bind fun x4 => if v1 ≤ x4 then (if hy_ob w v0 5 = true then hy_bi (f_H_isWithinWord [.ref v0, .int v1] w) fun x8 w6 => if x8 = 0 then (some (.inr (.inl (some (.int 0)), w6))) else (if hy_ob w6 v0 5 = true then hy_bi (f_H_wordStart [.ref v0, .int v1] w6) fun x13 w11 => if hy_ob w11 v0 5 = true then hy_bv (f_H_readWord [.ref v0, .int x13] w11) fun w15 => (hy_gr w15 v0 5 4).bind fun r19 => (hy_gr w15 v0 5 0).bind fun r20 => (hy_gi w15 v0 5 5).bind fun x21 => (hy_ar w15 2 r20 x21).bind fun r22 => if hy_ob w15 r19 3 = true then hy_bi (f_G_canBreakAt [.ref r19, .int v1, .ref r22] w15) fun x25 w23 => if x25 = 0 ∨ x25 = 1 then some (.inr (.inl (some (.int x25)), w23)) else none else none else none else none) else none) else ((hy_th w).bind fun w28 => some (.inr (.inr "java/lang/IndexOutOfBoundsException", w28))))
noncomputable def nx_H_breaks (q : hy_P) : Option hy_N := match q with
  | (0, [.ref v0, .int v1], w) => sg_H_breaks_0 v0 v1 w
  | _ => none
noncomputable def f_H_breaks (av : List Value) (w : hy_W) : Option hy_O := hy_fx nx_H_breaks (0, av, w)
set_option maxHeartbeats 4000000 in
set_option maxRecDepth 100000 in
theorem sk_H_breaks_0 {p : Program} {l : Launch} {e : Env} {s : State} {m : MethodId} {args : Array Value} {below : List Frame} {meth : Method} {c : Code} {G : hy_G} {A : Nat → Prop} {ad0 : Nat → Nat} {w0 : hy_W} {o : hy_O} (hl9 : l.flags = flags0) (hA : hy_A G ad0 w0 s.heap.size = A) (B : hy_B p l e (hy_rm 6 133 w0) s m args below meth c "HyphenPatterns" b_H_breaks 2 (some .boolean) [] G A) (v0 : Nat) (v1 : Int32) (w : hy_W) (nx : hy_N) (h : sg_H_breaks_0 v0 v1 w = some nx) (K : hy_Nx lay_H_breaks p l e (hy_rm 6 133 w0) s m args below meth c 2 G A ad0 w0.1.length (hy_Q below G ad0 w0 o args s) o nx) : hy_At lay_H_breaks p l e (hy_rm 6 133 w0) s m args below meth c 2 G A ad0 w0.1.length (hy_Q below G ad0 w0 o args s) (0, [.ref v0, .int v1], w) := by
  intro ad H locs cells slots ls S hok hl
  have hx := B.1
  have hb := B.2.1
  dsimp only at S hok
  have hl : lv_has ls 2 [(0, .ref (ad v0)), (1, .int v1)] := hl
  show W p l e (hy_rm 6 133 w0) s m args below meth c H locs cells slots (hy_Q below G ad0 w0 o args s) (F0 m 0 ls [])
  have hv_v0 : v0 < w.1.length := hok (.ref v0) (List.mem_of_getElem? (i := 0) rfl) v0 rfl
  obtain ⟨a_v0, ha_v0⟩ : ∃ a, ad v0 = a := ⟨_, rfl⟩
  rw [ha_v0] at hl
  unfold sg_H_breaks_0 at h
  refine lv_iload_n hx hb d_H_breaks_0 rfl (lv_at hl 1 rfl) ?_
  refine lv_if_lt (tgt := 15) hx hb d_H_breaks_1 (by decide) (fun c1 => ?_) (fun c1 => ?_)
  · rw [if_pos c1] at h
    obtain ⟨w2, hw2, h⟩ := hy_bd h
    cases h
    cases K
    exact hy_throw (text := "there is no such place") (names := ["java/lang/RuntimeException", "java/lang/Exception"]) hA B S hw2 (by decide +kernel) (by decide +kernel) tw_315 tw_13 (by decide +kernel) at_H_IO hl.1 d_H_breaks_15 d_H_breaks_18 d_H_breaks_19 d_H_breaks_21 d_H_breaks_24 (Nat.le_of_ble_eq_true rfl) (Nat.le_of_ble_eq_true rfl)
  · rw [if_neg c1] at h
    refine lv_iload_n hx hb d_H_breaks_4 rfl (lv_at hl 1 rfl) ?_
    refine lv_aload_n hx hb d_H_breaks_5 rfl (lv_at hl 0 rfl) ?_
    obtain ⟨r3, hr3, h⟩ := hy_bd h
    refine hy_getr B S ha_v0 hr3 rfl (Nat.le_of_ble_eq_true rfl) i_5 (j := 2) tw_165 (fun _ h => h) d_H_breaks_6 (fun a_r3 ha_r3 hv_r3 => ?_)
    obtain ⟨x4, hx4, h⟩ := hy_bd h
    refine hy_geti B S ha_r3 hx4 rfl (Nat.le_of_ble_eq_true rfl) i_2 (j := 3) tw_46 (fun _ h => h) d_H_breaks_9 ?_
    refine lv_icmp_le (tgt := 25) hx hb d_H_breaks_12 (by decide) (fun c5 => ?_) (fun c5 => ?_)
    · rw [if_pos c5] at h
      refine lv_aload_n hx hb d_H_breaks_25 rfl (lv_at hl 0 rfl) ?_
      refine lv_iload_n hx hb d_H_breaks_26 rfl (lv_at hl 1 rfl) ?_
      obtain ⟨ob9, h⟩ := hy_if h
      obtain ⟨fs_ob9, hf_ob9, hg_ob9⟩ := hy_ob_spec ob9
      obtain ⟨x8, w6, hq_w6, h⟩ := hy_bi_spec h
      refine hy_calli (hy_runV (rest := []) (As := [.int v1]) (r := v0) (b := a_v0) B S rfl ha_v0 (by rfl) (c_H_isWithinWord hl9 G ad hq_w6) (hy_okr (by omega) (hy_oki hy_ok0)) tw_630 tw_1 tw_627 tw_629 sl_H_isWithinWord (by decide) rfl (Nat.le_of_ble_eq_true rfl) (Nat.le_of_ble_eq_true rfl) hf_ob9 hg_ob9 rfl hl.1 (Nat.le_of_ble_eq_true rfl) d_H_breaks_27) (fun ad7 H locs cells slots hag hl_w6 S => ?_)
      have ha_v0 : ad7 v0 = a_v0 := (hag v0 (by omega)).trans ha_v0
      refine lv_if_ne (tgt := 35) hx hb d_H_breaks_30 (by decide) (fun c10 => ?_) (fun c10 => ?_)
      · rw [if_neg c10] at h
        refine lv_aload_n hx hb d_H_breaks_35 rfl (lv_at hl 0 rfl) ?_
        refine lv_aload_n hx hb d_H_breaks_36 rfl (lv_at hl 0 rfl) ?_
        refine lv_iload_n hx hb d_H_breaks_37 rfl (lv_at hl 1 rfl) ?_
        obtain ⟨ob14, h⟩ := hy_if h
        obtain ⟨fs_ob14, hf_ob14, hg_ob14⟩ := hy_ob_spec ob14
        obtain ⟨x13, w11, hq_w11, h⟩ := hy_bi_spec h
        refine hy_calli (hy_runV (rest := [.ref a_v0]) (As := [.int v1]) (r := v0) (b := a_v0) B S rfl ha_v0 (by rfl) (c_H_wordStart hl9 G ad7 hq_w11) (hy_okr (by omega) (hy_oki hy_ok0)) tw_634 tw_1 tw_631 tw_633 sl_H_wordStart (by decide) rfl (Nat.le_of_ble_eq_true rfl) (Nat.le_of_ble_eq_true rfl) hf_ob14 hg_ob14 rfl hl.1 (Nat.le_of_ble_eq_true rfl) d_H_breaks_38) (fun ad12 H locs cells slots hag hl_w11 S => ?_)
        have ha_v0 : ad12 v0 = a_v0 := (hag v0 (by omega)).trans ha_v0
        obtain ⟨ob18, h⟩ := hy_if h
        obtain ⟨fs_ob18, hf_ob18, hg_ob18⟩ := hy_ob_spec ob18
        obtain ⟨w15, hq_w15, h⟩ := hy_bv_spec h
        refine hy_callv (hy_runV (rest := []) (As := [.int x13]) (r := v0) (b := a_v0) B S rfl ha_v0 (by rfl) (c_H_readWord hl9 G ad12 hq_w15) (hy_okr (by omega) (hy_oki hy_ok0)) tw_241 tw_1 tw_238 tw_240 sl_H_readWord (by decide) rfl (Nat.le_of_ble_eq_true rfl) (Nat.le_of_ble_eq_true rfl) hf_ob18 hg_ob18 rfl hl.1 (Nat.le_of_ble_eq_true rfl) d_H_breaks_41) (fun ad16 H locs cells slots hag hl_w15 S => ?_)
        have ha_v0 : ad16 v0 = a_v0 := (hag v0 (by omega)).trans ha_v0
        refine lv_aload_n hx hb d_H_breaks_44 rfl (lv_at hl 0 rfl) ?_
        obtain ⟨r19, hr19, h⟩ := hy_bd h
        refine hy_getr B S ha_v0 hr19 rfl (Nat.le_of_ble_eq_true rfl) i_5 (j := 4) tw_167 (fun _ h => h) d_H_breaks_45 (fun a_r19 ha_r19 hv_r19 => ?_)
        refine lv_iload_n hx hb d_H_breaks_48 rfl (lv_at hl 1 rfl) ?_
        refine lv_aload_n hx hb d_H_breaks_49 rfl (lv_at hl 0 rfl) ?_
        obtain ⟨r20, hr20, h⟩ := hy_bd h
        refine hy_getr B S ha_v0 hr20 rfl (Nat.le_of_ble_eq_true rfl) i_5 (j := 0) tw_163 (fun _ h => h) d_H_breaks_50 (fun a_r20 ha_r20 hv_r20 => ?_)
        refine lv_aload_n hx hb d_H_breaks_53 rfl (lv_at hl 0 rfl) ?_
        obtain ⟨x21, hx21, h⟩ := hy_bd h
        refine hy_geti B S ha_v0 hx21 rfl (Nat.le_of_ble_eq_true rfl) i_5 (j := 5) tw_168 (fun _ h => h) d_H_breaks_54 ?_
        obtain ⟨r22, hr22, h⟩ := hy_bd h
        refine hy_aald B S ha_r20 (Or.inl rfl) hr22 d_H_breaks_57 (fun a_r22 ha_r22 hv_r22 => ?_)
        obtain ⟨ob26, h⟩ := hy_if h
        obtain ⟨fs_ob26, hf_ob26, hg_ob26⟩ := hy_ob_spec ob26
        obtain ⟨x25, w23, hq_w23, h⟩ := hy_bi_spec h
        refine hy_calli (hy_runV (rest := []) (As := [.int v1, .ref a_r22]) (r := r19) (b := a_r19) B S rfl ha_r19 (by subst ha_r22; rfl) (c_G_canBreakAt hl9 G ad16 hq_w23) (hy_okr (by omega) (hy_oki (hy_okr (by omega) hy_ok0))) tw_298 tw_4 tw_643 tw_296 sl_G_canBreakAt (by decide) rfl (Nat.le_of_ble_eq_true rfl) (Nat.le_of_ble_eq_true rfl) hf_ob26 hg_ob26 rfl hl.1 (Nat.le_of_ble_eq_true rfl) d_H_breaks_58) (fun ad24 H locs cells slots hag hl_w23 S => ?_)
        have ha_v0 : ad24 v0 = a_v0 := (hag v0 (by omega)).trans ha_v0
        obtain ⟨z27, h⟩ := hy_if h
        cases h
        cases K
        exact hy_zret hA B S z27 d_H_breaks_61
      · rw [if_pos c10] at h
        refine lv_iconst (v := 0) hx hb d_H_breaks_33 (by decide) ?_
        cases h
        cases K
        exact hy_zret hA B S (by decide) d_H_breaks_34
    · rw [if_neg c5] at h
      obtain ⟨w28, hw28, h⟩ := hy_bd h
      cases h
      cases K
      exact hy_throw (text := "there is no such place") (names := ["java/lang/RuntimeException", "java/lang/Exception"]) hA B S hw28 (by decide +kernel) (by decide +kernel) tw_315 tw_13 (by decide +kernel) at_H_IO hl.1 d_H_breaks_15 d_H_breaks_18 d_H_breaks_19 d_H_breaks_21 d_H_breaks_24 (Nat.le_of_ble_eq_true rfl) (Nat.le_of_ble_eq_true rfl)
theorem nk_H_breaks {p : Program} {l : Launch} {e : Env} {s : State} {m : MethodId} {args : Array Value} {below : List Frame} {meth : Method} {c : Code} {G : hy_G} {A : Nat → Prop} {ad0 : Nat → Nat} {w0 : hy_W} {o : hy_O} (hl9 : l.flags = flags0) (hA : hy_A G ad0 w0 s.heap.size = A) (B : hy_B p l e (hy_rm 6 133 w0) s m args below meth c "HyphenPatterns" b_H_breaks 2 (some .boolean) [] G A) (q : hy_P) (nx : hy_N) (hq : nx_H_breaks q = some nx) (K : hy_Nx lay_H_breaks p l e (hy_rm 6 133 w0) s m args below meth c 2 G A ad0 w0.1.length (hy_Q below G ad0 w0 o args s) o nx) : hy_At lay_H_breaks p l e (hy_rm 6 133 w0) s m args below meth c 2 G A ad0 w0.1.length (hy_Q below G ad0 w0 o args s) q := by
  unfold nx_H_breaks at hq
  split at hq
  · exact sk_H_breaks_0 hl9 hA B _ _ _ nx hq K
  · cases hq
theorem c_H_breaks {l : Launch} (hl9 : l.flags = flags0) (G : hy_G) (ad : Nat → Nat) {v0 : Nat} {v1 : Int32} {w : hy_W} {o : hy_O} (h : f_H_breaks [.ref v0, .int v1] w = some o) : hy_M l y_H_breaks (Cond.code y_H_breaks b_H_breaks 2 (some .boolean) :: hy_T) 6 133 G ad [.ref v0, .int v1] w o := by
  obtain ⟨n, hn⟩ := hy_fx_iff.mp h
  refine hy_ofW hl9 (by decide +kernel) (Nat.le_of_ble_eq_true rfl) (fun p e s m args below meth c A hA hi B S hok ls hl => ?_)
  exact hy_loop (nk_H_breaks hl9 hA B) n _ hn ad s.heap [] 0 0 ls S hok hl
