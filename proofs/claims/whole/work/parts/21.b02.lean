/-! BODIES (printed by our translator): H_isLetterAt, H_startsWord, H_wordEnd, H_word, H_countWords, G_spell, J_fill, J_check3, J_check2, A_elementData, A_get, U_standsAt -/
theorem d_H_isLetterAt_0 : decode b_H_isLetterAt 0 = .ok (.iload_n 1, 1) := by decide +kernel
theorem d_H_isLetterAt_1 : decode b_H_isLetterAt 1 = .ok (.ifCond .lt 42, 3) := by decide +kernel
theorem d_H_isLetterAt_4 : decode b_H_isLetterAt 4 = .ok (.iload_n 1, 1) := by decide +kernel
theorem d_H_isLetterAt_5 : decode b_H_isLetterAt 5 = .ok (.aload_n 0, 1) := by decide +kernel
theorem d_H_isLetterAt_6 : decode b_H_isLetterAt 6 = .ok (.getfield 24, 3) := by decide +kernel
theorem d_H_isLetterAt_9 : decode b_H_isLetterAt 9 = .ok (.getfield 129, 3) := by decide +kernel
theorem d_H_isLetterAt_12 : decode b_H_isLetterAt 12 = .ok (.if_icmp .ge 31, 3) := by decide +kernel
theorem d_H_isLetterAt_15 : decode b_H_isLetterAt 15 = .ok (.aload_n 0, 1) := by decide +kernel
theorem d_H_isLetterAt_16 : decode b_H_isLetterAt 16 = .ok (.getfield 11, 3) := by decide +kernel
theorem d_H_isLetterAt_19 : decode b_H_isLetterAt 19 = .ok (.aload_n 0, 1) := by decide +kernel
theorem d_H_isLetterAt_20 : decode b_H_isLetterAt 20 = .ok (.getfield 41, 3) := by decide +kernel
theorem d_H_isLetterAt_23 : decode b_H_isLetterAt 23 = .ok (.aaload, 1) := by decide +kernel
theorem d_H_isLetterAt_24 : decode b_H_isLetterAt 24 = .ok (.aload_n 0, 1) := by decide +kernel
theorem d_H_isLetterAt_25 : decode b_H_isLetterAt 25 = .ok (.getfield 24, 3) := by decide +kernel
theorem d_H_isLetterAt_28 : decode b_H_isLetterAt 28 = .ok (.getfield 200, 3) := by decide +kernel
theorem d_H_isLetterAt_31 : decode b_H_isLetterAt 31 = .ok (.iload_n 1, 1) := by decide +kernel
theorem d_H_isLetterAt_32 : decode b_H_isLetterAt 32 = .ok (.iaload, 1) := by decide +kernel
theorem d_H_isLetterAt_33 : decode b_H_isLetterAt 33 = .ok (.invokevirtual 203, 3) := by decide +kernel
theorem d_H_isLetterAt_36 : decode b_H_isLetterAt 36 = .ok (.ifCond .eq 7, 3) := by decide +kernel
theorem d_H_isLetterAt_39 : decode b_H_isLetterAt 39 = .ok (.iconst 1, 1) := by decide +kernel
theorem d_H_isLetterAt_40 : decode b_H_isLetterAt 40 = .ok (.goto 4, 3) := by decide +kernel
theorem d_H_isLetterAt_43 : decode b_H_isLetterAt 43 = .ok (.iconst 0, 1) := by decide +kernel
theorem d_H_isLetterAt_44 : decode b_H_isLetterAt 44 = .ok (.ireturn, 1) := by decide +kernel
def lay_H_isLetterAt (pc : Nat) : List Nat := if pc = 0 then [0, 1] else if pc = 43 then [] else []
noncomputable def sg_H_isLetterAt_0 (v0 : Nat) (v1 : Int32) (w : hy_W) : Option hy_N := if v1 < 0 then (some (.inl (43, [], w))) else ((hy_gr w v0 5 2).bind fun r2 => (hy_gi w r2 2 3).bind fun x3 => if x3 ≤ v1 then (some (.inl (43, [], w))) else ((hy_gr w v0 5 0).bind fun r5 => (hy_gi w v0 5 5).bind fun x6 => (hy_ar w 2 r5 x6).bind fun r7 => (hy_gr w v0 5 2).bind fun r8 => (hy_gr w r8 2 0).bind fun r9 => (hy_ai w r9 v1).bind fun x10 => if hy_ob w r7 1 = true then hy_bi (f_L_letterOf [.ref r7, .int x10] w) fun x13 w11 => if x13 = 0 then (some (.inl (43, [], w11))) else (some (.inr (.inl (some (.int 1)), w11))) else none))
noncomputable def sg_H_isLetterAt_43  (w : hy_W) : Option hy_N := some (.inr (.inl (some (.int 0)), w))
noncomputable def nx_H_isLetterAt (q : hy_P) : Option hy_N := match q with
  | (0, [.ref v0, .int v1], w) => sg_H_isLetterAt_0 v0 v1 w
  | (43, [], w) => sg_H_isLetterAt_43  w
  | _ => none
noncomputable def f_H_isLetterAt (av : List Value) (w : hy_W) : Option hy_O := hy_fx nx_H_isLetterAt (0, av, w)
set_option maxHeartbeats 4000000 in
set_option maxRecDepth 100000 in
theorem sk_H_isLetterAt_0 {p : Program} {l : Launch} {e : Env} {s : State} {m : MethodId} {args : Array Value} {below : List Frame} {meth : Method} {c : Code} {G : hy_G} {A : Nat → Prop} {ad0 : Nat → Nat} {w0 : hy_W} {o : hy_O} (hl9 : l.flags = flags0) (hA : hy_A G ad0 w0 s.heap.size = A) (B : hy_B p l e (hy_rm 1 22 w0) s m args below meth c "HyphenPatterns" b_H_isLetterAt 2 (some .boolean) [] G A) (v0 : Nat) (v1 : Int32) (w : hy_W) (nx : hy_N) (h : sg_H_isLetterAt_0 v0 v1 w = some nx) (K : hy_Nx lay_H_isLetterAt p l e (hy_rm 1 22 w0) s m args below meth c 2 G A ad0 w0.1.length (hy_Q below G ad0 w0 o args s) o nx) : hy_At lay_H_isLetterAt p l e (hy_rm 1 22 w0) s m args below meth c 2 G A ad0 w0.1.length (hy_Q below G ad0 w0 o args s) (0, [.ref v0, .int v1], w) := by
  intro ad H locs cells slots ls S hok hl
  have hx := B.1
  have hb := B.2.1
  dsimp only at S hok
  have hl : lv_has ls 2 [(0, .ref (ad v0)), (1, .int v1)] := hl
  show W p l e (hy_rm 1 22 w0) s m args below meth c H locs cells slots (hy_Q below G ad0 w0 o args s) (F0 m 0 ls [])
  have hv_v0 : v0 < w.1.length := hok (.ref v0) (List.mem_of_getElem? (i := 0) rfl) v0 rfl
  obtain ⟨a_v0, ha_v0⟩ : ∃ a, ad v0 = a := ⟨_, rfl⟩
  rw [ha_v0] at hl
  unfold sg_H_isLetterAt_0 at h
  refine lv_iload_n hx hb d_H_isLetterAt_0 rfl (lv_at hl 1 rfl) ?_
  refine lv_if_lt (tgt := 43) hx hb d_H_isLetterAt_1 (by decide) (fun c1 => ?_) (fun c1 => ?_)
  · rw [if_pos c1] at h
    cases h
    exact hy_jump K S hy_ok0 (lv_sub hl [] rfl) (by rfl) (by rfl)
  · rw [if_neg c1] at h
    refine lv_iload_n hx hb d_H_isLetterAt_4 rfl (lv_at hl 1 rfl) ?_
    refine lv_aload_n hx hb d_H_isLetterAt_5 rfl (lv_at hl 0 rfl) ?_
    obtain ⟨r2, hr2, h⟩ := hy_bd h
    refine hy_getr B S ha_v0 hr2 rfl (Nat.le_of_ble_eq_true rfl) i_5 (j := 2) tw_165 (fun _ h => h) d_H_isLetterAt_6 (fun a_r2 ha_r2 hv_r2 => ?_)
    obtain ⟨x3, hx3, h⟩ := hy_bd h
    refine hy_geti B S ha_r2 hx3 rfl (Nat.le_of_ble_eq_true rfl) i_2 (j := 3) tw_46 (fun _ h => h) d_H_isLetterAt_9 ?_
    refine lv_icmp_ge (tgt := 43) hx hb d_H_isLetterAt_12 (by decide) (fun c4 => ?_) (fun c4 => ?_)
    · rw [if_pos c4] at h
      cases h
      exact hy_jump K S hy_ok0 (lv_sub hl [] rfl) (by rfl) (by rfl)
    · rw [if_neg c4] at h
      refine lv_aload_n hx hb d_H_isLetterAt_15 rfl (lv_at hl 0 rfl) ?_
      obtain ⟨r5, hr5, h⟩ := hy_bd h
      refine hy_getr B S ha_v0 hr5 rfl (Nat.le_of_ble_eq_true rfl) i_5 (j := 0) tw_163 (fun _ h => h) d_H_isLetterAt_16 (fun a_r5 ha_r5 hv_r5 => ?_)
      refine lv_aload_n hx hb d_H_isLetterAt_19 rfl (lv_at hl 0 rfl) ?_
      obtain ⟨x6, hx6, h⟩ := hy_bd h
      refine hy_geti B S ha_v0 hx6 rfl (Nat.le_of_ble_eq_true rfl) i_5 (j := 5) tw_168 (fun _ h => h) d_H_isLetterAt_20 ?_
      obtain ⟨r7, hr7, h⟩ := hy_bd h
      refine hy_aald B S ha_r5 (Or.inl rfl) hr7 d_H_isLetterAt_23 (fun a_r7 ha_r7 hv_r7 => ?_)
      refine lv_aload_n hx hb d_H_isLetterAt_24 rfl (lv_at hl 0 rfl) ?_
      obtain ⟨r8, hr8, h⟩ := hy_bd h
      refine hy_getr B S ha_v0 hr8 rfl (Nat.le_of_ble_eq_true rfl) i_5 (j := 2) tw_165 (fun _ h => h) d_H_isLetterAt_25 (fun a_r8 ha_r8 hv_r8 => ?_)
      obtain ⟨r9, hr9, h⟩ := hy_bd h
      refine hy_getr B S ha_r8 hr9 rfl (Nat.le_of_ble_eq_true rfl) i_2 (j := 0) tw_41 (fun _ h => h) d_H_isLetterAt_28 (fun a_r9 ha_r9 hv_r9 => ?_)
      refine lv_iload_n hx hb d_H_isLetterAt_31 rfl (lv_at hl 1 rfl) ?_
      obtain ⟨x10, hx10, h⟩ := hy_bd h
      refine hy_iald B S ha_r9 hx10 d_H_isLetterAt_32 ?_
      obtain ⟨ob14, h⟩ := hy_if h
      obtain ⟨fs_ob14, hf_ob14, hg_ob14⟩ := hy_ob_spec ob14
      obtain ⟨x13, w11, hq_w11, h⟩ := hy_bi_spec h
      refine hy_calli (hy_runV (rest := []) (As := [.int x10]) (r := r7) (b := a_r7) B S rfl ha_r7 (by rfl) (c_L_letterOf hl9 G ad hq_w11) (hy_okr (by omega) (hy_oki hy_ok0)) tw_221 tw_5 tw_218 tw_219 sl_L_letterOf (by decide) rfl (Nat.le_of_ble_eq_true rfl) (Nat.le_of_ble_eq_true rfl) hf_ob14 hg_ob14 rfl hl.1 (Nat.le_of_ble_eq_true rfl) d_H_isLetterAt_33) (fun ad12 H locs cells slots hag hl_w11 S => ?_)
      have ha_v0 : ad12 v0 = a_v0 := (hag v0 (by omega)).trans ha_v0
      refine lv_if_eq (tgt := 43) hx hb d_H_isLetterAt_36 (by decide) (fun c15 => ?_) (fun c15 => ?_)
      · rw [if_pos c15] at h
        cases h
        exact hy_jump K S hy_ok0 (lv_sub hl [] rfl) (by rfl) (by rfl)
      · rw [if_neg c15] at h
        refine lv_iconst (v := 1) hx hb d_H_isLetterAt_39 (by decide) ?_
        refine lv_goto (tgt := 44) hx hb d_H_isLetterAt_40 (by decide) ?_
        cases h
        cases K
        exact hy_zret hA B S (by decide) d_H_isLetterAt_44
set_option maxHeartbeats 4000000 in
set_option maxRecDepth 100000 in
theorem sk_H_isLetterAt_43 {p : Program} {l : Launch} {e : Env} {s : State} {m : MethodId} {args : Array Value} {below : List Frame} {meth : Method} {c : Code} {G : hy_G} {A : Nat → Prop} {ad0 : Nat → Nat} {w0 : hy_W} {o : hy_O} (hl9 : l.flags = flags0) (hA : hy_A G ad0 w0 s.heap.size = A) (B : hy_B p l e (hy_rm 1 22 w0) s m args below meth c "HyphenPatterns" b_H_isLetterAt 2 (some .boolean) [] G A)  (w : hy_W) (nx : hy_N) (h : sg_H_isLetterAt_43  w = some nx) (K : hy_Nx lay_H_isLetterAt p l e (hy_rm 1 22 w0) s m args below meth c 2 G A ad0 w0.1.length (hy_Q below G ad0 w0 o args s) o nx) : hy_At lay_H_isLetterAt p l e (hy_rm 1 22 w0) s m args below meth c 2 G A ad0 w0.1.length (hy_Q below G ad0 w0 o args s) (43, [], w) := by
  intro ad H locs cells slots ls S hok hl
  have hx := B.1
  have hb := B.2.1
  dsimp only at S hok
  have hl : lv_has ls 2 [] := hl
  show W p l e (hy_rm 1 22 w0) s m args below meth c H locs cells slots (hy_Q below G ad0 w0 o args s) (F0 m 43 ls [])
  unfold sg_H_isLetterAt_43 at h
  refine lv_iconst (v := 0) hx hb d_H_isLetterAt_43 (by decide) ?_
  cases h
  cases K
  exact hy_zret hA B S (by decide) d_H_isLetterAt_44
theorem nk_H_isLetterAt {p : Program} {l : Launch} {e : Env} {s : State} {m : MethodId} {args : Array Value} {below : List Frame} {meth : Method} {c : Code} {G : hy_G} {A : Nat → Prop} {ad0 : Nat → Nat} {w0 : hy_W} {o : hy_O} (hl9 : l.flags = flags0) (hA : hy_A G ad0 w0 s.heap.size = A) (B : hy_B p l e (hy_rm 1 22 w0) s m args below meth c "HyphenPatterns" b_H_isLetterAt 2 (some .boolean) [] G A) (q : hy_P) (nx : hy_N) (hq : nx_H_isLetterAt q = some nx) (K : hy_Nx lay_H_isLetterAt p l e (hy_rm 1 22 w0) s m args below meth c 2 G A ad0 w0.1.length (hy_Q below G ad0 w0 o args s) o nx) : hy_At lay_H_isLetterAt p l e (hy_rm 1 22 w0) s m args below meth c 2 G A ad0 w0.1.length (hy_Q below G ad0 w0 o args s) q := by
  unfold nx_H_isLetterAt at hq
  split at hq
  · exact sk_H_isLetterAt_0 hl9 hA B _ _ _ nx hq K
  · exact sk_H_isLetterAt_43 hl9 hA B _ nx hq K
  · cases hq
theorem c_H_isLetterAt {l : Launch} (hl9 : l.flags = flags0) (G : hy_G) (ad : Nat → Nat) {v0 : Nat} {v1 : Int32} {w : hy_W} {o : hy_O} (h : f_H_isLetterAt [.ref v0, .int v1] w = some o) : hy_M l y_H_isLetterAt (Cond.code y_H_isLetterAt b_H_isLetterAt 2 (some .boolean) :: hy_T) 1 22 G ad [.ref v0, .int v1] w o := by
  obtain ⟨n, hn⟩ := hy_fx_iff.mp h
  refine hy_ofW hl9 (by decide +kernel) (Nat.le_of_ble_eq_true rfl) (fun p e s m args below meth c A hA hi B S hok ls hl => ?_)
  exact hy_loop (nk_H_isLetterAt hl9 hA B) n _ hn ad s.heap [] 0 0 ls S hok hl
theorem d_H_startsWord_0 : decode b_H_startsWord 0 = .ok (.aload_n 0, 1) := by decide +kernel
theorem d_H_startsWord_1 : decode b_H_startsWord 1 = .ok (.iload_n 1, 1) := by decide +kernel
theorem d_H_startsWord_2 : decode b_H_startsWord 2 = .ok (.invokevirtual 206, 3) := by decide +kernel
theorem d_H_startsWord_5 : decode b_H_startsWord 5 = .ok (.ifCond .eq 17, 3) := by decide +kernel
theorem d_H_startsWord_8 : decode b_H_startsWord 8 = .ok (.aload_n 0, 1) := by decide +kernel
theorem d_H_startsWord_9 : decode b_H_startsWord 9 = .ok (.iload_n 1, 1) := by decide +kernel
theorem d_H_startsWord_10 : decode b_H_startsWord 10 = .ok (.iconst 1, 1) := by decide +kernel
theorem d_H_startsWord_11 : decode b_H_startsWord 11 = .ok (.isub, 1) := by decide +kernel
theorem d_H_startsWord_12 : decode b_H_startsWord 12 = .ok (.invokevirtual 206, 3) := by decide +kernel
theorem d_H_startsWord_15 : decode b_H_startsWord 15 = .ok (.ifCond .ne 7, 3) := by decide +kernel
theorem d_H_startsWord_18 : decode b_H_startsWord 18 = .ok (.iconst 1, 1) := by decide +kernel
theorem d_H_startsWord_19 : decode b_H_startsWord 19 = .ok (.goto 4, 3) := by decide +kernel
theorem d_H_startsWord_22 : decode b_H_startsWord 22 = .ok (.iconst 0, 1) := by decide +kernel
theorem d_H_startsWord_23 : decode b_H_startsWord 23 = .ok (.ireturn, 1) := by decide +kernel
def lay_H_startsWord (pc : Nat) : List Nat := if pc = 0 then [0, 1] else if pc = 22 then [] else []
noncomputable def sg_H_startsWord_0 (v0 : Nat) (v1 : Int32) (w : hy_W) : Option hy_N := if hy_ob w v0 5 = true then hy_bi (f_H_isLetterAt [.ref v0, .int v1] w) fun x3 w1 => if x3 = 0 then (some (.inl (22, [], w1))) else (if hy_ob w1 v0 5 = true then hy_bi (f_H_isLetterAt [.ref v0, .int (v1 - 1)] w1) fun x8 w6 => if x8 = 0 then (some (.inr (.inl (some (.int 1)), w6))) else (some (.inl (22, [], w6))) else none) else none
noncomputable def sg_H_startsWord_22  (w : hy_W) : Option hy_N := some (.inr (.inl (some (.int 0)), w))
noncomputable def nx_H_startsWord (q : hy_P) : Option hy_N := match q with
  | (0, [.ref v0, .int v1], w) => sg_H_startsWord_0 v0 v1 w
  | (22, [], w) => sg_H_startsWord_22  w
  | _ => none
noncomputable def f_H_startsWord (av : List Value) (w : hy_W) : Option hy_O := hy_fx nx_H_startsWord (0, av, w)
set_option maxHeartbeats 4000000 in
set_option maxRecDepth 100000 in
theorem sk_H_startsWord_0 {p : Program} {l : Launch} {e : Env} {s : State} {m : MethodId} {args : Array Value} {below : List Frame} {meth : Method} {c : Code} {G : hy_G} {A : Nat → Prop} {ad0 : Nat → Nat} {w0 : hy_W} {o : hy_O} (hl9 : l.flags = flags0) (hA : hy_A G ad0 w0 s.heap.size = A) (B : hy_B p l e (hy_rm 2 43 w0) s m args below meth c "HyphenPatterns" b_H_startsWord 2 (some .boolean) [] G A) (v0 : Nat) (v1 : Int32) (w : hy_W) (nx : hy_N) (h : sg_H_startsWord_0 v0 v1 w = some nx) (K : hy_Nx lay_H_startsWord p l e (hy_rm 2 43 w0) s m args below meth c 2 G A ad0 w0.1.length (hy_Q below G ad0 w0 o args s) o nx) : hy_At lay_H_startsWord p l e (hy_rm 2 43 w0) s m args below meth c 2 G A ad0 w0.1.length (hy_Q below G ad0 w0 o args s) (0, [.ref v0, .int v1], w) := by
  intro ad H locs cells slots ls S hok hl
  have hx := B.1
  have hb := B.2.1
  dsimp only at S hok
  have hl : lv_has ls 2 [(0, .ref (ad v0)), (1, .int v1)] := hl
  show W p l e (hy_rm 2 43 w0) s m args below meth c H locs cells slots (hy_Q below G ad0 w0 o args s) (F0 m 0 ls [])
  have hv_v0 : v0 < w.1.length := hok (.ref v0) (List.mem_of_getElem? (i := 0) rfl) v0 rfl
  obtain ⟨a_v0, ha_v0⟩ : ∃ a, ad v0 = a := ⟨_, rfl⟩
  rw [ha_v0] at hl
  unfold sg_H_startsWord_0 at h
  refine lv_aload_n hx hb d_H_startsWord_0 rfl (lv_at hl 0 rfl) ?_
  refine lv_iload_n hx hb d_H_startsWord_1 rfl (lv_at hl 1 rfl) ?_
  obtain ⟨ob4, h⟩ := hy_if h
  obtain ⟨fs_ob4, hf_ob4, hg_ob4⟩ := hy_ob_spec ob4
  obtain ⟨x3, w1, hq_w1, h⟩ := hy_bi_spec h
  refine hy_calli (hy_runV (rest := []) (As := [.int v1]) (r := v0) (b := a_v0) B S rfl ha_v0 (by rfl) (c_H_isLetterAt hl9 G ad hq_w1) (hy_okr (by omega) (hy_oki hy_ok0)) tw_217 tw_1 tw_214 tw_216 sl_H_isLetterAt (by decide) rfl (Nat.le_of_ble_eq_true rfl) (Nat.le_of_ble_eq_true rfl) hf_ob4 hg_ob4 rfl hl.1 (Nat.le_of_ble_eq_true rfl) d_H_startsWord_2) (fun ad2 H locs cells slots hag hl_w1 S => ?_)
  have ha_v0 : ad2 v0 = a_v0 := (hag v0 (by omega)).trans ha_v0
  refine lv_if_eq (tgt := 22) hx hb d_H_startsWord_5 (by decide) (fun c5 => ?_) (fun c5 => ?_)
  · rw [if_pos c5] at h
    cases h
    exact hy_jump K S hy_ok0 (lv_sub hl [] rfl) (by rfl) (by rfl)
  · rw [if_neg c5] at h
    refine lv_aload_n hx hb d_H_startsWord_8 rfl (lv_at hl 0 rfl) ?_
    refine lv_iload_n hx hb d_H_startsWord_9 rfl (lv_at hl 1 rfl) ?_
    refine lv_iconst (v := 1) hx hb d_H_startsWord_10 (by decide) ?_
    refine lv_isub hx hb d_H_startsWord_11 ?_
    obtain ⟨ob9, h⟩ := hy_if h
    obtain ⟨fs_ob9, hf_ob9, hg_ob9⟩ := hy_ob_spec ob9
    obtain ⟨x8, w6, hq_w6, h⟩ := hy_bi_spec h
    refine hy_calli (hy_runV (rest := []) (As := [.int (v1 - 1)]) (r := v0) (b := a_v0) B S rfl ha_v0 (by rfl) (c_H_isLetterAt hl9 G ad2 hq_w6) (hy_okr (by omega) (hy_oki hy_ok0)) tw_217 tw_1 tw_214 tw_216 sl_H_isLetterAt (by decide) rfl (Nat.le_of_ble_eq_true rfl) (Nat.le_of_ble_eq_true rfl) hf_ob9 hg_ob9 rfl hl.1 (Nat.le_of_ble_eq_true rfl) d_H_startsWord_12) (fun ad7 H locs cells slots hag hl_w6 S => ?_)
    have ha_v0 : ad7 v0 = a_v0 := (hag v0 (by omega)).trans ha_v0
    refine lv_if_ne (tgt := 22) hx hb d_H_startsWord_15 (by decide) (fun c10 => ?_) (fun c10 => ?_)
    · rw [if_neg c10] at h
      cases h
      exact hy_jump K S hy_ok0 (lv_sub hl [] rfl) (by rfl) (by rfl)
    · rw [if_pos c10] at h
      refine lv_iconst (v := 1) hx hb d_H_startsWord_18 (by decide) ?_
      refine lv_goto (tgt := 23) hx hb d_H_startsWord_19 (by decide) ?_
      cases h
      cases K
      exact hy_zret hA B S (by decide) d_H_startsWord_23
set_option maxHeartbeats 4000000 in
set_option maxRecDepth 100000 in
theorem sk_H_startsWord_22 {p : Program} {l : Launch} {e : Env} {s : State} {m : MethodId} {args : Array Value} {below : List Frame} {meth : Method} {c : Code} {G : hy_G} {A : Nat → Prop} {ad0 : Nat → Nat} {w0 : hy_W} {o : hy_O} (hl9 : l.flags = flags0) (hA : hy_A G ad0 w0 s.heap.size = A) (B : hy_B p l e (hy_rm 2 43 w0) s m args below meth c "HyphenPatterns" b_H_startsWord 2 (some .boolean) [] G A)  (w : hy_W) (nx : hy_N) (h : sg_H_startsWord_22  w = some nx) (K : hy_Nx lay_H_startsWord p l e (hy_rm 2 43 w0) s m args below meth c 2 G A ad0 w0.1.length (hy_Q below G ad0 w0 o args s) o nx) : hy_At lay_H_startsWord p l e (hy_rm 2 43 w0) s m args below meth c 2 G A ad0 w0.1.length (hy_Q below G ad0 w0 o args s) (22, [], w) := by
  intro ad H locs cells slots ls S hok hl
  have hx := B.1
  have hb := B.2.1
  dsimp only at S hok
  have hl : lv_has ls 2 [] := hl
  show W p l e (hy_rm 2 43 w0) s m args below meth c H locs cells slots (hy_Q below G ad0 w0 o args s) (F0 m 22 ls [])
  unfold sg_H_startsWord_22 at h
  refine lv_iconst (v := 0) hx hb d_H_startsWord_22 (by decide) ?_
  cases h
  cases K
  exact hy_zret hA B S (by decide) d_H_startsWord_23
theorem nk_H_startsWord {p : Program} {l : Launch} {e : Env} {s : State} {m : MethodId} {args : Array Value} {below : List Frame} {meth : Method} {c : Code} {G : hy_G} {A : Nat → Prop} {ad0 : Nat → Nat} {w0 : hy_W} {o : hy_O} (hl9 : l.flags = flags0) (hA : hy_A G ad0 w0 s.heap.size = A) (B : hy_B p l e (hy_rm 2 43 w0) s m args below meth c "HyphenPatterns" b_H_startsWord 2 (some .boolean) [] G A) (q : hy_P) (nx : hy_N) (hq : nx_H_startsWord q = some nx) (K : hy_Nx lay_H_startsWord p l e (hy_rm 2 43 w0) s m args below meth c 2 G A ad0 w0.1.length (hy_Q below G ad0 w0 o args s) o nx) : hy_At lay_H_startsWord p l e (hy_rm 2 43 w0) s m args below meth c 2 G A ad0 w0.1.length (hy_Q below G ad0 w0 o args s) q := by
  unfold nx_H_startsWord at hq
  split at hq
  · exact sk_H_startsWord_0 hl9 hA B _ _ _ nx hq K
  · exact sk_H_startsWord_22 hl9 hA B _ nx hq K
  · cases hq
theorem c_H_startsWord {l : Launch} (hl9 : l.flags = flags0) (G : hy_G) (ad : Nat → Nat) {v0 : Nat} {v1 : Int32} {w : hy_W} {o : hy_O} (h : f_H_startsWord [.ref v0, .int v1] w = some o) : hy_M l y_H_startsWord (Cond.code y_H_startsWord b_H_startsWord 2 (some .boolean) :: hy_T) 2 43 G ad [.ref v0, .int v1] w o := by
  obtain ⟨n, hn⟩ := hy_fx_iff.mp h
  refine hy_ofW hl9 (by decide +kernel) (Nat.le_of_ble_eq_true rfl) (fun p e s m args below meth c A hA hi B S hok ls hl => ?_)
  exact hy_loop (nk_H_startsWord hl9 hA B) n _ hn ad s.heap [] 0 0 ls S hok hl
theorem d_H_wordEnd_0 : decode b_H_wordEnd 0 = .ok (.iload_n 1, 1) := by decide +kernel
theorem d_H_wordEnd_1 : decode b_H_wordEnd 1 = .ok (.istore_n 2, 1) := by decide +kernel
theorem d_H_wordEnd_2 : decode b_H_wordEnd 2 = .ok (.iload_n 2, 1) := by decide +kernel
theorem d_H_wordEnd_3 : decode b_H_wordEnd 3 = .ok (.aload_n 0, 1) := by decide +kernel
theorem d_H_wordEnd_4 : decode b_H_wordEnd 4 = .ok (.getfield 24, 3) := by decide +kernel
theorem d_H_wordEnd_7 : decode b_H_wordEnd 7 = .ok (.getfield 129, 3) := by decide +kernel
theorem d_H_wordEnd_10 : decode b_H_wordEnd 10 = .ok (.if_icmp .ge 17, 3) := by decide +kernel
theorem d_H_wordEnd_13 : decode b_H_wordEnd 13 = .ok (.aload_n 0, 1) := by decide +kernel
theorem d_H_wordEnd_14 : decode b_H_wordEnd 14 = .ok (.iload_n 2, 1) := by decide +kernel
theorem d_H_wordEnd_15 : decode b_H_wordEnd 15 = .ok (.invokevirtual 206, 3) := by decide +kernel
theorem d_H_wordEnd_18 : decode b_H_wordEnd 18 = .ok (.ifCond .eq 9, 3) := by decide +kernel
theorem d_H_wordEnd_21 : decode b_H_wordEnd 21 = .ok (.iinc 2 1, 3) := by decide +kernel
theorem d_H_wordEnd_24 : decode b_H_wordEnd 24 = .ok (.goto (-22), 3) := by decide +kernel
theorem d_H_wordEnd_27 : decode b_H_wordEnd 27 = .ok (.iload_n 2, 1) := by decide +kernel
theorem d_H_wordEnd_28 : decode b_H_wordEnd 28 = .ok (.ireturn, 1) := by decide +kernel
def lay_H_wordEnd (pc : Nat) : List Nat := if pc = 0 then [0, 1] else if pc = 2 then [0, 2] else []
noncomputable def sg_H_wordEnd_0 (v0 : Nat) (v1 : Int32) (w : hy_W) : Option hy_N := some (.inl (2, [.ref v0, .int v1], w))
noncomputable def sg_H_wordEnd_2 (v0 : Nat) (v2 : Int32) (w : hy_W) : Option hy_N := (hy_gr w v0 5 2).bind fun r1 => (hy_gi w r1 2 3).bind fun x2 => if x2 ≤ v2 then (some (.inr (.inl (some (.int v2)), w))) else (if hy_ob w v0 5 = true then hy_bi (f_H_isLetterAt [.ref v0, .int v2] w) fun x6 w4 => if x6 = 0 then (some (.inr (.inl (some (.int v2)), w4))) else (some (.inl (2, [.ref v0, .int (v2 + 1)], w4))) else none)
noncomputable def nx_H_wordEnd (q : hy_P) : Option hy_N := match q with
  | (0, [.ref v0, .int v1], w) => sg_H_wordEnd_0 v0 v1 w
  | (2, [.ref v0, .int v2], w) => sg_H_wordEnd_2 v0 v2 w
  | _ => none
noncomputable def f_H_wordEnd (av : List Value) (w : hy_W) : Option hy_O := hy_fx nx_H_wordEnd (0, av, w)
set_option maxHeartbeats 4000000 in
set_option maxRecDepth 100000 in
theorem sk_H_wordEnd_0 {p : Program} {l : Launch} {e : Env} {s : State} {m : MethodId} {args : Array Value} {below : List Frame} {meth : Method} {c : Code} {G : hy_G} {A : Nat → Prop} {ad0 : Nat → Nat} {w0 : hy_W} {o : hy_O} (hl9 : l.flags = flags0) (hA : hy_A G ad0 w0 s.heap.size = A) (B : hy_B p l e (hy_rm 2 43 w0) s m args below meth c "HyphenPatterns" b_H_wordEnd 3 (some .int) [] G A) (v0 : Nat) (v1 : Int32) (w : hy_W) (nx : hy_N) (h : sg_H_wordEnd_0 v0 v1 w = some nx) (K : hy_Nx lay_H_wordEnd p l e (hy_rm 2 43 w0) s m args below meth c 3 G A ad0 w0.1.length (hy_Q below G ad0 w0 o args s) o nx) : hy_At lay_H_wordEnd p l e (hy_rm 2 43 w0) s m args below meth c 3 G A ad0 w0.1.length (hy_Q below G ad0 w0 o args s) (0, [.ref v0, .int v1], w) := by
  intro ad H locs cells slots ls S hok hl
  have hx := B.1
  have hb := B.2.1
  dsimp only at S hok
  have hl : lv_has ls 3 [(0, .ref (ad v0)), (1, .int v1)] := hl
  show W p l e (hy_rm 2 43 w0) s m args below meth c H locs cells slots (hy_Q below G ad0 w0 o args s) (F0 m 0 ls [])
  have hv_v0 : v0 < w.1.length := hok (.ref v0) (List.mem_of_getElem? (i := 0) rfl) v0 rfl
  obtain ⟨a_v0, ha_v0⟩ : ∃ a, ad v0 = a := ⟨_, rfl⟩
  rw [ha_v0] at hl
  unfold sg_H_wordEnd_0 at h
  refine lv_iload_n hx hb d_H_wordEnd_0 rfl (lv_at hl 1 rfl) ?_
  refine lv_istore_n (lv' := [(2, .int v1), (0, .ref a_v0), (1, .int v1)]) hx hb d_H_wordEnd_1 rfl hl (Nat.le_of_ble_eq_true rfl) rfl (fun ls hl => ?_)
  cases h
  exact hy_jump K S (hy_okr (by omega) (hy_oki hy_ok0)) (lv_sub hl [1, 0] rfl) (by subst ha_v0; rfl) (by subst ha_v0; rfl)
set_option maxHeartbeats 4000000 in
set_option maxRecDepth 100000 in
theorem sk_H_wordEnd_2 {p : Program} {l : Launch} {e : Env} {s : State} {m : MethodId} {args : Array Value} {below : List Frame} {meth : Method} {c : Code} {G : hy_G} {A : Nat → Prop} {ad0 : Nat → Nat} {w0 : hy_W} {o : hy_O} (hl9 : l.flags = flags0) (hA : hy_A G ad0 w0 s.heap.size = A) (B : hy_B p l e (hy_rm 2 43 w0) s m args below meth c "HyphenPatterns" b_H_wordEnd 3 (some .int) [] G A) (v0 : Nat) (v2 : Int32) (w : hy_W) (nx : hy_N) (h : sg_H_wordEnd_2 v0 v2 w = some nx) (K : hy_Nx lay_H_wordEnd p l e (hy_rm 2 43 w0) s m args below meth c 3 G A ad0 w0.1.length (hy_Q below G ad0 w0 o args s) o nx) : hy_At lay_H_wordEnd p l e (hy_rm 2 43 w0) s m args below meth c 3 G A ad0 w0.1.length (hy_Q below G ad0 w0 o args s) (2, [.ref v0, .int v2], w) := by
  intro ad H locs cells slots ls S hok hl
  have hx := B.1
  have hb := B.2.1
  dsimp only at S hok
  have hl : lv_has ls 3 [(0, .ref (ad v0)), (2, .int v2)] := hl
  show W p l e (hy_rm 2 43 w0) s m args below meth c H locs cells slots (hy_Q below G ad0 w0 o args s) (F0 m 2 ls [])
  have hv_v0 : v0 < w.1.length := hok (.ref v0) (List.mem_of_getElem? (i := 0) rfl) v0 rfl
  obtain ⟨a_v0, ha_v0⟩ : ∃ a, ad v0 = a := ⟨_, rfl⟩
  rw [ha_v0] at hl
  unfold sg_H_wordEnd_2 at h
  refine lv_iload_n hx hb d_H_wordEnd_2 rfl (lv_at hl 1 rfl) ?_
  refine lv_aload_n hx hb d_H_wordEnd_3 rfl (lv_at hl 0 rfl) ?_
  obtain ⟨r1, hr1, h⟩ := hy_bd h
  refine hy_getr B S ha_v0 hr1 rfl (Nat.le_of_ble_eq_true rfl) i_5 (j := 2) tw_165 (fun _ h => h) d_H_wordEnd_4 (fun a_r1 ha_r1 hv_r1 => ?_)
  obtain ⟨x2, hx2, h⟩ := hy_bd h
  refine hy_geti B S ha_r1 hx2 rfl (Nat.le_of_ble_eq_true rfl) i_2 (j := 3) tw_46 (fun _ h => h) d_H_wordEnd_7 ?_
  refine lv_icmp_ge (tgt := 27) hx hb d_H_wordEnd_10 (by decide) (fun c3 => ?_) (fun c3 => ?_)
  · rw [if_pos c3] at h
    refine lv_iload_n hx hb d_H_wordEnd_27 rfl (lv_at hl 1 rfl) ?_
    cases h
    cases K
    exact hy_iret hA B S d_H_wordEnd_28
  · rw [if_neg c3] at h
    refine lv_aload_n hx hb d_H_wordEnd_13 rfl (lv_at hl 0 rfl) ?_
    refine lv_iload_n hx hb d_H_wordEnd_14 rfl (lv_at hl 1 rfl) ?_
    obtain ⟨ob7, h⟩ := hy_if h
    obtain ⟨fs_ob7, hf_ob7, hg_ob7⟩ := hy_ob_spec ob7
    obtain ⟨x6, w4, hq_w4, h⟩ := hy_bi_spec h
    refine hy_calli (hy_runV (rest := []) (As := [.int v2]) (r := v0) (b := a_v0) B S rfl ha_v0 (by rfl) (c_H_isLetterAt hl9 G ad hq_w4) (hy_okr (by omega) (hy_oki hy_ok0)) tw_217 tw_1 tw_214 tw_216 sl_H_isLetterAt (by decide) rfl (Nat.le_of_ble_eq_true rfl) (Nat.le_of_ble_eq_true rfl) hf_ob7 hg_ob7 rfl hl.1 (Nat.le_of_ble_eq_true rfl) d_H_wordEnd_15) (fun ad5 H locs cells slots hag hl_w4 S => ?_)
    have ha_v0 : ad5 v0 = a_v0 := (hag v0 (by omega)).trans ha_v0
    refine lv_if_eq (tgt := 27) hx hb d_H_wordEnd_18 (by decide) (fun c8 => ?_) (fun c8 => ?_)
    · rw [if_pos c8] at h
      refine lv_iload_n hx hb d_H_wordEnd_27 rfl (lv_at hl 1 rfl) ?_
      cases h
      cases K
      exact hy_iret hA B S d_H_wordEnd_28
    · rw [if_neg c8] at h
      refine lv_iinc (v := (v2 + 1)) (lv' := [(2, .int (v2 + 1)), (0, .ref a_v0)]) hx hb d_H_wordEnd_21 hl (k := 1) rfl rfl (Nat.le_of_ble_eq_true rfl) rfl (fun ls hl => ?_)
      refine lv_goto (tgt := 2) hx hb d_H_wordEnd_24 (by decide) ?_
      cases h
      exact hy_jump K S (hy_okr (by omega) (hy_oki hy_ok0)) (lv_sub hl [1, 0] rfl) (by subst ha_v0; rfl) (by subst ha_v0; rfl)
theorem nk_H_wordEnd {p : Program} {l : Launch} {e : Env} {s : State} {m : MethodId} {args : Array Value} {below : List Frame} {meth : Method} {c : Code} {G : hy_G} {A : Nat → Prop} {ad0 : Nat → Nat} {w0 : hy_W} {o : hy_O} (hl9 : l.flags = flags0) (hA : hy_A G ad0 w0 s.heap.size = A) (B : hy_B p l e (hy_rm 2 43 w0) s m args below meth c "HyphenPatterns" b_H_wordEnd 3 (some .int) [] G A) (q : hy_P) (nx : hy_N) (hq : nx_H_wordEnd q = some nx) (K : hy_Nx lay_H_wordEnd p l e (hy_rm 2 43 w0) s m args below meth c 3 G A ad0 w0.1.length (hy_Q below G ad0 w0 o args s) o nx) : hy_At lay_H_wordEnd p l e (hy_rm 2 43 w0) s m args below meth c 3 G A ad0 w0.1.length (hy_Q below G ad0 w0 o args s) q := by
  unfold nx_H_wordEnd at hq
  split at hq
  · exact sk_H_wordEnd_0 hl9 hA B _ _ _ nx hq K
  · exact sk_H_wordEnd_2 hl9 hA B _ _ _ nx hq K
  · cases hq
theorem c_H_wordEnd {l : Launch} (hl9 : l.flags = flags0) (G : hy_G) (ad : Nat → Nat) {v0 : Nat} {v1 : Int32} {w : hy_W} {o : hy_O} (h : f_H_wordEnd [.ref v0, .int v1] w = some o) : hy_M l y_H_wordEnd (Cond.code y_H_wordEnd b_H_wordEnd 3 (some .int) :: hy_T) 2 43 G ad [.ref v0, .int v1] w o := by
  obtain ⟨n, hn⟩ := hy_fx_iff.mp h
  refine hy_ofW hl9 (by decide +kernel) (Nat.le_of_ble_eq_true rfl) (fun p e s m args below meth c A hA hi B S hok ls hl => ?_)
  exact hy_loop (nk_H_wordEnd hl9 hA B) n _ hn ad s.heap [] 0 0 ls S hok hl
theorem d_H_word_0 : decode b_H_word 0 = .ok (.iconst 0, 1) := by decide +kernel
theorem d_H_word_1 : decode b_H_word 1 = .ok (.istore_n 3, 1) := by decide +kernel
theorem d_H_word_2 : decode b_H_word 2 = .ok (.iconst 0, 1) := by decide +kernel
theorem d_H_word_3 : decode b_H_word 3 = .ok (.istore 4, 2) := by decide +kernel
theorem d_H_word_5 : decode b_H_word 5 = .ok (.iload 4, 2) := by decide +kernel
theorem d_H_word_7 : decode b_H_word 7 = .ok (.aload_n 0, 1) := by decide +kernel
theorem d_H_word_8 : decode b_H_word 8 = .ok (.getfield 24, 3) := by decide +kernel
theorem d_H_word_11 : decode b_H_word 11 = .ok (.getfield 129, 3) := by decide +kernel
theorem d_H_word_14 : decode b_H_word 14 = .ok (.if_icmp .ge 42, 3) := by decide +kernel
theorem d_H_word_17 : decode b_H_word 17 = .ok (.aload_n 0, 1) := by decide +kernel
theorem d_H_word_18 : decode b_H_word 18 = .ok (.iload 4, 2) := by decide +kernel
theorem d_H_word_20 : decode b_H_word 20 = .ok (.invokevirtual 151, 3) := by decide +kernel
theorem d_H_word_23 : decode b_H_word 23 = .ok (.ifCond .eq 27, 3) := by decide +kernel
theorem d_H_word_26 : decode b_H_word 26 = .ok (.iload_n 3, 1) := by decide +kernel
theorem d_H_word_27 : decode b_H_word 27 = .ok (.iload_n 1, 1) := by decide +kernel
theorem d_H_word_28 : decode b_H_word 28 = .ok (.if_icmp .ne 19, 3) := by decide +kernel
theorem d_H_word_31 : decode b_H_word 31 = .ok (.iload_n 2, 1) := by decide +kernel
theorem d_H_word_32 : decode b_H_word 32 = .ok (.ifCond .eq 12, 3) := by decide +kernel
theorem d_H_word_35 : decode b_H_word 35 = .ok (.aload_n 0, 1) := by decide +kernel
theorem d_H_word_36 : decode b_H_word 36 = .ok (.iload 4, 2) := by decide +kernel
theorem d_H_word_38 : decode b_H_word 38 = .ok (.invokevirtual 154, 3) := by decide +kernel
theorem d_H_word_41 : decode b_H_word 41 = .ok (.goto 5, 3) := by decide +kernel
theorem d_H_word_44 : decode b_H_word 44 = .ok (.iload 4, 2) := by decide +kernel
theorem d_H_word_46 : decode b_H_word 46 = .ok (.ireturn, 1) := by decide +kernel
theorem d_H_word_47 : decode b_H_word 47 = .ok (.iinc 3 1, 3) := by decide +kernel
theorem d_H_word_50 : decode b_H_word 50 = .ok (.iinc 4 1, 3) := by decide +kernel
theorem d_H_word_53 : decode b_H_word 53 = .ok (.goto (-48), 3) := by decide +kernel
theorem d_H_word_56 : decode b_H_word 56 = .ok (.iconst (-1), 1) := by decide +kernel
theorem d_H_word_57 : decode b_H_word 57 = .ok (.ireturn, 1) := by decide +kernel
def lay_H_word (pc : Nat) : List Nat := if pc = 0 then [0, 1, 2] else if pc = 5 then [0, 1, 2, 3, 4] else if pc = 50 then [0, 1, 2, 3, 4] else []
noncomputable def sg_H_word_0 (v0 : Nat) (v1 : Int32) (v2 : Int32) (w : hy_W) : Option hy_N := some (.inl (5, [.ref v0, .int v1, .int v2, .int 0, .int 0], w))
noncomputable def sg_H_word_5 (v0 : Nat) (v1 : Int32) (v2 : Int32) (v3 : Int32) (v4 : Int32) (w : hy_W) : Option hy_N := (hy_gr w v0 5 2).bind fun r1 => (hy_gi w r1 2 3).bind fun x2 => if x2 ≤ v4 then (some (.inr (.inl (some (.int (-1))), w))) else (if hy_ob w v0 5 = true then hy_bi (f_H_startsWord [.ref v0, .int v4] w) fun x6 w4 => if x6 = 0 then (some (.inl (50, [.ref v0, .int v1, .int v2, .int v3, .int v4], w4))) else (if v3 = v1 then (if v2 = 0 then (some (.inr (.inl (some (.int v4)), w4))) else (if hy_ob w4 v0 5 = true then hy_bi (f_H_wordEnd [.ref v0, .int v4] w4) fun x13 w11 => some (.inr (.inl (some (.int x13)), w11)) else none)) else (some (.inl (50, [.ref v0, .int v1, .int v2, .int (v3 + 1), .int v4], w4)))) else none)
noncomputable def sg_H_word_50 (v0 : Nat) (v1 : Int32) (v2 : Int32) (v3 : Int32) (v4 : Int32) (w : hy_W) : Option hy_N := some (.inl (5, [.ref v0, .int v1, .int v2, .int v3, .int (v4 + 1)], w))
noncomputable def nx_H_word (q : hy_P) : Option hy_N := match q with
  | (0, [.ref v0, .int v1, .int v2], w) => sg_H_word_0 v0 v1 v2 w
  | (5, [.ref v0, .int v1, .int v2, .int v3, .int v4], w) => sg_H_word_5 v0 v1 v2 v3 v4 w
  | (50, [.ref v0, .int v1, .int v2, .int v3, .int v4], w) => sg_H_word_50 v0 v1 v2 v3 v4 w
  | _ => none
noncomputable def f_H_word (av : List Value) (w : hy_W) : Option hy_O := hy_fx nx_H_word (0, av, w)
set_option maxHeartbeats 4000000 in
set_option maxRecDepth 100000 in
theorem sk_H_word_0 {p : Program} {l : Launch} {e : Env} {s : State} {m : MethodId} {args : Array Value} {below : List Frame} {meth : Method} {c : Code} {G : hy_G} {A : Nat → Prop} {ad0 : Nat → Nat} {w0 : hy_W} {o : hy_O} (hl9 : l.flags = flags0) (hA : hy_A G ad0 w0 s.heap.size = A) (B : hy_B p l e (hy_rm 3 65 w0) s m args below meth c "HyphenPatterns" b_H_word 5 (some .int) [] G A) (v0 : Nat) (v1 : Int32) (v2 : Int32) (w : hy_W) (nx : hy_N) (h : sg_H_word_0 v0 v1 v2 w = some nx) (K : hy_Nx lay_H_word p l e (hy_rm 3 65 w0) s m args below meth c 5 G A ad0 w0.1.length (hy_Q below G ad0 w0 o args s) o nx) : hy_At lay_H_word p l e (hy_rm 3 65 w0) s m args below meth c 5 G A ad0 w0.1.length (hy_Q below G ad0 w0 o args s) (0, [.ref v0, .int v1, .int v2], w) := by
  intro ad H locs cells slots ls S hok hl
  have hx := B.1
  have hb := B.2.1
  dsimp only at S hok
  have hl : lv_has ls 5 [(0, .ref (ad v0)), (1, .int v1), (2, .int v2)] := hl
  show W p l e (hy_rm 3 65 w0) s m args below meth c H locs cells slots (hy_Q below G ad0 w0 o args s) (F0 m 0 ls [])
  have hv_v0 : v0 < w.1.length := hok (.ref v0) (List.mem_of_getElem? (i := 0) rfl) v0 rfl
  obtain ⟨a_v0, ha_v0⟩ : ∃ a, ad v0 = a := ⟨_, rfl⟩
  rw [ha_v0] at hl
  unfold sg_H_word_0 at h
  refine lv_iconst (v := 0) hx hb d_H_word_0 (by decide) ?_
  refine lv_istore_n (lv' := [(3, .int 0), (0, .ref a_v0), (1, .int v1), (2, .int v2)]) hx hb d_H_word_1 rfl hl (Nat.le_of_ble_eq_true rfl) rfl (fun ls hl => ?_)
  refine lv_iconst (v := 0) hx hb d_H_word_2 (by decide) ?_
  refine lv_istore (lv' := [(4, .int 0), (3, .int 0), (0, .ref a_v0), (1, .int v1), (2, .int v2)]) hx hb d_H_word_3 hl (Nat.le_of_ble_eq_true rfl) rfl (fun ls hl => ?_)
  cases h
  exact hy_jump K S (hy_okr (by omega) (hy_oki (hy_oki (hy_oki (hy_oki hy_ok0))))) (lv_sub hl [2, 3, 4, 1, 0] rfl) (by subst ha_v0; rfl) (by subst ha_v0; rfl)
set_option maxHeartbeats 4000000 in
set_option maxRecDepth 100000 in
theorem sk_H_word_5 {p : Program} {l : Launch} {e : Env} {s : State} {m : MethodId} {args : Array Value} {below : List Frame} {meth : Method} {c : Code} {G : hy_G} {A : Nat → Prop} {ad0 : Nat → Nat} {w0 : hy_W} {o : hy_O} (hl9 : l.flags = flags0) (hA : hy_A G ad0 w0 s.heap.size = A) (B : hy_B p l e (hy_rm 3 65 w0) s m args below meth c "HyphenPatterns" b_H_word 5 (some .int) [] G A) (v0 : Nat) (v1 : Int32) (v2 : Int32) (v3 : Int32) (v4 : Int32) (w : hy_W) (nx : hy_N) (h : sg_H_word_5 v0 v1 v2 v3 v4 w = some nx) (K : hy_Nx lay_H_word p l e (hy_rm 3 65 w0) s m args below meth c 5 G A ad0 w0.1.length (hy_Q below G ad0 w0 o args s) o nx) : hy_At lay_H_word p l e (hy_rm 3 65 w0) s m args below meth c 5 G A ad0 w0.1.length (hy_Q below G ad0 w0 o args s) (5, [.ref v0, .int v1, .int v2, .int v3, .int v4], w) := by
  intro ad H locs cells slots ls S hok hl
  have hx := B.1
  have hb := B.2.1
  dsimp only at S hok
  have hl : lv_has ls 5 [(0, .ref (ad v0)), (1, .int v1), (2, .int v2), (3, .int v3), (4, .int v4)] := hl
  show W p l e (hy_rm 3 65 w0) s m args below meth c H locs cells slots (hy_Q below G ad0 w0 o args s) (F0 m 5 ls [])
  have hv_v0 : v0 < w.1.length := hok (.ref v0) (List.mem_of_getElem? (i := 0) rfl) v0 rfl
  obtain ⟨a_v0, ha_v0⟩ : ∃ a, ad v0 = a := ⟨_, rfl⟩
  rw [ha_v0] at hl
  unfold sg_H_word_5 at h
  refine lv_iload hx hb d_H_word_5 (lv_at hl 4 rfl) ?_
  refine lv_aload_n hx hb d_H_word_7 rfl (lv_at hl 0 rfl) ?_
  obtain ⟨r1, hr1, h⟩ := hy_bd h
  refine hy_getr B S ha_v0 hr1 rfl (Nat.le_of_ble_eq_true rfl) i_5 (j := 2) tw_165 (fun _ h => h) d_H_word_8 (fun a_r1 ha_r1 hv_r1 => ?_)
  obtain ⟨x2, hx2, h⟩ := hy_bd h
  refine hy_geti B S ha_r1 hx2 rfl (Nat.le_of_ble_eq_true rfl) i_2 (j := 3) tw_46 (fun _ h => h) d_H_word_11 ?_
  refine lv_icmp_ge (tgt := 56) hx hb d_H_word_14 (by decide) (fun c3 => ?_) (fun c3 => ?_)
  · rw [if_pos c3] at h
    refine lv_iconst (v := (-1)) hx hb d_H_word_56 (by decide) ?_
    cases h
    cases K
    exact hy_iret hA B S d_H_word_57
  · rw [if_neg c3] at h
    refine lv_aload_n hx hb d_H_word_17 rfl (lv_at hl 0 rfl) ?_
    refine lv_iload hx hb d_H_word_18 (lv_at hl 4 rfl) ?_
    obtain ⟨ob7, h⟩ := hy_if h
    obtain ⟨fs_ob7, hf_ob7, hg_ob7⟩ := hy_ob_spec ob7
    obtain ⟨x6, w4, hq_w4, h⟩ := hy_bi_spec h
    refine hy_calli (hy_runV (rest := []) (As := [.int v4]) (r := v0) (b := a_v0) B S rfl ha_v0 (by rfl) (c_H_startsWord hl9 G ad hq_w4) (hy_okr (by omega) (hy_oki hy_ok0)) tw_213 tw_1 tw_210 tw_212 sl_H_startsWord (by decide) rfl (Nat.le_of_ble_eq_true rfl) (Nat.le_of_ble_eq_true rfl) hf_ob7 hg_ob7 rfl hl.1 (Nat.le_of_ble_eq_true rfl) d_H_word_20) (fun ad5 H locs cells slots hag hl_w4 S => ?_)
    have ha_v0 : ad5 v0 = a_v0 := (hag v0 (by omega)).trans ha_v0
    refine lv_if_eq (tgt := 50) hx hb d_H_word_23 (by decide) (fun c8 => ?_) (fun c8 => ?_)
    · rw [if_pos c8] at h
      cases h
      exact hy_jump K S (hy_okr (by omega) (hy_oki (hy_oki (hy_oki (hy_oki hy_ok0))))) (lv_sub hl [0, 1, 2, 3, 4] rfl) (by subst ha_v0; rfl) (by subst ha_v0; rfl)
    · rw [if_neg c8] at h
      refine lv_iload_n hx hb d_H_word_26 rfl (lv_at hl 3 rfl) ?_
      refine lv_iload_n hx hb d_H_word_27 rfl (lv_at hl 1 rfl) ?_
      refine lv_icmp_ne (tgt := 47) hx hb d_H_word_28 (by decide) (fun c9 => ?_) (fun c9 => ?_)
      · rw [if_neg c9] at h
        refine lv_iinc (v := (v3 + 1)) (lv' := [(3, .int (v3 + 1)), (0, .ref a_v0), (1, .int v1), (2, .int v2), (4, .int v4)]) hx hb d_H_word_47 hl (k := 3) rfl rfl (Nat.le_of_ble_eq_true rfl) rfl (fun ls hl => ?_)
        cases h
        exact hy_jump K S (hy_okr (by omega) (hy_oki (hy_oki (hy_oki (hy_oki hy_ok0))))) (lv_sub hl [1, 2, 3, 0, 4] rfl) (by subst ha_v0; rfl) (by subst ha_v0; rfl)
      · rw [if_pos c9] at h
        refine lv_iload_n hx hb d_H_word_31 rfl (lv_at hl 2 rfl) ?_
        refine lv_if_eq (tgt := 44) hx hb d_H_word_32 (by decide) (fun c10 => ?_) (fun c10 => ?_)
        · rw [if_pos c10] at h
          refine lv_iload hx hb d_H_word_44 (lv_at hl 4 rfl) ?_
          cases h
          cases K
          exact hy_iret hA B S d_H_word_46
        · rw [if_neg c10] at h
          refine lv_aload_n hx hb d_H_word_35 rfl (lv_at hl 0 rfl) ?_
          refine lv_iload hx hb d_H_word_36 (lv_at hl 4 rfl) ?_
          obtain ⟨ob14, h⟩ := hy_if h
          obtain ⟨fs_ob14, hf_ob14, hg_ob14⟩ := hy_ob_spec ob14
          obtain ⟨x13, w11, hq_w11, h⟩ := hy_bi_spec h
          refine hy_calli (hy_runV (rest := []) (As := [.int v4]) (r := v0) (b := a_v0) B S rfl ha_v0 (by rfl) (c_H_wordEnd hl9 G ad5 hq_w11) (hy_okr (by omega) (hy_oki hy_ok0)) tw_225 tw_1 tw_222 tw_224 sl_H_wordEnd (by decide) rfl (Nat.le_of_ble_eq_true rfl) (Nat.le_of_ble_eq_true rfl) hf_ob14 hg_ob14 rfl hl.1 (Nat.le_of_ble_eq_true rfl) d_H_word_38) (fun ad12 H locs cells slots hag hl_w11 S => ?_)
          have ha_v0 : ad12 v0 = a_v0 := (hag v0 (by omega)).trans ha_v0
          refine lv_goto (tgt := 46) hx hb d_H_word_41 (by decide) ?_
          cases h
          cases K
          exact hy_iret hA B S d_H_word_46
set_option maxHeartbeats 4000000 in
set_option maxRecDepth 100000 in
theorem sk_H_word_50 {p : Program} {l : Launch} {e : Env} {s : State} {m : MethodId} {args : Array Value} {below : List Frame} {meth : Method} {c : Code} {G : hy_G} {A : Nat → Prop} {ad0 : Nat → Nat} {w0 : hy_W} {o : hy_O} (hl9 : l.flags = flags0) (hA : hy_A G ad0 w0 s.heap.size = A) (B : hy_B p l e (hy_rm 3 65 w0) s m args below meth c "HyphenPatterns" b_H_word 5 (some .int) [] G A) (v0 : Nat) (v1 : Int32) (v2 : Int32) (v3 : Int32) (v4 : Int32) (w : hy_W) (nx : hy_N) (h : sg_H_word_50 v0 v1 v2 v3 v4 w = some nx) (K : hy_Nx lay_H_word p l e (hy_rm 3 65 w0) s m args below meth c 5 G A ad0 w0.1.length (hy_Q below G ad0 w0 o args s) o nx) : hy_At lay_H_word p l e (hy_rm 3 65 w0) s m args below meth c 5 G A ad0 w0.1.length (hy_Q below G ad0 w0 o args s) (50, [.ref v0, .int v1, .int v2, .int v3, .int v4], w) := by
  intro ad H locs cells slots ls S hok hl
  have hx := B.1
  have hb := B.2.1
  dsimp only at S hok
  have hl : lv_has ls 5 [(0, .ref (ad v0)), (1, .int v1), (2, .int v2), (3, .int v3), (4, .int v4)] := hl
  show W p l e (hy_rm 3 65 w0) s m args below meth c H locs cells slots (hy_Q below G ad0 w0 o args s) (F0 m 50 ls [])
  have hv_v0 : v0 < w.1.length := hok (.ref v0) (List.mem_of_getElem? (i := 0) rfl) v0 rfl
  obtain ⟨a_v0, ha_v0⟩ : ∃ a, ad v0 = a := ⟨_, rfl⟩
  rw [ha_v0] at hl
  unfold sg_H_word_50 at h
  refine lv_iinc (v := (v4 + 1)) (lv' := [(4, .int (v4 + 1)), (0, .ref a_v0), (1, .int v1), (2, .int v2), (3, .int v3)]) hx hb d_H_word_50 hl (k := 4) rfl rfl (Nat.le_of_ble_eq_true rfl) rfl (fun ls hl => ?_)
  refine lv_goto (tgt := 5) hx hb d_H_word_53 (by decide) ?_
  cases h
  exact hy_jump K S (hy_okr (by omega) (hy_oki (hy_oki (hy_oki (hy_oki hy_ok0))))) (lv_sub hl [1, 2, 3, 4, 0] rfl) (by subst ha_v0; rfl) (by subst ha_v0; rfl)
theorem nk_H_word {p : Program} {l : Launch} {e : Env} {s : State} {m : MethodId} {args : Array Value} {below : List Frame} {meth : Method} {c : Code} {G : hy_G} {A : Nat → Prop} {ad0 : Nat → Nat} {w0 : hy_W} {o : hy_O} (hl9 : l.flags = flags0) (hA : hy_A G ad0 w0 s.heap.size = A) (B : hy_B p l e (hy_rm 3 65 w0) s m args below meth c "HyphenPatterns" b_H_word 5 (some .int) [] G A) (q : hy_P) (nx : hy_N) (hq : nx_H_word q = some nx) (K : hy_Nx lay_H_word p l e (hy_rm 3 65 w0) s m args below meth c 5 G A ad0 w0.1.length (hy_Q below G ad0 w0 o args s) o nx) : hy_At lay_H_word p l e (hy_rm 3 65 w0) s m args below meth c 5 G A ad0 w0.1.length (hy_Q below G ad0 w0 o args s) q := by
  unfold nx_H_word at hq
  split at hq
  · exact sk_H_word_0 hl9 hA B _ _ _ _ nx hq K
  · exact sk_H_word_5 hl9 hA B _ _ _ _ _ _ nx hq K
  · exact sk_H_word_50 hl9 hA B _ _ _ _ _ _ nx hq K
  · cases hq
theorem c_H_word {l : Launch} (hl9 : l.flags = flags0) (G : hy_G) (ad : Nat → Nat) {v0 : Nat} {v1 : Int32} {v2 : Int32} {w : hy_W} {o : hy_O} (h : f_H_word [.ref v0, .int v1, .int v2] w = some o) : hy_M l y_H_word (Cond.code y_H_word b_H_word 5 (some .int) :: hy_T) 3 65 G ad [.ref v0, .int v1, .int v2] w o := by
  obtain ⟨n, hn⟩ := hy_fx_iff.mp h
  refine hy_ofW hl9 (by decide +kernel) (Nat.le_of_ble_eq_true rfl) (fun p e s m args below meth c A hA hi B S hok ls hl => ?_)
  exact hy_loop (nk_H_word hl9 hA B) n _ hn ad s.heap [] 0 0 ls S hok hl
theorem d_H_countWords_0 : decode b_H_countWords 0 = .ok (.iconst 0, 1) := by decide +kernel
theorem d_H_countWords_1 : decode b_H_countWords 1 = .ok (.istore_n 1, 1) := by decide +kernel
theorem d_H_countWords_2 : decode b_H_countWords 2 = .ok (.iconst 0, 1) := by decide +kernel
theorem d_H_countWords_3 : decode b_H_countWords 3 = .ok (.istore_n 2, 1) := by decide +kernel
theorem d_H_countWords_4 : decode b_H_countWords 4 = .ok (.iload_n 2, 1) := by decide +kernel
theorem d_H_countWords_5 : decode b_H_countWords 5 = .ok (.aload_n 0, 1) := by decide +kernel
theorem d_H_countWords_6 : decode b_H_countWords 6 = .ok (.getfield 24, 3) := by decide +kernel
theorem d_H_countWords_9 : decode b_H_countWords 9 = .ok (.getfield 129, 3) := by decide +kernel
theorem d_H_countWords_12 : decode b_H_countWords 12 = .ok (.if_icmp .ge 20, 3) := by decide +kernel
theorem d_H_countWords_15 : decode b_H_countWords 15 = .ok (.aload_n 0, 1) := by decide +kernel
theorem d_H_countWords_16 : decode b_H_countWords 16 = .ok (.iload_n 2, 1) := by decide +kernel
theorem d_H_countWords_17 : decode b_H_countWords 17 = .ok (.invokevirtual 151, 3) := by decide +kernel
theorem d_H_countWords_20 : decode b_H_countWords 20 = .ok (.ifCond .eq 6, 3) := by decide +kernel
theorem d_H_countWords_23 : decode b_H_countWords 23 = .ok (.iinc 1 1, 3) := by decide +kernel
theorem d_H_countWords_26 : decode b_H_countWords 26 = .ok (.iinc 2 1, 3) := by decide +kernel
theorem d_H_countWords_29 : decode b_H_countWords 29 = .ok (.goto (-25), 3) := by decide +kernel
theorem d_H_countWords_32 : decode b_H_countWords 32 = .ok (.iload_n 1, 1) := by decide +kernel
theorem d_H_countWords_33 : decode b_H_countWords 33 = .ok (.ireturn, 1) := by decide +kernel
def lay_H_countWords (pc : Nat) : List Nat := if pc = 0 then [0] else if pc = 4 then [0, 1, 2] else if pc = 26 then [0, 1, 2] else []
noncomputable def sg_H_countWords_0 (v0 : Nat) (w : hy_W) : Option hy_N := some (.inl (4, [.ref v0, .int 0, .int 0], w))
noncomputable def sg_H_countWords_4 (v0 : Nat) (v1 : Int32) (v2 : Int32) (w : hy_W) : Option hy_N := (hy_gr w v0 5 2).bind fun r1 => (hy_gi w r1 2 3).bind fun x2 => if x2 ≤ v2 then (some (.inr (.inl (some (.int v1)), w))) else (if hy_ob w v0 5 = true then hy_bi (f_H_startsWord [.ref v0, .int v2] w) fun x6 w4 => if x6 = 0 then (some (.inl (26, [.ref v0, .int v1, .int v2], w4))) else (some (.inl (26, [.ref v0, .int (v1 + 1), .int v2], w4))) else none)
noncomputable def sg_H_countWords_26 (v0 : Nat) (v1 : Int32) (v2 : Int32) (w : hy_W) : Option hy_N := some (.inl (4, [.ref v0, .int v1, .int (v2 + 1)], w))
noncomputable def nx_H_countWords (q : hy_P) : Option hy_N := match q with
  | (0, [.ref v0], w) => sg_H_countWords_0 v0 w
  | (4, [.ref v0, .int v1, .int v2], w) => sg_H_countWords_4 v0 v1 v2 w
  | (26, [.ref v0, .int v1, .int v2], w) => sg_H_countWords_26 v0 v1 v2 w
  | _ => none
noncomputable def f_H_countWords (av : List Value) (w : hy_W) : Option hy_O := hy_fx nx_H_countWords (0, av, w)
set_option maxHeartbeats 4000000 in
set_option maxRecDepth 100000 in
theorem sk_H_countWords_0 {p : Program} {l : Launch} {e : Env} {s : State} {m : MethodId} {args : Array Value} {below : List Frame} {meth : Method} {c : Code} {G : hy_G} {A : Nat → Prop} {ad0 : Nat → Nat} {w0 : hy_W} {o : hy_O} (hl9 : l.flags = flags0) (hA : hy_A G ad0 w0 s.heap.size = A) (B : hy_B p l e (hy_rm 3 64 w0) s m args below meth c "HyphenPatterns" b_H_countWords 3 (some .int) [] G A) (v0 : Nat) (w : hy_W) (nx : hy_N) (h : sg_H_countWords_0 v0 w = some nx) (K : hy_Nx lay_H_countWords p l e (hy_rm 3 64 w0) s m args below meth c 3 G A ad0 w0.1.length (hy_Q below G ad0 w0 o args s) o nx) : hy_At lay_H_countWords p l e (hy_rm 3 64 w0) s m args below meth c 3 G A ad0 w0.1.length (hy_Q below G ad0 w0 o args s) (0, [.ref v0], w) := by
  intro ad H locs cells slots ls S hok hl
  have hx := B.1
  have hb := B.2.1
  dsimp only at S hok
  have hl : lv_has ls 3 [(0, .ref (ad v0))] := hl
  show W p l e (hy_rm 3 64 w0) s m args below meth c H locs cells slots (hy_Q below G ad0 w0 o args s) (F0 m 0 ls [])
  have hv_v0 : v0 < w.1.length := hok (.ref v0) (List.mem_of_getElem? (i := 0) rfl) v0 rfl
  obtain ⟨a_v0, ha_v0⟩ : ∃ a, ad v0 = a := ⟨_, rfl⟩
  rw [ha_v0] at hl
  unfold sg_H_countWords_0 at h
  refine lv_iconst (v := 0) hx hb d_H_countWords_0 (by decide) ?_
  refine lv_istore_n (lv' := [(1, .int 0), (0, .ref a_v0)]) hx hb d_H_countWords_1 rfl hl (Nat.le_of_ble_eq_true rfl) rfl (fun ls hl => ?_)
  refine lv_iconst (v := 0) hx hb d_H_countWords_2 (by decide) ?_
  refine lv_istore_n (lv' := [(2, .int 0), (1, .int 0), (0, .ref a_v0)]) hx hb d_H_countWords_3 rfl hl (Nat.le_of_ble_eq_true rfl) rfl (fun ls hl => ?_)
  cases h
  exact hy_jump K S (hy_okr (by omega) (hy_oki (hy_oki hy_ok0))) (lv_sub hl [2, 1, 0] rfl) (by subst ha_v0; rfl) (by subst ha_v0; rfl)
set_option maxHeartbeats 4000000 in
set_option maxRecDepth 100000 in
theorem sk_H_countWords_4 {p : Program} {l : Launch} {e : Env} {s : State} {m : MethodId} {args : Array Value} {below : List Frame} {meth : Method} {c : Code} {G : hy_G} {A : Nat → Prop} {ad0 : Nat → Nat} {w0 : hy_W} {o : hy_O} (hl9 : l.flags = flags0) (hA : hy_A G ad0 w0 s.heap.size = A) (B : hy_B p l e (hy_rm 3 64 w0) s m args below meth c "HyphenPatterns" b_H_countWords 3 (some .int) [] G A) (v0 : Nat) (v1 : Int32) (v2 : Int32) (w : hy_W) (nx : hy_N) (h : sg_H_countWords_4 v0 v1 v2 w = some nx) (K : hy_Nx lay_H_countWords p l e (hy_rm 3 64 w0) s m args below meth c 3 G A ad0 w0.1.length (hy_Q below G ad0 w0 o args s) o nx) : hy_At lay_H_countWords p l e (hy_rm 3 64 w0) s m args below meth c 3 G A ad0 w0.1.length (hy_Q below G ad0 w0 o args s) (4, [.ref v0, .int v1, .int v2], w) := by
  intro ad H locs cells slots ls S hok hl
  have hx := B.1
  have hb := B.2.1
  dsimp only at S hok
  have hl : lv_has ls 3 [(0, .ref (ad v0)), (1, .int v1), (2, .int v2)] := hl
  show W p l e (hy_rm 3 64 w0) s m args below meth c H locs cells slots (hy_Q below G ad0 w0 o args s) (F0 m 4 ls [])
  have hv_v0 : v0 < w.1.length := hok (.ref v0) (List.mem_of_getElem? (i := 0) rfl) v0 rfl
  obtain ⟨a_v0, ha_v0⟩ : ∃ a, ad v0 = a := ⟨_, rfl⟩
  rw [ha_v0] at hl
  unfold sg_H_countWords_4 at h
  refine lv_iload_n hx hb d_H_countWords_4 rfl (lv_at hl 2 rfl) ?_
  refine lv_aload_n hx hb d_H_countWords_5 rfl (lv_at hl 0 rfl) ?_
  obtain ⟨r1, hr1, h⟩ := hy_bd h
  refine hy_getr B S ha_v0 hr1 rfl (Nat.le_of_ble_eq_true rfl) i_5 (j := 2) tw_165 (fun _ h => h) d_H_countWords_6 (fun a_r1 ha_r1 hv_r1 => ?_)
  obtain ⟨x2, hx2, h⟩ := hy_bd h
  refine hy_geti B S ha_r1 hx2 rfl (Nat.le_of_ble_eq_true rfl) i_2 (j := 3) tw_46 (fun _ h => h) d_H_countWords_9 ?_
  refine lv_icmp_ge (tgt := 32) hx hb d_H_countWords_12 (by decide) (fun c3 => ?_) (fun c3 => ?_)
  · rw [if_pos c3] at h
    refine lv_iload_n hx hb d_H_countWords_32 rfl (lv_at hl 1 rfl) ?_
    cases h
    cases K
    exact hy_iret hA B S d_H_countWords_33
  · rw [if_neg c3] at h
    refine lv_aload_n hx hb d_H_countWords_15 rfl (lv_at hl 0 rfl) ?_
    refine lv_iload_n hx hb d_H_countWords_16 rfl (lv_at hl 2 rfl) ?_
    obtain ⟨ob7, h⟩ := hy_if h
    obtain ⟨fs_ob7, hf_ob7, hg_ob7⟩ := hy_ob_spec ob7
    obtain ⟨x6, w4, hq_w4, h⟩ := hy_bi_spec h
    refine hy_calli (hy_runV (rest := []) (As := [.int v2]) (r := v0) (b := a_v0) B S rfl ha_v0 (by rfl) (c_H_startsWord hl9 G ad hq_w4) (hy_okr (by omega) (hy_oki hy_ok0)) tw_213 tw_1 tw_210 tw_212 sl_H_startsWord (by decide) rfl (Nat.le_of_ble_eq_true rfl) (Nat.le_of_ble_eq_true rfl) hf_ob7 hg_ob7 rfl hl.1 (Nat.le_of_ble_eq_true rfl) d_H_countWords_17) (fun ad5 H locs cells slots hag hl_w4 S => ?_)
    have ha_v0 : ad5 v0 = a_v0 := (hag v0 (by omega)).trans ha_v0
    refine lv_if_eq (tgt := 26) hx hb d_H_countWords_20 (by decide) (fun c8 => ?_) (fun c8 => ?_)
    · rw [if_pos c8] at h
      cases h
      exact hy_jump K S (hy_okr (by omega) (hy_oki (hy_oki hy_ok0))) (lv_sub hl [0, 1, 2] rfl) (by subst ha_v0; rfl) (by subst ha_v0; rfl)
    · rw [if_neg c8] at h
      refine lv_iinc (v := (v1 + 1)) (lv' := [(1, .int (v1 + 1)), (0, .ref a_v0), (2, .int v2)]) hx hb d_H_countWords_23 hl (k := 1) rfl rfl (Nat.le_of_ble_eq_true rfl) rfl (fun ls hl => ?_)
      cases h
      exact hy_jump K S (hy_okr (by omega) (hy_oki (hy_oki hy_ok0))) (lv_sub hl [1, 0, 2] rfl) (by subst ha_v0; rfl) (by subst ha_v0; rfl)
set_option maxHeartbeats 4000000 in
set_option maxRecDepth 100000 in
theorem sk_H_countWords_26 {p : Program} {l : Launch} {e : Env} {s : State} {m : MethodId} {args : Array Value} {below : List Frame} {meth : Method} {c : Code} {G : hy_G} {A : Nat → Prop} {ad0 : Nat → Nat} {w0 : hy_W} {o : hy_O} (hl9 : l.flags = flags0) (hA : hy_A G ad0 w0 s.heap.size = A) (B : hy_B p l e (hy_rm 3 64 w0) s m args below meth c "HyphenPatterns" b_H_countWords 3 (some .int) [] G A) (v0 : Nat) (v1 : Int32) (v2 : Int32) (w : hy_W) (nx : hy_N) (h : sg_H_countWords_26 v0 v1 v2 w = some nx) (K : hy_Nx lay_H_countWords p l e (hy_rm 3 64 w0) s m args below meth c 3 G A ad0 w0.1.length (hy_Q below G ad0 w0 o args s) o nx) : hy_At lay_H_countWords p l e (hy_rm 3 64 w0) s m args below meth c 3 G A ad0 w0.1.length (hy_Q below G ad0 w0 o args s) (26, [.ref v0, .int v1, .int v2], w) := by
  intro ad H locs cells slots ls S hok hl
  have hx := B.1
  have hb := B.2.1
  dsimp only at S hok
  have hl : lv_has ls 3 [(0, .ref (ad v0)), (1, .int v1), (2, .int v2)] := hl
  show W p l e (hy_rm 3 64 w0) s m args below meth c H locs cells slots (hy_Q below G ad0 w0 o args s) (F0 m 26 ls [])
  have hv_v0 : v0 < w.1.length := hok (.ref v0) (List.mem_of_getElem? (i := 0) rfl) v0 rfl
  obtain ⟨a_v0, ha_v0⟩ : ∃ a, ad v0 = a := ⟨_, rfl⟩
  rw [ha_v0] at hl
  unfold sg_H_countWords_26 at h
  refine lv_iinc (v := (v2 + 1)) (lv' := [(2, .int (v2 + 1)), (0, .ref a_v0), (1, .int v1)]) hx hb d_H_countWords_26 hl (k := 2) rfl rfl (Nat.le_of_ble_eq_true rfl) rfl (fun ls hl => ?_)
  refine lv_goto (tgt := 4) hx hb d_H_countWords_29 (by decide) ?_
  cases h
  exact hy_jump K S (hy_okr (by omega) (hy_oki (hy_oki hy_ok0))) (lv_sub hl [1, 2, 0] rfl) (by subst ha_v0; rfl) (by subst ha_v0; rfl)
theorem nk_H_countWords {p : Program} {l : Launch} {e : Env} {s : State} {m : MethodId} {args : Array Value} {below : List Frame} {meth : Method} {c : Code} {G : hy_G} {A : Nat → Prop} {ad0 : Nat → Nat} {w0 : hy_W} {o : hy_O} (hl9 : l.flags = flags0) (hA : hy_A G ad0 w0 s.heap.size = A) (B : hy_B p l e (hy_rm 3 64 w0) s m args below meth c "HyphenPatterns" b_H_countWords 3 (some .int) [] G A) (q : hy_P) (nx : hy_N) (hq : nx_H_countWords q = some nx) (K : hy_Nx lay_H_countWords p l e (hy_rm 3 64 w0) s m args below meth c 3 G A ad0 w0.1.length (hy_Q below G ad0 w0 o args s) o nx) : hy_At lay_H_countWords p l e (hy_rm 3 64 w0) s m args below meth c 3 G A ad0 w0.1.length (hy_Q below G ad0 w0 o args s) q := by
  unfold nx_H_countWords at hq
  split at hq
  · exact sk_H_countWords_0 hl9 hA B _ _ nx hq K
  · exact sk_H_countWords_4 hl9 hA B _ _ _ _ nx hq K
  · exact sk_H_countWords_26 hl9 hA B _ _ _ _ nx hq K
  · cases hq
theorem c_H_countWords {l : Launch} (hl9 : l.flags = flags0) (G : hy_G) (ad : Nat → Nat) {v0 : Nat} {w : hy_W} {o : hy_O} (h : f_H_countWords [.ref v0] w = some o) : hy_M l y_H_countWords (Cond.code y_H_countWords b_H_countWords 3 (some .int) :: hy_T) 3 64 G ad [.ref v0] w o := by
  obtain ⟨n, hn⟩ := hy_fx_iff.mp h
  refine hy_ofW hl9 (by decide +kernel) (Nat.le_of_ble_eq_true rfl) (fun p e s m args below meth c A hA hi B S hok ls hl => ?_)
  exact hy_loop (nk_H_countWords hl9 hA B) n _ hn ad s.heap [] 0 0 ls S hok hl
theorem d_G_spell_0 : decode b_G_spell 0 = .ok (.aload_n 0, 1) := by decide +kernel
theorem d_G_spell_1 : decode b_G_spell 1 = .ok (.iload_n 2, 1) := by decide +kernel
theorem d_G_spell_2 : decode b_G_spell 2 = .ok (.putfield 18, 3) := by decide +kernel
theorem d_G_spell_5 : decode b_G_spell 5 = .ok (.aload_n 0, 1) := by decide +kernel
theorem d_G_spell_6 : decode b_G_spell 6 = .ok (.iload_n 3, 1) := by decide +kernel
theorem d_G_spell_7 : decode b_G_spell 7 = .ok (.iload_n 2, 1) := by decide +kernel
theorem d_G_spell_8 : decode b_G_spell 8 = .ok (.isub, 1) := by decide +kernel
theorem d_G_spell_9 : decode b_G_spell 9 = .ok (.putfield 22, 3) := by decide +kernel
theorem d_G_spell_12 : decode b_G_spell 12 = .ok (.aload_n 0, 1) := by decide +kernel
theorem d_G_spell_13 : decode b_G_spell 13 = .ok (.getfield 9, 3) := by decide +kernel
theorem d_G_spell_16 : decode b_G_spell 16 = .ok (.iconst 0, 1) := by decide +kernel
theorem d_G_spell_17 : decode b_G_spell 17 = .ok (.iconst 0, 1) := by decide +kernel
theorem d_G_spell_18 : decode b_G_spell 18 = .ok (.iastore, 1) := by decide +kernel
theorem d_G_spell_19 : decode b_G_spell 19 = .ok (.iconst 0, 1) := by decide +kernel
theorem d_G_spell_20 : decode b_G_spell 20 = .ok (.istore 5, 2) := by decide +kernel
theorem d_G_spell_22 : decode b_G_spell 22 = .ok (.iload 5, 2) := by decide +kernel
theorem d_G_spell_24 : decode b_G_spell 24 = .ok (.aload_n 0, 1) := by decide +kernel
theorem d_G_spell_25 : decode b_G_spell 25 = .ok (.getfield 22, 3) := by decide +kernel
theorem d_G_spell_28 : decode b_G_spell 28 = .ok (.if_icmp .ge 29, 3) := by decide +kernel
theorem d_G_spell_31 : decode b_G_spell 31 = .ok (.aload_n 0, 1) := by decide +kernel
theorem d_G_spell_32 : decode b_G_spell 32 = .ok (.getfield 9, 3) := by decide +kernel
theorem d_G_spell_35 : decode b_G_spell 35 = .ok (.iload 5, 2) := by decide +kernel
theorem d_G_spell_37 : decode b_G_spell 37 = .ok (.iconst 1, 1) := by decide +kernel
theorem d_G_spell_38 : decode b_G_spell 38 = .ok (.iadd, 1) := by decide +kernel
theorem d_G_spell_39 : decode b_G_spell 39 = .ok (.aload 4, 2) := by decide +kernel
theorem d_G_spell_41 : decode b_G_spell 41 = .ok (.aload_n 1, 1) := by decide +kernel
theorem d_G_spell_42 : decode b_G_spell 42 = .ok (.iload_n 2, 1) := by decide +kernel
theorem d_G_spell_43 : decode b_G_spell 43 = .ok (.iload 5, 2) := by decide +kernel
theorem d_G_spell_45 : decode b_G_spell 45 = .ok (.iadd, 1) := by decide +kernel
theorem d_G_spell_46 : decode b_G_spell 46 = .ok (.iaload, 1) := by decide +kernel
theorem d_G_spell_47 : decode b_G_spell 47 = .ok (.invokevirtual 28, 3) := by decide +kernel
theorem d_G_spell_50 : decode b_G_spell 50 = .ok (.iastore, 1) := by decide +kernel
theorem d_G_spell_51 : decode b_G_spell 51 = .ok (.iinc 5 1, 3) := by decide +kernel
theorem d_G_spell_54 : decode b_G_spell 54 = .ok (.goto (-32), 3) := by decide +kernel
theorem d_G_spell_57 : decode b_G_spell 57 = .ok (.aload_n 0, 1) := by decide +kernel
theorem d_G_spell_58 : decode b_G_spell 58 = .ok (.getfield 9, 3) := by decide +kernel
theorem d_G_spell_61 : decode b_G_spell 61 = .ok (.aload_n 0, 1) := by decide +kernel
theorem d_G_spell_62 : decode b_G_spell 62 = .ok (.getfield 22, 3) := by decide +kernel
theorem d_G_spell_65 : decode b_G_spell 65 = .ok (.iconst 1, 1) := by decide +kernel
theorem d_G_spell_66 : decode b_G_spell 66 = .ok (.iadd, 1) := by decide +kernel
theorem d_G_spell_67 : decode b_G_spell 67 = .ok (.iconst 0, 1) := by decide +kernel
theorem d_G_spell_68 : decode b_G_spell 68 = .ok (.iastore, 1) := by decide +kernel
theorem d_G_spell_69 : decode b_G_spell 69 = .ok (.return_, 1) := by decide +kernel
def lay_G_spell (pc : Nat) : List Nat := if pc = 0 then [0, 1, 2, 3, 4] else if pc = 22 then [0, 1, 2, 4, 5] else []
noncomputable def sg_G_spell_0 (v0 : Nat) (v1 : Nat) (v2 : Int32) (v3 : Int32) (v4 : Nat) (w : hy_W) : Option hy_N := (hy_pf w v0 3 2 (.int v2)).bind fun w1 => (hy_pf w1 v0 3 3 (.int (v3 - v2))).bind fun w2 => (hy_gr w2 v0 3 0).bind fun r3 => (hy_pa w2 0 r3 0 (.int 0)).bind fun w4 => some (.inl (22, [.ref v0, .ref v1, .int v2, .ref v4, .int 0], w4))
noncomputable def sg_G_spell_22 (v0 : Nat) (v1 : Nat) (v2 : Int32) (v4 : Nat) (v5 : Int32) (w : hy_W) : Option hy_N := (hy_gi w v0 3 3).bind fun x1 => if x1 ≤ v5 then ((hy_gr w v0 3 0).bind fun r3 => (hy_gi w v0 3 3).bind fun x4 => (hy_pa w 0 r3 (x4 + 1) (.int 0)).bind fun w5 => some (.inr (.inl none, w5))) else ((hy_gr w v0 3 0).bind fun r6 => (hy_ai w v1 (v2 + v5)).bind fun x7 => if hy_ob w v4 1 = true then hy_bi (f_L_letterOf [.ref v4, .int x7] w) fun x10 w8 => (hy_pa w8 0 r6 (v5 + 1) (.int x10)).bind fun w12 => some (.inl (22, [.ref v0, .ref v1, .int v2, .ref v4, .int (v5 + 1)], w12)) else none)
noncomputable def nx_G_spell (q : hy_P) : Option hy_N := match q with
  | (0, [.ref v0, .ref v1, .int v2, .int v3, .ref v4], w) => sg_G_spell_0 v0 v1 v2 v3 v4 w
  | (22, [.ref v0, .ref v1, .int v2, .ref v4, .int v5], w) => sg_G_spell_22 v0 v1 v2 v4 v5 w
  | _ => none
noncomputable def f_G_spell (av : List Value) (w : hy_W) : Option hy_O := hy_fx nx_G_spell (0, av, w)
set_option maxHeartbeats 4000000 in
set_option maxRecDepth 100000 in
theorem sk_G_spell_0 {p : Program} {l : Launch} {e : Env} {s : State} {m : MethodId} {args : Array Value} {below : List Frame} {meth : Method} {c : Code} {G : hy_G} {A : Nat → Prop} {ad0 : Nat → Nat} {w0 : hy_W} {o : hy_O} (hl9 : l.flags = flags0) (hA : hy_A G ad0 w0 s.heap.size = A) (B : hy_B p l e (hy_rm 1 22 w0) s m args below meth c "HyphenPatterns$Reading" b_G_spell 6 none [] G A) (v0 : Nat) (v1 : Nat) (v2 : Int32) (v3 : Int32) (v4 : Nat) (w : hy_W) (nx : hy_N) (h : sg_G_spell_0 v0 v1 v2 v3 v4 w = some nx) (K : hy_Nx lay_G_spell p l e (hy_rm 1 22 w0) s m args below meth c 6 G A ad0 w0.1.length (hy_Q below G ad0 w0 o args s) o nx) : hy_At lay_G_spell p l e (hy_rm 1 22 w0) s m args below meth c 6 G A ad0 w0.1.length (hy_Q below G ad0 w0 o args s) (0, [.ref v0, .ref v1, .int v2, .int v3, .ref v4], w) := by
  intro ad H locs cells slots ls S hok hl
  have hx := B.1
  have hb := B.2.1
  dsimp only at S hok
  have hl : lv_has ls 6 [(0, .ref (ad v0)), (1, .ref (ad v1)), (2, .int v2), (3, .int v3), (4, .ref (ad v4))] := hl
  show W p l e (hy_rm 1 22 w0) s m args below meth c H locs cells slots (hy_Q below G ad0 w0 o args s) (F0 m 0 ls [])
  have hv_v0 : v0 < w.1.length := hok (.ref v0) (List.mem_of_getElem? (i := 0) rfl) v0 rfl
  obtain ⟨a_v0, ha_v0⟩ : ∃ a, ad v0 = a := ⟨_, rfl⟩
  rw [ha_v0] at hl
  have hv_v1 : v1 < w.1.length := hok (.ref v1) (List.mem_of_getElem? (i := 1) rfl) v1 rfl
  obtain ⟨a_v1, ha_v1⟩ : ∃ a, ad v1 = a := ⟨_, rfl⟩
  rw [ha_v1] at hl
  have hv_v4 : v4 < w.1.length := hok (.ref v4) (List.mem_of_getElem? (i := 4) rfl) v4 rfl
  obtain ⟨a_v4, ha_v4⟩ : ∃ a, ad v4 = a := ⟨_, rfl⟩
  rw [ha_v4] at hl
  unfold sg_G_spell_0 at h
  refine lv_aload_n hx hb d_G_spell_0 rfl (lv_at hl 0 rfl) ?_
  refine lv_iload_n hx hb d_G_spell_1 rfl (lv_at hl 2 rfl) ?_
  obtain ⟨w1, hw1, h⟩ := hy_bd h
  refine hy_put B S ha_v0 rfl hy_cvi hw1 rfl (Nat.le_of_ble_eq_true rfl) i_3 t_3 t_3_ok n_3 (j := 2) tw_83 (fun _ h => h) rfl rfl rfl d_G_spell_2 (fun H locs S hl_w1 => ?_)
  refine lv_aload_n hx hb d_G_spell_5 rfl (lv_at hl 0 rfl) ?_
  refine lv_iload_n hx hb d_G_spell_6 rfl (lv_at hl 3 rfl) ?_
  refine lv_iload_n hx hb d_G_spell_7 rfl (lv_at hl 2 rfl) ?_
  refine lv_isub hx hb d_G_spell_8 ?_
  obtain ⟨w2, hw2, h⟩ := hy_bd h
  refine hy_put B S ha_v0 rfl hy_cvi hw2 rfl (Nat.le_of_ble_eq_true rfl) i_3 t_3 t_3_ok n_3 (j := 3) tw_84 (fun _ h => h) rfl rfl rfl d_G_spell_9 (fun H locs S hl_w2 => ?_)
  refine lv_aload_n hx hb d_G_spell_12 rfl (lv_at hl 0 rfl) ?_
  obtain ⟨r3, hr3, h⟩ := hy_bd h
  refine hy_getr B S ha_v0 hr3 rfl (Nat.le_of_ble_eq_true rfl) i_3 (j := 0) tw_81 (fun _ h => h) d_G_spell_13 (fun a_r3 ha_r3 hv_r3 => ?_)
  refine lv_iconst (v := 0) hx hb d_G_spell_16 (by decide) ?_
  refine lv_iconst (v := 0) hx hb d_G_spell_17 (by decide) ?_
  obtain ⟨w4, hw4, h⟩ := hy_bd h
  refine hy_iast B S ha_r3 hw4 d_G_spell_18 (fun H locs S hl_w4 => ?_)
  refine lv_iconst (v := 0) hx hb d_G_spell_19 (by decide) ?_
  refine lv_istore (lv' := [(5, .int 0), (0, .ref a_v0), (1, .ref a_v1), (2, .int v2), (3, .int v3), (4, .ref a_v4)]) hx hb d_G_spell_20 hl (Nat.le_of_ble_eq_true rfl) rfl (fun ls hl => ?_)
  cases h
  exact hy_jump K S (hy_okr (by omega) (hy_okr (by omega) (hy_oki (hy_okr (by omega) (hy_oki hy_ok0))))) (lv_sub hl [1, 2, 3, 5, 0] rfl) (by subst ha_v0 ha_v1 ha_v4; rfl) (by subst ha_v0 ha_v1 ha_v4; rfl)
set_option maxHeartbeats 4000000 in
set_option maxRecDepth 100000 in
theorem sk_G_spell_22 {p : Program} {l : Launch} {e : Env} {s : State} {m : MethodId} {args : Array Value} {below : List Frame} {meth : Method} {c : Code} {G : hy_G} {A : Nat → Prop} {ad0 : Nat → Nat} {w0 : hy_W} {o : hy_O} (hl9 : l.flags = flags0) (hA : hy_A G ad0 w0 s.heap.size = A) (B : hy_B p l e (hy_rm 1 22 w0) s m args below meth c "HyphenPatterns$Reading" b_G_spell 6 none [] G A) (v0 : Nat) (v1 : Nat) (v2 : Int32) (v4 : Nat) (v5 : Int32) (w : hy_W) (nx : hy_N) (h : sg_G_spell_22 v0 v1 v2 v4 v5 w = some nx) (K : hy_Nx lay_G_spell p l e (hy_rm 1 22 w0) s m args below meth c 6 G A ad0 w0.1.length (hy_Q below G ad0 w0 o args s) o nx) : hy_At lay_G_spell p l e (hy_rm 1 22 w0) s m args below meth c 6 G A ad0 w0.1.length (hy_Q below G ad0 w0 o args s) (22, [.ref v0, .ref v1, .int v2, .ref v4, .int v5], w) := by
  intro ad H locs cells slots ls S hok hl
  have hx := B.1
  have hb := B.2.1
  dsimp only at S hok
  have hl : lv_has ls 6 [(0, .ref (ad v0)), (1, .ref (ad v1)), (2, .int v2), (4, .ref (ad v4)), (5, .int v5)] := hl
  show W p l e (hy_rm 1 22 w0) s m args below meth c H locs cells slots (hy_Q below G ad0 w0 o args s) (F0 m 22 ls [])
  have hv_v0 : v0 < w.1.length := hok (.ref v0) (List.mem_of_getElem? (i := 0) rfl) v0 rfl
  obtain ⟨a_v0, ha_v0⟩ : ∃ a, ad v0 = a := ⟨_, rfl⟩
  rw [ha_v0] at hl
  have hv_v1 : v1 < w.1.length := hok (.ref v1) (List.mem_of_getElem? (i := 1) rfl) v1 rfl
  obtain ⟨a_v1, ha_v1⟩ : ∃ a, ad v1 = a := ⟨_, rfl⟩
  rw [ha_v1] at hl
  have hv_v4 : v4 < w.1.length := hok (.ref v4) (List.mem_of_getElem? (i := 3) rfl) v4 rfl
  obtain ⟨a_v4, ha_v4⟩ : ∃ a, ad v4 = a := ⟨_, rfl⟩
  rw [ha_v4] at hl
  unfold sg_G_spell_22 at h
  refine lv_iload hx hb d_G_spell_22 (lv_at hl 4 rfl) ?_
  refine lv_aload_n hx hb d_G_spell_24 rfl (lv_at hl 0 rfl) ?_
  obtain ⟨x1, hx1, h⟩ := hy_bd h
  refine hy_geti B S ha_v0 hx1 rfl (Nat.le_of_ble_eq_true rfl) i_3 (j := 3) tw_84 (fun _ h => h) d_G_spell_25 ?_
  refine lv_icmp_ge (tgt := 57) hx hb d_G_spell_28 (by decide) (fun c2 => ?_) (fun c2 => ?_)
  · rw [if_pos c2] at h
    refine lv_aload_n hx hb d_G_spell_57 rfl (lv_at hl 0 rfl) ?_
    obtain ⟨r3, hr3, h⟩ := hy_bd h
    refine hy_getr B S ha_v0 hr3 rfl (Nat.le_of_ble_eq_true rfl) i_3 (j := 0) tw_81 (fun _ h => h) d_G_spell_58 (fun a_r3 ha_r3 hv_r3 => ?_)
    refine lv_aload_n hx hb d_G_spell_61 rfl (lv_at hl 0 rfl) ?_
    obtain ⟨x4, hx4, h⟩ := hy_bd h
    refine hy_geti B S ha_v0 hx4 rfl (Nat.le_of_ble_eq_true rfl) i_3 (j := 3) tw_84 (fun _ h => h) d_G_spell_62 ?_
    refine lv_iconst (v := 1) hx hb d_G_spell_65 (by decide) ?_
    refine lv_iadd hx hb d_G_spell_66 ?_
    refine lv_iconst (v := 0) hx hb d_G_spell_67 (by decide) ?_
    obtain ⟨w5, hw5, h⟩ := hy_bd h
    refine hy_iast B S ha_r3 hw5 d_G_spell_68 (fun H locs S hl_w5 => ?_)
    cases h
    cases K
    exact hy_vret hA B S d_G_spell_69
  · rw [if_neg c2] at h
    refine lv_aload_n hx hb d_G_spell_31 rfl (lv_at hl 0 rfl) ?_
    obtain ⟨r6, hr6, h⟩ := hy_bd h
    refine hy_getr B S ha_v0 hr6 rfl (Nat.le_of_ble_eq_true rfl) i_3 (j := 0) tw_81 (fun _ h => h) d_G_spell_32 (fun a_r6 ha_r6 hv_r6 => ?_)
    refine lv_iload hx hb d_G_spell_35 (lv_at hl 4 rfl) ?_
    refine lv_iconst (v := 1) hx hb d_G_spell_37 (by decide) ?_
    refine lv_iadd hx hb d_G_spell_38 ?_
    refine lv_aload hx hb d_G_spell_39 (lv_at hl 3 rfl) ?_
    refine lv_aload_n hx hb d_G_spell_41 rfl (lv_at hl 1 rfl) ?_
    refine lv_iload_n hx hb d_G_spell_42 rfl (lv_at hl 2 rfl) ?_
    refine lv_iload hx hb d_G_spell_43 (lv_at hl 4 rfl) ?_
    refine lv_iadd hx hb d_G_spell_45 ?_
    obtain ⟨x7, hx7, h⟩ := hy_bd h
    refine hy_iald B S ha_v1 hx7 d_G_spell_46 ?_
    obtain ⟨ob11, h⟩ := hy_if h
    obtain ⟨fs_ob11, hf_ob11, hg_ob11⟩ := hy_ob_spec ob11
    obtain ⟨x10, w8, hq_w8, h⟩ := hy_bi_spec h
    refine hy_calli (hy_runV (rest := [.int (v5 + 1), .ref a_r6]) (As := [.int x7]) (r := v4) (b := a_v4) B S rfl ha_v4 (by rfl) (c_L_letterOf hl9 G ad hq_w8) (hy_okr (by omega) (hy_oki hy_ok0)) tw_221 tw_5 tw_246 tw_219 sl_L_letterOf (by decide) rfl (Nat.le_of_ble_eq_true rfl) (Nat.le_of_ble_eq_true rfl) hf_ob11 hg_ob11 rfl hl.1 (Nat.le_of_ble_eq_true rfl) d_G_spell_47) (fun ad9 H locs cells slots hag hl_w8 S => ?_)
    have ha_v0 : ad9 v0 = a_v0 := (hag v0 (by omega)).trans ha_v0
    have ha_v1 : ad9 v1 = a_v1 := (hag v1 (by omega)).trans ha_v1
    have ha_v4 : ad9 v4 = a_v4 := (hag v4 (by omega)).trans ha_v4
    have ha_r6 : ad9 r6 = a_r6 := (hag r6 (by omega)).trans ha_r6
    obtain ⟨w12, hw12, h⟩ := hy_bd h
    refine hy_iast B S ha_r6 hw12 d_G_spell_50 (fun H locs S hl_w12 => ?_)
    refine lv_iinc (v := (v5 + 1)) (lv' := [(5, .int (v5 + 1)), (0, .ref a_v0), (1, .ref a_v1), (2, .int v2), (4, .ref a_v4)]) hx hb d_G_spell_51 hl (k := 4) rfl rfl (Nat.le_of_ble_eq_true rfl) rfl (fun ls hl => ?_)
    refine lv_goto (tgt := 22) hx hb d_G_spell_54 (by decide) ?_
    cases h
    exact hy_jump K S (hy_okr (by omega) (hy_okr (by omega) (hy_oki (hy_okr (by omega) (hy_oki hy_ok0))))) (lv_sub hl [1, 2, 3, 4, 0] rfl) (by subst ha_v0 ha_v1 ha_v4; rfl) (by subst ha_v0 ha_v1 ha_v4; rfl)
theorem nk_G_spell {p : Program} {l : Launch} {e : Env} {s : State} {m : MethodId} {args : Array Value} {below : List Frame} {meth : Method} {c : Code} {G : hy_G} {A : Nat → Prop} {ad0 : Nat → Nat} {w0 : hy_W} {o : hy_O} (hl9 : l.flags = flags0) (hA : hy_A G ad0 w0 s.heap.size = A) (B : hy_B p l e (hy_rm 1 22 w0) s m args below meth c "HyphenPatterns$Reading" b_G_spell 6 none [] G A) (q : hy_P) (nx : hy_N) (hq : nx_G_spell q = some nx) (K : hy_Nx lay_G_spell p l e (hy_rm 1 22 w0) s m args below meth c 6 G A ad0 w0.1.length (hy_Q below G ad0 w0 o args s) o nx) : hy_At lay_G_spell p l e (hy_rm 1 22 w0) s m args below meth c 6 G A ad0 w0.1.length (hy_Q below G ad0 w0 o args s) q := by
  unfold nx_G_spell at hq
  split at hq
  · exact sk_G_spell_0 hl9 hA B _ _ _ _ _ _ nx hq K
  · exact sk_G_spell_22 hl9 hA B _ _ _ _ _ _ nx hq K
  · cases hq
theorem c_G_spell {l : Launch} (hl9 : l.flags = flags0) (G : hy_G) (ad : Nat → Nat) {v0 : Nat} {v1 : Nat} {v2 : Int32} {v3 : Int32} {v4 : Nat} {w : hy_W} {o : hy_O} (h : f_G_spell [.ref v0, .ref v1, .int v2, .int v3, .ref v4] w = some o) : hy_M l y_G_spell (Cond.code y_G_spell b_G_spell 6 none :: hy_T) 1 22 G ad [.ref v0, .ref v1, .int v2, .int v3, .ref v4] w o := by
  obtain ⟨n, hn⟩ := hy_fx_iff.mp h
  refine hy_ofW hl9 (by decide +kernel) (Nat.le_of_ble_eq_true rfl) (fun p e s m args below meth c A hA hi B S hok ls hl => ?_)
  exact hy_loop (nk_G_spell hl9 hA B) n _ hn ad s.heap [] 0 0 ls S hok hl
theorem d_J_fill_0 : decode b_J_fill 0 = .ok (.iconst 0, 1) := by decide +kernel
theorem d_J_fill_1 : decode b_J_fill 1 = .ok (.istore_n 2, 1) := by decide +kernel
theorem d_J_fill_2 : decode b_J_fill 2 = .ok (.aload_n 0, 1) := by decide +kernel
theorem d_J_fill_3 : decode b_J_fill 3 = .ok (.arraylength, 1) := by decide +kernel
theorem d_J_fill_4 : decode b_J_fill 4 = .ok (.istore_n 3, 1) := by decide +kernel
theorem d_J_fill_5 : decode b_J_fill 5 = .ok (.iload_n 2, 1) := by decide +kernel
theorem d_J_fill_6 : decode b_J_fill 6 = .ok (.iload_n 3, 1) := by decide +kernel
theorem d_J_fill_7 : decode b_J_fill 7 = .ok (.if_icmp .ge 13, 3) := by decide +kernel
theorem d_J_fill_10 : decode b_J_fill 10 = .ok (.aload_n 0, 1) := by decide +kernel
theorem d_J_fill_11 : decode b_J_fill 11 = .ok (.iload_n 2, 1) := by decide +kernel
theorem d_J_fill_12 : decode b_J_fill 12 = .ok (.iload_n 1, 1) := by decide +kernel
theorem d_J_fill_13 : decode b_J_fill 13 = .ok (.iastore, 1) := by decide +kernel
theorem d_J_fill_14 : decode b_J_fill 14 = .ok (.iinc 2 1, 3) := by decide +kernel
theorem d_J_fill_17 : decode b_J_fill 17 = .ok (.goto (-12), 3) := by decide +kernel
theorem d_J_fill_20 : decode b_J_fill 20 = .ok (.return_, 1) := by decide +kernel
def lay_J_fill (pc : Nat) : List Nat := if pc = 0 then [0, 1] else if pc = 5 then [0, 1, 2, 3] else []
noncomputable def sg_J_fill_0 (v0 : Nat) (v1 : Int32) (w : hy_W) : Option hy_N := if v0 ≠ 1 then (hy_ln w 0 v0).bind fun n1 => some (.inl (5, [.ref v0, .int v1, .int 0, .int (nI n1)], w)) else none
noncomputable def sg_J_fill_5 (v0 : Nat) (v1 : Int32) (v2 : Int32) (v3 : Int32) (w : hy_W) : Option hy_N := if v3 ≤ v2 then (some (.inr (.inl none, w))) else ((hy_pa w 0 v0 v2 (.int v1)).bind fun w2 => some (.inl (5, [.ref v0, .int v1, .int (v2 + 1), .int v3], w2)))
noncomputable def nx_J_fill (q : hy_P) : Option hy_N := match q with
  | (0, [.ref v0, .int v1], w) => sg_J_fill_0 v0 v1 w
  | (5, [.ref v0, .int v1, .int v2, .int v3], w) => sg_J_fill_5 v0 v1 v2 v3 w
  | _ => none
noncomputable def f_J_fill (av : List Value) (w : hy_W) : Option hy_O := hy_fx nx_J_fill (0, av, w)
set_option maxHeartbeats 4000000 in
set_option maxRecDepth 100000 in
theorem sk_J_fill_0 {p : Program} {l : Launch} {e : Env} {s : State} {m : MethodId} {args : Array Value} {below : List Frame} {meth : Method} {c : Code} {G : hy_G} {A : Nat → Prop} {ad0 : Nat → Nat} {w0 : hy_W} {o : hy_O} (hl9 : l.flags = flags0) (hA : hy_A G ad0 w0 s.heap.size = A) (B : hy_B p l e (hy_rm 0 0 w0) s m args below meth c "java/util/Arrays" b_J_fill 4 none [] G A) (v0 : Nat) (v1 : Int32) (w : hy_W) (nx : hy_N) (h : sg_J_fill_0 v0 v1 w = some nx) (K : hy_Nx lay_J_fill p l e (hy_rm 0 0 w0) s m args below meth c 4 G A ad0 w0.1.length (hy_Q below G ad0 w0 o args s) o nx) : hy_At lay_J_fill p l e (hy_rm 0 0 w0) s m args below meth c 4 G A ad0 w0.1.length (hy_Q below G ad0 w0 o args s) (0, [.ref v0, .int v1], w) := by
  intro ad H locs cells slots ls S hok hl
  have hx := B.1
  have hb := B.2.1
  dsimp only at S hok
  have hl : lv_has ls 4 [(0, .ref (ad v0)), (1, .int v1)] := hl
  show W p l e (hy_rm 0 0 w0) s m args below meth c H locs cells slots (hy_Q below G ad0 w0 o args s) (F0 m 0 ls [])
  have hv_v0 : v0 < w.1.length := hok (.ref v0) (List.mem_of_getElem? (i := 0) rfl) v0 rfl
  obtain ⟨a_v0, ha_v0⟩ : ∃ a, ad v0 = a := ⟨_, rfl⟩
  rw [ha_v0] at hl
  unfold sg_J_fill_0 at h
  refine lv_iconst (v := 0) hx hb d_J_fill_0 (by decide) ?_
  refine lv_istore_n (lv' := [(2, .int 0), (0, .ref a_v0), (1, .int v1)]) hx hb d_J_fill_1 rfl hl (Nat.le_of_ble_eq_true rfl) rfl (fun ls hl => ?_)
  refine lv_aload_n hx hb d_J_fill_2 rfl (lv_at hl 1 rfl) ?_
  obtain ⟨h1n1, h⟩ := hy_if h
  obtain ⟨n1, hn1, h⟩ := hy_bd h
  refine hy_alen B S ha_v0 (t := 0) (Nat.le_of_ble_eq_true rfl) hn1 h1n1 d_J_fill_3 ?_
  refine lv_istore_n (lv' := [(3, .int (nI n1)), (2, .int 0), (0, .ref a_v0), (1, .int v1)]) hx hb d_J_fill_4 rfl hl (Nat.le_of_ble_eq_true rfl) rfl (fun ls hl => ?_)
  cases h
  exact hy_jump K S (hy_okr (by omega) (hy_oki (hy_oki (hy_oki hy_ok0)))) (lv_sub hl [2, 3, 1, 0] rfl) (by subst ha_v0; rfl) (by subst ha_v0; rfl)
set_option maxHeartbeats 4000000 in
set_option maxRecDepth 100000 in
theorem sk_J_fill_5 {p : Program} {l : Launch} {e : Env} {s : State} {m : MethodId} {args : Array Value} {below : List Frame} {meth : Method} {c : Code} {G : hy_G} {A : Nat → Prop} {ad0 : Nat → Nat} {w0 : hy_W} {o : hy_O} (hl9 : l.flags = flags0) (hA : hy_A G ad0 w0 s.heap.size = A) (B : hy_B p l e (hy_rm 0 0 w0) s m args below meth c "java/util/Arrays" b_J_fill 4 none [] G A) (v0 : Nat) (v1 : Int32) (v2 : Int32) (v3 : Int32) (w : hy_W) (nx : hy_N) (h : sg_J_fill_5 v0 v1 v2 v3 w = some nx) (K : hy_Nx lay_J_fill p l e (hy_rm 0 0 w0) s m args below meth c 4 G A ad0 w0.1.length (hy_Q below G ad0 w0 o args s) o nx) : hy_At lay_J_fill p l e (hy_rm 0 0 w0) s m args below meth c 4 G A ad0 w0.1.length (hy_Q below G ad0 w0 o args s) (5, [.ref v0, .int v1, .int v2, .int v3], w) := by
  intro ad H locs cells slots ls S hok hl
  have hx := B.1
  have hb := B.2.1
  dsimp only at S hok
  have hl : lv_has ls 4 [(0, .ref (ad v0)), (1, .int v1), (2, .int v2), (3, .int v3)] := hl
  show W p l e (hy_rm 0 0 w0) s m args below meth c H locs cells slots (hy_Q below G ad0 w0 o args s) (F0 m 5 ls [])
  have hv_v0 : v0 < w.1.length := hok (.ref v0) (List.mem_of_getElem? (i := 0) rfl) v0 rfl
  obtain ⟨a_v0, ha_v0⟩ : ∃ a, ad v0 = a := ⟨_, rfl⟩
  rw [ha_v0] at hl
  unfold sg_J_fill_5 at h
  refine lv_iload_n hx hb d_J_fill_5 rfl (lv_at hl 2 rfl) ?_
  refine lv_iload_n hx hb d_J_fill_6 rfl (lv_at hl 3 rfl) ?_
  refine lv_icmp_ge (tgt := 20) hx hb d_J_fill_7 (by decide) (fun c1 => ?_) (fun c1 => ?_)
  · rw [if_pos c1] at h
    cases h
    cases K
    exact hy_vret hA B S d_J_fill_20
  · rw [if_neg c1] at h
    refine lv_aload_n hx hb d_J_fill_10 rfl (lv_at hl 0 rfl) ?_
    refine lv_iload_n hx hb d_J_fill_11 rfl (lv_at hl 2 rfl) ?_
    refine lv_iload_n hx hb d_J_fill_12 rfl (lv_at hl 1 rfl) ?_
    obtain ⟨w2, hw2, h⟩ := hy_bd h
    refine hy_iast B S ha_v0 hw2 d_J_fill_13 (fun H locs S hl_w2 => ?_)
    refine lv_iinc (v := (v2 + 1)) (lv' := [(2, .int (v2 + 1)), (0, .ref a_v0), (1, .int v1), (3, .int v3)]) hx hb d_J_fill_14 hl (k := 2) rfl rfl (Nat.le_of_ble_eq_true rfl) rfl (fun ls hl => ?_)
    refine lv_goto (tgt := 5) hx hb d_J_fill_17 (by decide) ?_
    cases h
    exact hy_jump K S (hy_okr (by omega) (hy_oki (hy_oki (hy_oki hy_ok0)))) (lv_sub hl [1, 2, 0, 3] rfl) (by subst ha_v0; rfl) (by subst ha_v0; rfl)
theorem nk_J_fill {p : Program} {l : Launch} {e : Env} {s : State} {m : MethodId} {args : Array Value} {below : List Frame} {meth : Method} {c : Code} {G : hy_G} {A : Nat → Prop} {ad0 : Nat → Nat} {w0 : hy_W} {o : hy_O} (hl9 : l.flags = flags0) (hA : hy_A G ad0 w0 s.heap.size = A) (B : hy_B p l e (hy_rm 0 0 w0) s m args below meth c "java/util/Arrays" b_J_fill 4 none [] G A) (q : hy_P) (nx : hy_N) (hq : nx_J_fill q = some nx) (K : hy_Nx lay_J_fill p l e (hy_rm 0 0 w0) s m args below meth c 4 G A ad0 w0.1.length (hy_Q below G ad0 w0 o args s) o nx) : hy_At lay_J_fill p l e (hy_rm 0 0 w0) s m args below meth c 4 G A ad0 w0.1.length (hy_Q below G ad0 w0 o args s) q := by
  unfold nx_J_fill at hq
  split at hq
  · exact sk_J_fill_0 hl9 hA B _ _ _ nx hq K
  · exact sk_J_fill_5 hl9 hA B _ _ _ _ _ nx hq K
  · cases hq
theorem c_J_fill {l : Launch} (hl9 : l.flags = flags0) (G : hy_G) (ad : Nat → Nat) {v0 : Nat} {v1 : Int32} {w : hy_W} {o : hy_O} (h : f_J_fill [.ref v0, .int v1] w = some o) : hy_M l y_J_fill (Cond.code y_J_fill b_J_fill 4 none :: hy_T) 0 0 G ad [.ref v0, .int v1] w o := by
  obtain ⟨n, hn⟩ := hy_fx_iff.mp h
  refine hy_ofW hl9 (by decide +kernel) (Nat.le_of_ble_eq_true rfl) (fun p e s m args below meth c A hA hi B S hok ls hl => ?_)
  exact hy_loop (nk_J_fill hl9 hA B) n _ hn ad s.heap [] 0 0 ls S hok hl
theorem d_J_check3_0 : decode b_J_check3 0 = .ok (.iload_n 0, 1) := by decide +kernel
theorem d_J_check3_1 : decode b_J_check3 1 = .ok (.ifCond .lt 8, 3) := by decide +kernel
theorem d_J_check3_4 : decode b_J_check3 4 = .ok (.iload_n 0, 1) := by decide +kernel
theorem d_J_check3_5 : decode b_J_check3 5 = .ok (.iload_n 1, 1) := by decide +kernel
theorem d_J_check3_6 : decode b_J_check3 6 = .ok (.if_icmp .lt 10, 3) := by decide +kernel
theorem d_J_check3_9 : decode b_J_check3 9 = .ok (.aload_n 2, 1) := by decide +kernel
theorem d_J_check3_10 : decode b_J_check3 10 = .ok (.iload_n 0, 1) := by decide +kernel
theorem d_J_check3_11 : decode b_J_check3 11 = .ok (.iload_n 1, 1) := by decide +kernel
theorem d_J_check3_12 : decode b_J_check3 12 = .ok (.invokestatic 95, 3) := by decide +kernel
theorem d_J_check3_15 : decode b_J_check3 15 = .ok (.athrow, 1) := by decide +kernel
theorem d_J_check3_16 : decode b_J_check3 16 = .ok (.iload_n 0, 1) := by decide +kernel
theorem d_J_check3_17 : decode b_J_check3 17 = .ok (.ireturn, 1) := by decide +kernel
def lay_J_check3 (pc : Nat) : List Nat := if pc = 0 then [0, 1, 2] else if pc = 9 then [0, 1, 2] else []
noncomputable def sg_J_check3_0 (v0 : Int32) (v1 : Int32) (w : hy_W) : Option hy_N := if v0 < 0 then (some (.inl (9, [.int v0, .int v1, .null], w))) else (if v0 < v1 then (some (.inr (.inl (some (.int v0)), w))) else (some (.inl (9, [.int v0, .int v1, .null], w))))
noncomputable def sg_J_check3_9 (v0 : Int32) (v1 : Int32) (w : hy_W) : Option hy_N := none
noncomputable def nx_J_check3 (q : hy_P) : Option hy_N := match q with
  | (0, [.int v0, .int v1, .null], w) => sg_J_check3_0 v0 v1 w
  | (9, [.int v0, .int v1, .null], w) => sg_J_check3_9 v0 v1 w
  | _ => none
noncomputable def f_J_check3 (av : List Value) (w : hy_W) : Option hy_O := hy_fx nx_J_check3 (0, av, w)
set_option maxHeartbeats 4000000 in
set_option maxRecDepth 100000 in
theorem sk_J_check3_0 {p : Program} {l : Launch} {e : Env} {s : State} {m : MethodId} {args : Array Value} {below : List Frame} {meth : Method} {c : Code} {G : hy_G} {A : Nat → Prop} {ad0 : Nat → Nat} {w0 : hy_W} {o : hy_O} (hl9 : l.flags = flags0) (hA : hy_A G ad0 w0 s.heap.size = A) (B : hy_B p l e (hy_rm 0 0 w0) s m args below meth c "jdk/internal/util/Preconditions" b_J_check3 3 (some .int) [] G A) (v0 : Int32) (v1 : Int32) (w : hy_W) (nx : hy_N) (h : sg_J_check3_0 v0 v1 w = some nx) (K : hy_Nx lay_J_check3 p l e (hy_rm 0 0 w0) s m args below meth c 3 G A ad0 w0.1.length (hy_Q below G ad0 w0 o args s) o nx) : hy_At lay_J_check3 p l e (hy_rm 0 0 w0) s m args below meth c 3 G A ad0 w0.1.length (hy_Q below G ad0 w0 o args s) (0, [.int v0, .int v1, .null], w) := by
  intro ad H locs cells slots ls S hok hl
  have hx := B.1
  have hb := B.2.1
  dsimp only at S hok
  have hl : lv_has ls 3 [(0, .int v0), (1, .int v1), (2, .null)] := hl
  show W p l e (hy_rm 0 0 w0) s m args below meth c H locs cells slots (hy_Q below G ad0 w0 o args s) (F0 m 0 ls [])
  unfold sg_J_check3_0 at h
  refine lv_iload_n hx hb d_J_check3_0 rfl (lv_at hl 0 rfl) ?_
  refine lv_if_lt (tgt := 9) hx hb d_J_check3_1 (by decide) (fun c1 => ?_) (fun c1 => ?_)
  · rw [if_pos c1] at h
    cases h
    exact hy_jump K S (hy_oki (hy_oki (hy_okn hy_ok0))) (lv_sub hl [0, 1, 2] rfl) (by rfl) (by rfl)
  · rw [if_neg c1] at h
    refine lv_iload_n hx hb d_J_check3_4 rfl (lv_at hl 0 rfl) ?_
    refine lv_iload_n hx hb d_J_check3_5 rfl (lv_at hl 1 rfl) ?_
    refine lv_icmp_lt (tgt := 16) hx hb d_J_check3_6 (by decide) (fun c2 => ?_) (fun c2 => ?_)
    · rw [if_pos c2] at h
      refine lv_iload_n hx hb d_J_check3_16 rfl (lv_at hl 0 rfl) ?_
      cases h
      cases K
      exact hy_iret hA B S d_J_check3_17
    · rw [if_neg c2] at h
      cases h
      exact hy_jump K S (hy_oki (hy_oki (hy_okn hy_ok0))) (lv_sub hl [0, 1, 2] rfl) (by rfl) (by rfl)
set_option maxHeartbeats 4000000 in
set_option maxRecDepth 100000 in
theorem sk_J_check3_9 {p : Program} {l : Launch} {e : Env} {s : State} {m : MethodId} {args : Array Value} {below : List Frame} {meth : Method} {c : Code} {G : hy_G} {A : Nat → Prop} {ad0 : Nat → Nat} {w0 : hy_W} {o : hy_O} (hl9 : l.flags = flags0) (hA : hy_A G ad0 w0 s.heap.size = A) (B : hy_B p l e (hy_rm 0 0 w0) s m args below meth c "jdk/internal/util/Preconditions" b_J_check3 3 (some .int) [] G A) (v0 : Int32) (v1 : Int32) (w : hy_W) (nx : hy_N) (h : sg_J_check3_9 v0 v1 w = some nx) (K : hy_Nx lay_J_check3 p l e (hy_rm 0 0 w0) s m args below meth c 3 G A ad0 w0.1.length (hy_Q below G ad0 w0 o args s) o nx) : hy_At lay_J_check3 p l e (hy_rm 0 0 w0) s m args below meth c 3 G A ad0 w0.1.length (hy_Q below G ad0 w0 o args s) (9, [.int v0, .int v1, .null], w) := by
  intro ad H locs cells slots ls S hok hl
  have hx := B.1
  have hb := B.2.1
  dsimp only at S hok
  have hl : lv_has ls 3 [(0, .int v0), (1, .int v1), (2, .null)] := hl
  show W p l e (hy_rm 0 0 w0) s m args below meth c H locs cells slots (hy_Q below G ad0 w0 o args s) (F0 m 9 ls [])
  unfold sg_J_check3_9 at h
  refine lv_aload_nN hx hb d_J_check3_9 rfl (lv_at hl 2 rfl) ?_
  refine lv_iload_n hx hb d_J_check3_10 rfl (lv_at hl 0 rfl) ?_
  refine lv_iload_n hx hb d_J_check3_11 rfl (lv_at hl 1 rfl) ?_
  cases h
theorem nk_J_check3 {p : Program} {l : Launch} {e : Env} {s : State} {m : MethodId} {args : Array Value} {below : List Frame} {meth : Method} {c : Code} {G : hy_G} {A : Nat → Prop} {ad0 : Nat → Nat} {w0 : hy_W} {o : hy_O} (hl9 : l.flags = flags0) (hA : hy_A G ad0 w0 s.heap.size = A) (B : hy_B p l e (hy_rm 0 0 w0) s m args below meth c "jdk/internal/util/Preconditions" b_J_check3 3 (some .int) [] G A) (q : hy_P) (nx : hy_N) (hq : nx_J_check3 q = some nx) (K : hy_Nx lay_J_check3 p l e (hy_rm 0 0 w0) s m args below meth c 3 G A ad0 w0.1.length (hy_Q below G ad0 w0 o args s) o nx) : hy_At lay_J_check3 p l e (hy_rm 0 0 w0) s m args below meth c 3 G A ad0 w0.1.length (hy_Q below G ad0 w0 o args s) q := by
  unfold nx_J_check3 at hq
  split at hq
  · exact sk_J_check3_0 hl9 hA B _ _ _ nx hq K
  · exact sk_J_check3_9 hl9 hA B _ _ _ nx hq K
  · cases hq
theorem c_J_check3 {l : Launch} (hl9 : l.flags = flags0) (G : hy_G) (ad : Nat → Nat) {v0 : Int32} {v1 : Int32} {w : hy_W} {o : hy_O} (h : f_J_check3 [.int v0, .int v1, .null] w = some o) : hy_M l y_J_check3 (Cond.code y_J_check3 b_J_check3 3 (some .int) :: hy_T) 0 0 G ad [.int v0, .int v1, .null] w o := by
  obtain ⟨n, hn⟩ := hy_fx_iff.mp h
  refine hy_ofW hl9 (by decide +kernel) (Nat.le_of_ble_eq_true rfl) (fun p e s m args below meth c A hA hi B S hok ls hl => ?_)
  exact hy_loop (nk_J_check3 hl9 hA B) n _ hn ad s.heap [] 0 0 ls S hok hl
theorem d_J_check2_0 : decode b_J_check2 0 = .ok (.iload_n 0, 1) := by decide +kernel
theorem d_J_check2_1 : decode b_J_check2 1 = .ok (.iload_n 1, 1) := by decide +kernel
theorem d_J_check2_2 : decode b_J_check2 2 = .ok (.aconst_null, 1) := by decide +kernel
theorem d_J_check2_3 : decode b_J_check2 3 = .ok (.invokestatic 105, 3) := by decide +kernel
theorem d_J_check2_6 : decode b_J_check2 6 = .ok (.ireturn, 1) := by decide +kernel
def lay_J_check2 (pc : Nat) : List Nat := if pc = 0 then [0, 1] else []
noncomputable def sg_J_check2_0 (v0 : Int32) (v1 : Int32) (w : hy_W) : Option hy_N := hy_bi (f_J_check3 [.int v0, .int v1, .null] w) fun x3 w1 => some (.inr (.inl (some (.int x3)), w1))
noncomputable def nx_J_check2 (q : hy_P) : Option hy_N := match q with
  | (0, [.int v0, .int v1], w) => sg_J_check2_0 v0 v1 w
  | _ => none
noncomputable def f_J_check2 (av : List Value) (w : hy_W) : Option hy_O := hy_fx nx_J_check2 (0, av, w)
set_option maxHeartbeats 4000000 in
set_option maxRecDepth 100000 in
theorem sk_J_check2_0 {p : Program} {l : Launch} {e : Env} {s : State} {m : MethodId} {args : Array Value} {below : List Frame} {meth : Method} {c : Code} {G : hy_G} {A : Nat → Prop} {ad0 : Nat → Nat} {w0 : hy_W} {o : hy_O} (hl9 : l.flags = flags0) (hA : hy_A G ad0 w0 s.heap.size = A) (B : hy_B p l e (hy_rm 1 22 w0) s m args below meth c "java/util/Objects" b_J_check2 2 (some .int) [] G A) (v0 : Int32) (v1 : Int32) (w : hy_W) (nx : hy_N) (h : sg_J_check2_0 v0 v1 w = some nx) (K : hy_Nx lay_J_check2 p l e (hy_rm 1 22 w0) s m args below meth c 2 G A ad0 w0.1.length (hy_Q below G ad0 w0 o args s) o nx) : hy_At lay_J_check2 p l e (hy_rm 1 22 w0) s m args below meth c 2 G A ad0 w0.1.length (hy_Q below G ad0 w0 o args s) (0, [.int v0, .int v1], w) := by
  intro ad H locs cells slots ls S hok hl
  have hx := B.1
  have hb := B.2.1
  dsimp only at S hok
  have hl : lv_has ls 2 [(0, .int v0), (1, .int v1)] := hl
  show W p l e (hy_rm 1 22 w0) s m args below meth c H locs cells slots (hy_Q below G ad0 w0 o args s) (F0 m 0 ls [])
  unfold sg_J_check2_0 at h
  refine lv_iload_n hx hb d_J_check2_0 rfl (lv_at hl 0 rfl) ?_
  refine lv_iload_n hx hb d_J_check2_1 rfl (lv_at hl 1 rfl) ?_
  refine lv_null hx hb d_J_check2_2 ?_
  obtain ⟨x3, w1, hq_w1, h⟩ := hy_bi_spec h
  refine hy_calli (hy_runS (rest := []) (As := [.int v0, .int v1, .null]) B S (by rfl) (c_J_check3 hl9 G ad hq_w1) (hy_oki (hy_oki (hy_okn hy_ok0))) tw_266 tw_18 tw_264 tw_265 (by decide) rfl (Nat.le_of_ble_eq_true rfl) (Nat.le_of_ble_eq_true rfl) hl.1 (Nat.le_of_ble_eq_true rfl) d_J_check2_3) (fun ad2 H locs cells slots hag hl_w1 S => ?_)
  cases h
  cases K
  exact hy_iret hA B S d_J_check2_6
theorem nk_J_check2 {p : Program} {l : Launch} {e : Env} {s : State} {m : MethodId} {args : Array Value} {below : List Frame} {meth : Method} {c : Code} {G : hy_G} {A : Nat → Prop} {ad0 : Nat → Nat} {w0 : hy_W} {o : hy_O} (hl9 : l.flags = flags0) (hA : hy_A G ad0 w0 s.heap.size = A) (B : hy_B p l e (hy_rm 1 22 w0) s m args below meth c "java/util/Objects" b_J_check2 2 (some .int) [] G A) (q : hy_P) (nx : hy_N) (hq : nx_J_check2 q = some nx) (K : hy_Nx lay_J_check2 p l e (hy_rm 1 22 w0) s m args below meth c 2 G A ad0 w0.1.length (hy_Q below G ad0 w0 o args s) o nx) : hy_At lay_J_check2 p l e (hy_rm 1 22 w0) s m args below meth c 2 G A ad0 w0.1.length (hy_Q below G ad0 w0 o args s) q := by
  unfold nx_J_check2 at hq
  split at hq
  · exact sk_J_check2_0 hl9 hA B _ _ _ nx hq K
  · cases hq
theorem c_J_check2 {l : Launch} (hl9 : l.flags = flags0) (G : hy_G) (ad : Nat → Nat) {v0 : Int32} {v1 : Int32} {w : hy_W} {o : hy_O} (h : f_J_check2 [.int v0, .int v1] w = some o) : hy_M l y_J_check2 (Cond.code y_J_check2 b_J_check2 2 (some .int) :: hy_T) 1 22 G ad [.int v0, .int v1] w o := by
  obtain ⟨n, hn⟩ := hy_fx_iff.mp h
  refine hy_ofW hl9 (by decide +kernel) (Nat.le_of_ble_eq_true rfl) (fun p e s m args below meth c A hA hi B S hok ls hl => ?_)
  exact hy_loop (nk_J_check2 hl9 hA B) n _ hn ad s.heap [] 0 0 ls S hok hl
theorem d_A_elementData_0 : decode b_A_elementData 0 = .ok (.aload_n 0, 1) := by decide +kernel
theorem d_A_elementData_1 : decode b_A_elementData 1 = .ok (.getfield 9, 3) := by decide +kernel
theorem d_A_elementData_4 : decode b_A_elementData 4 = .ok (.iload_n 1, 1) := by decide +kernel
theorem d_A_elementData_5 : decode b_A_elementData 5 = .ok (.aaload, 1) := by decide +kernel
theorem d_A_elementData_6 : decode b_A_elementData 6 = .ok (.areturn, 1) := by decide +kernel
def lay_A_elementData (pc : Nat) : List Nat := if pc = 0 then [0, 1] else []
noncomputable def sg_A_elementData_0 (v0 : Nat) (v1 : Int32) (w : hy_W) : Option hy_N := (hy_gr w v0 7 0).bind fun r1 => (hy_ar w 3 r1 v1).bind fun r2 => some (.inr (.inl (some (.ref r2)), w))
noncomputable def nx_A_elementData (q : hy_P) : Option hy_N := match q with
  | (0, [.ref v0, .int v1], w) => sg_A_elementData_0 v0 v1 w
  | _ => none
noncomputable def f_A_elementData (av : List Value) (w : hy_W) : Option hy_O := hy_fx nx_A_elementData (0, av, w)
set_option maxHeartbeats 4000000 in
set_option maxRecDepth 100000 in
theorem sk_A_elementData_0 {p : Program} {l : Launch} {e : Env} {s : State} {m : MethodId} {args : Array Value} {below : List Frame} {meth : Method} {c : Code} {G : hy_G} {A : Nat → Prop} {ad0 : Nat → Nat} {w0 : hy_W} {o : hy_O} (hl9 : l.flags = flags0) (hA : hy_A G ad0 w0 s.heap.size = A) (B : hy_B p l e (hy_rm 0 0 w0) s m args below meth c "java/util/ArrayList" b_A_elementData 2 (some (.object "java/lang/Object")) [] G A) (v0 : Nat) (v1 : Int32) (w : hy_W) (nx : hy_N) (h : sg_A_elementData_0 v0 v1 w = some nx) (K : hy_Nx lay_A_elementData p l e (hy_rm 0 0 w0) s m args below meth c 2 G A ad0 w0.1.length (hy_Q below G ad0 w0 o args s) o nx) : hy_At lay_A_elementData p l e (hy_rm 0 0 w0) s m args below meth c 2 G A ad0 w0.1.length (hy_Q below G ad0 w0 o args s) (0, [.ref v0, .int v1], w) := by
  intro ad H locs cells slots ls S hok hl
  have hx := B.1
  have hb := B.2.1
  dsimp only at S hok
  have hl : lv_has ls 2 [(0, .ref (ad v0)), (1, .int v1)] := hl
  show W p l e (hy_rm 0 0 w0) s m args below meth c H locs cells slots (hy_Q below G ad0 w0 o args s) (F0 m 0 ls [])
  have hv_v0 : v0 < w.1.length := hok (.ref v0) (List.mem_of_getElem? (i := 0) rfl) v0 rfl
  obtain ⟨a_v0, ha_v0⟩ : ∃ a, ad v0 = a := ⟨_, rfl⟩
  rw [ha_v0] at hl
  unfold sg_A_elementData_0 at h
  refine lv_aload_n hx hb d_A_elementData_0 rfl (lv_at hl 0 rfl) ?_
  obtain ⟨r1, hr1, h⟩ := hy_bd h
  refine hy_getr B S ha_v0 hr1 rfl (Nat.le_of_ble_eq_true rfl) i_7 (j := 0) tw_117 (fun _ h => h) d_A_elementData_1 (fun a_r1 ha_r1 hv_r1 => ?_)
  refine lv_iload_n hx hb d_A_elementData_4 rfl (lv_at hl 1 rfl) ?_
  obtain ⟨r2, hr2, h⟩ := hy_bd h
  refine hy_aald B S ha_r1 (Or.inr rfl) hr2 d_A_elementData_5 (fun a_r2 ha_r2 hv_r2 => ?_)
  cases h
  cases K
  exact hy_aret hA B S (Or.inl ⟨_, rfl⟩) ha_r2 (by omega) d_A_elementData_6
theorem nk_A_elementData {p : Program} {l : Launch} {e : Env} {s : State} {m : MethodId} {args : Array Value} {below : List Frame} {meth : Method} {c : Code} {G : hy_G} {A : Nat → Prop} {ad0 : Nat → Nat} {w0 : hy_W} {o : hy_O} (hl9 : l.flags = flags0) (hA : hy_A G ad0 w0 s.heap.size = A) (B : hy_B p l e (hy_rm 0 0 w0) s m args below meth c "java/util/ArrayList" b_A_elementData 2 (some (.object "java/lang/Object")) [] G A) (q : hy_P) (nx : hy_N) (hq : nx_A_elementData q = some nx) (K : hy_Nx lay_A_elementData p l e (hy_rm 0 0 w0) s m args below meth c 2 G A ad0 w0.1.length (hy_Q below G ad0 w0 o args s) o nx) : hy_At lay_A_elementData p l e (hy_rm 0 0 w0) s m args below meth c 2 G A ad0 w0.1.length (hy_Q below G ad0 w0 o args s) q := by
  unfold nx_A_elementData at hq
  split at hq
  · exact sk_A_elementData_0 hl9 hA B _ _ _ nx hq K
  · cases hq
theorem c_A_elementData {l : Launch} (hl9 : l.flags = flags0) (G : hy_G) (ad : Nat → Nat) {v0 : Nat} {v1 : Int32} {w : hy_W} {o : hy_O} (h : f_A_elementData [.ref v0, .int v1] w = some o) : hy_M l y_A_elementData (Cond.code y_A_elementData b_A_elementData 2 (some (.object "java/lang/Object")) :: hy_T) 0 0 G ad [.ref v0, .int v1] w o := by
  obtain ⟨n, hn⟩ := hy_fx_iff.mp h
  refine hy_ofW hl9 (by decide +kernel) (Nat.le_of_ble_eq_true rfl) (fun p e s m args below meth c A hA hi B S hok ls hl => ?_)
  exact hy_loop (nk_A_elementData hl9 hA B) n _ hn ad s.heap [] 0 0 ls S hok hl
theorem d_A_get_0 : decode b_A_get 0 = .ok (.iload_n 1, 1) := by decide +kernel
theorem d_A_get_1 : decode b_A_get 1 = .ok (.aload_n 0, 1) := by decide +kernel
theorem d_A_get_2 : decode b_A_get 2 = .ok (.getfield 48, 3) := by decide +kernel
theorem d_A_get_5 : decode b_A_get 5 = .ok (.invokestatic 118, 3) := by decide +kernel
theorem d_A_get_8 : decode b_A_get 8 = .ok (.pop, 1) := by decide +kernel
theorem d_A_get_9 : decode b_A_get 9 = .ok (.aload_n 0, 1) := by decide +kernel
theorem d_A_get_10 : decode b_A_get 10 = .ok (.iload_n 1, 1) := by decide +kernel
theorem d_A_get_11 : decode b_A_get 11 = .ok (.invokevirtual 123, 3) := by decide +kernel
theorem d_A_get_14 : decode b_A_get 14 = .ok (.areturn, 1) := by decide +kernel
def lay_A_get (pc : Nat) : List Nat := if pc = 0 then [0, 1] else []
noncomputable def sg_A_get_0 (v0 : Nat) (v1 : Int32) (w : hy_W) : Option hy_N := (hy_gi w v0 7 1).bind fun x1 => hy_bi (f_J_check2 [.int v1, .int x1] w) fun x4 w2 => if hy_ob w2 v0 7 = true then hy_br (f_A_elementData [.ref v0, .int v1] w2) fun r7 w5 => some (.inr (.inl (some (.ref r7)), w5)) else none
noncomputable def nx_A_get (q : hy_P) : Option hy_N := match q with
  | (0, [.ref v0, .int v1], w) => sg_A_get_0 v0 v1 w
  | _ => none
noncomputable def f_A_get (av : List Value) (w : hy_W) : Option hy_O := hy_fx nx_A_get (0, av, w)
set_option maxHeartbeats 4000000 in
set_option maxRecDepth 100000 in
theorem sk_A_get_0 {p : Program} {l : Launch} {e : Env} {s : State} {m : MethodId} {args : Array Value} {below : List Frame} {meth : Method} {c : Code} {G : hy_G} {A : Nat → Prop} {ad0 : Nat → Nat} {w0 : hy_W} {o : hy_O} (hl9 : l.flags = flags0) (hA : hy_A G ad0 w0 s.heap.size = A) (B : hy_B p l e (hy_rm 2 43 w0) s m args below meth c "java/util/ArrayList" b_A_get 2 (some (.object "java/lang/Object")) [] G A) (v0 : Nat) (v1 : Int32) (w : hy_W) (nx : hy_N) (h : sg_A_get_0 v0 v1 w = some nx) (K : hy_Nx lay_A_get p l e (hy_rm 2 43 w0) s m args below meth c 2 G A ad0 w0.1.length (hy_Q below G ad0 w0 o args s) o nx) : hy_At lay_A_get p l e (hy_rm 2 43 w0) s m args below meth c 2 G A ad0 w0.1.length (hy_Q below G ad0 w0 o args s) (0, [.ref v0, .int v1], w) := by
  intro ad H locs cells slots ls S hok hl
  have hx := B.1
  have hb := B.2.1
  dsimp only at S hok
  have hl : lv_has ls 2 [(0, .ref (ad v0)), (1, .int v1)] := hl
  show W p l e (hy_rm 2 43 w0) s m args below meth c H locs cells slots (hy_Q below G ad0 w0 o args s) (F0 m 0 ls [])
  have hv_v0 : v0 < w.1.length := hok (.ref v0) (List.mem_of_getElem? (i := 0) rfl) v0 rfl
  obtain ⟨a_v0, ha_v0⟩ : ∃ a, ad v0 = a := ⟨_, rfl⟩
  rw [ha_v0] at hl
  unfold sg_A_get_0 at h
  refine lv_iload_n hx hb d_A_get_0 rfl (lv_at hl 1 rfl) ?_
  refine lv_aload_n hx hb d_A_get_1 rfl (lv_at hl 0 rfl) ?_
  obtain ⟨x1, hx1, h⟩ := hy_bd h
  refine hy_geti B S ha_v0 hx1 rfl (Nat.le_of_ble_eq_true rfl) i_7 (j := 1) tw_118 (fun _ h => h) d_A_get_2 ?_
  obtain ⟨x4, w2, hq_w2, h⟩ := hy_bi_spec h
  refine hy_calli (hy_runS (rest := []) (As := [.int v1, .int x1]) B S (by rfl) (c_J_check2 hl9 G ad hq_w2) (hy_oki (hy_oki hy_ok0)) tw_263 tw_17 tw_261 tw_262 (by decide) rfl (Nat.le_of_ble_eq_true rfl) (Nat.le_of_ble_eq_true rfl) hl.1 (Nat.le_of_ble_eq_true rfl) d_A_get_5) (fun ad3 H locs cells slots hag hl_w2 S => ?_)
  have ha_v0 : ad3 v0 = a_v0 := (hag v0 (by omega)).trans ha_v0
  refine lv_pop hx hb d_A_get_8 rfl ?_
  refine lv_aload_n hx hb d_A_get_9 rfl (lv_at hl 0 rfl) ?_
  refine lv_iload_n hx hb d_A_get_10 rfl (lv_at hl 1 rfl) ?_
  obtain ⟨ob8, h⟩ := hy_if h
  obtain ⟨fs_ob8, hf_ob8, hg_ob8⟩ := hy_ob_spec ob8
  obtain ⟨r7, w5, hq_w5, h⟩ := hy_br_spec h
  refine hy_callr (hy_runV (rest := []) (As := [.int v1]) (r := v0) (b := a_v0) B S rfl ha_v0 (by rfl) (c_A_elementData hl9 G ad3 hq_w5) (hy_okr (by omega) (hy_oki hy_ok0)) tw_270 tw_8 tw_267 tw_268 sl_A_elementData (by decide) rfl (Nat.le_of_ble_eq_true rfl) (Nat.le_of_ble_eq_true rfl) hf_ob8 hg_ob8 rfl hl.1 (Nat.le_of_ble_eq_true rfl) d_A_get_11) (fun ad6 H locs cells slots hag hl_w5 S a_r7 ha_r7 hv_r7 => ?_)
  have ha_v0 : ad6 v0 = a_v0 := (hag v0 (by omega)).trans ha_v0
  cases h
  cases K
  exact hy_aret hA B S (Or.inl ⟨_, rfl⟩) ha_r7 (by omega) d_A_get_14
theorem nk_A_get {p : Program} {l : Launch} {e : Env} {s : State} {m : MethodId} {args : Array Value} {below : List Frame} {meth : Method} {c : Code} {G : hy_G} {A : Nat → Prop} {ad0 : Nat → Nat} {w0 : hy_W} {o : hy_O} (hl9 : l.flags = flags0) (hA : hy_A G ad0 w0 s.heap.size = A) (B : hy_B p l e (hy_rm 2 43 w0) s m args below meth c "java/util/ArrayList" b_A_get 2 (some (.object "java/lang/Object")) [] G A) (q : hy_P) (nx : hy_N) (hq : nx_A_get q = some nx) (K : hy_Nx lay_A_get p l e (hy_rm 2 43 w0) s m args below meth c 2 G A ad0 w0.1.length (hy_Q below G ad0 w0 o args s) o nx) : hy_At lay_A_get p l e (hy_rm 2 43 w0) s m args below meth c 2 G A ad0 w0.1.length (hy_Q below G ad0 w0 o args s) q := by
  unfold nx_A_get at hq
  split at hq
  · exact sk_A_get_0 hl9 hA B _ _ _ nx hq K
  · cases hq
theorem c_A_get {l : Launch} (hl9 : l.flags = flags0) (G : hy_G) (ad : Nat → Nat) {v0 : Nat} {v1 : Int32} {w : hy_W} {o : hy_O} (h : f_A_get [.ref v0, .int v1] w = some o) : hy_M l y_A_get (Cond.code y_A_get b_A_get 2 (some (.object "java/lang/Object")) :: hy_T) 2 43 G ad [.ref v0, .int v1] w o := by
  obtain ⟨n, hn⟩ := hy_fx_iff.mp h
  refine hy_ofW hl9 (by decide +kernel) (Nat.le_of_ble_eq_true rfl) (fun p e s m args below meth c A hA hi B S hok ls hl => ?_)
  exact hy_loop (nk_A_get hl9 hA B) n _ hn ad s.heap [] 0 0 ls S hok hl
theorem d_U_standsAt_0 : decode b_U_standsAt 0 = .ok (.iload_n 2, 1) := by decide +kernel
theorem d_U_standsAt_1 : decode b_U_standsAt 1 = .ok (.ifCond .lt 15, 3) := by decide +kernel
theorem d_U_standsAt_4 : decode b_U_standsAt 4 = .ok (.aload_n 0, 1) := by decide +kernel
theorem d_U_standsAt_5 : decode b_U_standsAt 5 = .ok (.getfield 7, 3) := by decide +kernel
theorem d_U_standsAt_8 : decode b_U_standsAt 8 = .ok (.arraylength, 1) := by decide +kernel
theorem d_U_standsAt_9 : decode b_U_standsAt 9 = .ok (.aload_n 1, 1) := by decide +kernel
theorem d_U_standsAt_10 : decode b_U_standsAt 10 = .ok (.arraylength, 1) := by decide +kernel
theorem d_U_standsAt_11 : decode b_U_standsAt 11 = .ok (.iload_n 2, 1) := by decide +kernel
theorem d_U_standsAt_12 : decode b_U_standsAt 12 = .ok (.isub, 1) := by decide +kernel
theorem d_U_standsAt_13 : decode b_U_standsAt 13 = .ok (.if_icmp .le 5, 3) := by decide +kernel
theorem d_U_standsAt_16 : decode b_U_standsAt 16 = .ok (.iconst 0, 1) := by decide +kernel
theorem d_U_standsAt_17 : decode b_U_standsAt 17 = .ok (.ireturn, 1) := by decide +kernel
theorem d_U_standsAt_18 : decode b_U_standsAt 18 = .ok (.iconst 0, 1) := by decide +kernel
theorem d_U_standsAt_19 : decode b_U_standsAt 19 = .ok (.istore_n 3, 1) := by decide +kernel
theorem d_U_standsAt_20 : decode b_U_standsAt 20 = .ok (.iload_n 3, 1) := by decide +kernel
theorem d_U_standsAt_21 : decode b_U_standsAt 21 = .ok (.aload_n 0, 1) := by decide +kernel
theorem d_U_standsAt_22 : decode b_U_standsAt 22 = .ok (.getfield 7, 3) := by decide +kernel
theorem d_U_standsAt_25 : decode b_U_standsAt 25 = .ok (.arraylength, 1) := by decide +kernel
theorem d_U_standsAt_26 : decode b_U_standsAt 26 = .ok (.if_icmp .ge 25, 3) := by decide +kernel
theorem d_U_standsAt_29 : decode b_U_standsAt 29 = .ok (.aload_n 1, 1) := by decide +kernel
theorem d_U_standsAt_30 : decode b_U_standsAt 30 = .ok (.iload_n 2, 1) := by decide +kernel
theorem d_U_standsAt_31 : decode b_U_standsAt 31 = .ok (.iload_n 3, 1) := by decide +kernel
theorem d_U_standsAt_32 : decode b_U_standsAt 32 = .ok (.iadd, 1) := by decide +kernel
theorem d_U_standsAt_33 : decode b_U_standsAt 33 = .ok (.iaload, 1) := by decide +kernel
theorem d_U_standsAt_34 : decode b_U_standsAt 34 = .ok (.aload_n 0, 1) := by decide +kernel
theorem d_U_standsAt_35 : decode b_U_standsAt 35 = .ok (.getfield 7, 3) := by decide +kernel
theorem d_U_standsAt_38 : decode b_U_standsAt 38 = .ok (.iload_n 3, 1) := by decide +kernel
theorem d_U_standsAt_39 : decode b_U_standsAt 39 = .ok (.iaload, 1) := by decide +kernel
theorem d_U_standsAt_40 : decode b_U_standsAt 40 = .ok (.if_icmp .eq 5, 3) := by decide +kernel
theorem d_U_standsAt_43 : decode b_U_standsAt 43 = .ok (.iconst 0, 1) := by decide +kernel
theorem d_U_standsAt_44 : decode b_U_standsAt 44 = .ok (.ireturn, 1) := by decide +kernel
theorem d_U_standsAt_45 : decode b_U_standsAt 45 = .ok (.iinc 3 1, 3) := by decide +kernel
theorem d_U_standsAt_48 : decode b_U_standsAt 48 = .ok (.goto (-28), 3) := by decide +kernel
theorem d_U_standsAt_51 : decode b_U_standsAt 51 = .ok (.iconst 1, 1) := by decide +kernel
theorem d_U_standsAt_52 : decode b_U_standsAt 52 = .ok (.ireturn, 1) := by decide +kernel
def lay_U_standsAt (pc : Nat) : List Nat := if pc = 0 then [0, 1, 2] else if pc = 20 then [0, 1, 2, 3] else []
noncomputable def sg_U_standsAt_0 (v0 : Nat) (v1 : Nat) (v2 : Int32) (w : hy_W) : Option hy_N := if v2 < 0 then (some (.inr (.inl (some (.int 0)), w))) else ((hy_gr w v0 4 0).bind fun r2 => if r2 ≠ 1 then (hy_ln w 0 r2).bind fun n3 => if v1 ≠ 1 then (hy_ln w 0 v1).bind fun n4 => if (nI n3) ≤ ((nI n4) - v2) then (some (.inl (20, [.ref v0, .ref v1, .int v2, .int 0], w))) else (some (.inr (.inl (some (.int 0)), w))) else none else none)
noncomputable def sg_U_standsAt_20 (v0 : Nat) (v1 : Nat) (v2 : Int32) (v3 : Int32) (w : hy_W) : Option hy_N := (hy_gr w v0 4 0).bind fun r1 => if r1 ≠ 1 then (hy_ln w 0 r1).bind fun n2 => if (nI n2) ≤ v3 then (some (.inr (.inl (some (.int 1)), w))) else ((hy_ai w v1 (v2 + v3)).bind fun x4 => (hy_gr w v0 4 0).bind fun r5 => (hy_ai w r5 v3).bind fun x6 => if x4 = x6 then (some (.inl (20, [.ref v0, .ref v1, .int v2, .int (v3 + 1)], w))) else (some (.inr (.inl (some (.int 0)), w)))) else none
noncomputable def nx_U_standsAt (q : hy_P) : Option hy_N := match q with
  | (0, [.ref v0, .ref v1, .int v2], w) => sg_U_standsAt_0 v0 v1 v2 w
  | (20, [.ref v0, .ref v1, .int v2, .int v3], w) => sg_U_standsAt_20 v0 v1 v2 v3 w
  | _ => none
noncomputable def f_U_standsAt (av : List Value) (w : hy_W) : Option hy_O := hy_fx nx_U_standsAt (0, av, w)
set_option maxHeartbeats 4000000 in
set_option maxRecDepth 100000 in
theorem sk_U_standsAt_0 {p : Program} {l : Launch} {e : Env} {s : State} {m : MethodId} {args : Array Value} {below : List Frame} {meth : Method} {c : Code} {G : hy_G} {A : Nat → Prop} {ad0 : Nat → Nat} {w0 : hy_W} {o : hy_O} (hl9 : l.flags = flags0) (hA : hy_A G ad0 w0 s.heap.size = A) (B : hy_B p l e (hy_rm 0 0 w0) s m args below meth c "HyphenPatterns$Rule" b_U_standsAt 4 (some .boolean) [] G A) (v0 : Nat) (v1 : Nat) (v2 : Int32) (w : hy_W) (nx : hy_N) (h : sg_U_standsAt_0 v0 v1 v2 w = some nx) (K : hy_Nx lay_U_standsAt p l e (hy_rm 0 0 w0) s m args below meth c 4 G A ad0 w0.1.length (hy_Q below G ad0 w0 o args s) o nx) : hy_At lay_U_standsAt p l e (hy_rm 0 0 w0) s m args below meth c 4 G A ad0 w0.1.length (hy_Q below G ad0 w0 o args s) (0, [.ref v0, .ref v1, .int v2], w) := by
  intro ad H locs cells slots ls S hok hl
  have hx := B.1
  have hb := B.2.1
  dsimp only at S hok
  have hl : lv_has ls 4 [(0, .ref (ad v0)), (1, .ref (ad v1)), (2, .int v2)] := hl
  show W p l e (hy_rm 0 0 w0) s m args below meth c H locs cells slots (hy_Q below G ad0 w0 o args s) (F0 m 0 ls [])
  have hv_v0 : v0 < w.1.length := hok (.ref v0) (List.mem_of_getElem? (i := 0) rfl) v0 rfl
  obtain ⟨a_v0, ha_v0⟩ : ∃ a, ad v0 = a := ⟨_, rfl⟩
  rw [ha_v0] at hl
  have hv_v1 : v1 < w.1.length := hok (.ref v1) (List.mem_of_getElem? (i := 1) rfl) v1 rfl
  obtain ⟨a_v1, ha_v1⟩ : ∃ a, ad v1 = a := ⟨_, rfl⟩
  rw [ha_v1] at hl
  unfold sg_U_standsAt_0 at h
  refine lv_iload_n hx hb d_U_standsAt_0 rfl (lv_at hl 2 rfl) ?_
  refine lv_if_lt (tgt := 16) hx hb d_U_standsAt_1 (by decide) (fun c1 => ?_) (fun c1 => ?_)
  · rw [if_pos c1] at h
    refine lv_iconst (v := 0) hx hb d_U_standsAt_16 (by decide) ?_
    cases h
    cases K
    exact hy_zret hA B S (by decide) d_U_standsAt_17
  · rw [if_neg c1] at h
    refine lv_aload_n hx hb d_U_standsAt_4 rfl (lv_at hl 0 rfl) ?_
    obtain ⟨r2, hr2, h⟩ := hy_bd h
    refine hy_getr B S ha_v0 hr2 rfl (Nat.le_of_ble_eq_true rfl) i_4 (j := 0) tw_532 (fun _ h => h) d_U_standsAt_5 (fun a_r2 ha_r2 hv_r2 => ?_)
    obtain ⟨h1n3, h⟩ := hy_if h
    obtain ⟨n3, hn3, h⟩ := hy_bd h
    refine hy_alen B S ha_r2 (t := 0) (Nat.le_of_ble_eq_true rfl) hn3 h1n3 d_U_standsAt_8 ?_
    refine lv_aload_n hx hb d_U_standsAt_9 rfl (lv_at hl 1 rfl) ?_
    obtain ⟨h1n4, h⟩ := hy_if h
    obtain ⟨n4, hn4, h⟩ := hy_bd h
    refine hy_alen B S ha_v1 (t := 0) (Nat.le_of_ble_eq_true rfl) hn4 h1n4 d_U_standsAt_10 ?_
    refine lv_iload_n hx hb d_U_standsAt_11 rfl (lv_at hl 2 rfl) ?_
    refine lv_isub hx hb d_U_standsAt_12 ?_
    refine lv_icmp_le (tgt := 18) hx hb d_U_standsAt_13 (by decide) (fun c5 => ?_) (fun c5 => ?_)
    · rw [if_pos c5] at h
      refine lv_iconst (v := 0) hx hb d_U_standsAt_18 (by decide) ?_
      refine lv_istore_n (lv' := [(3, .int 0), (0, .ref a_v0), (1, .ref a_v1), (2, .int v2)]) hx hb d_U_standsAt_19 rfl hl (Nat.le_of_ble_eq_true rfl) rfl (fun ls hl => ?_)
      cases h
      exact hy_jump K S (hy_okr (by omega) (hy_okr (by omega) (hy_oki (hy_oki hy_ok0)))) (lv_sub hl [1, 2, 3, 0] rfl) (by subst ha_v0 ha_v1; rfl) (by subst ha_v0 ha_v1; rfl)
    · rw [if_neg c5] at h
      refine lv_iconst (v := 0) hx hb d_U_standsAt_16 (by decide) ?_
      cases h
      cases K
      exact hy_zret hA B S (by decide) d_U_standsAt_17
set_option maxHeartbeats 4000000 in
set_option maxRecDepth 100000 in
theorem sk_U_standsAt_20 {p : Program} {l : Launch} {e : Env} {s : State} {m : MethodId} {args : Array Value} {below : List Frame} {meth : Method} {c : Code} {G : hy_G} {A : Nat → Prop} {ad0 : Nat → Nat} {w0 : hy_W} {o : hy_O} (hl9 : l.flags = flags0) (hA : hy_A G ad0 w0 s.heap.size = A) (B : hy_B p l e (hy_rm 0 0 w0) s m args below meth c "HyphenPatterns$Rule" b_U_standsAt 4 (some .boolean) [] G A) (v0 : Nat) (v1 : Nat) (v2 : Int32) (v3 : Int32) (w : hy_W) (nx : hy_N) (h : sg_U_standsAt_20 v0 v1 v2 v3 w = some nx) (K : hy_Nx lay_U_standsAt p l e (hy_rm 0 0 w0) s m args below meth c 4 G A ad0 w0.1.length (hy_Q below G ad0 w0 o args s) o nx) : hy_At lay_U_standsAt p l e (hy_rm 0 0 w0) s m args below meth c 4 G A ad0 w0.1.length (hy_Q below G ad0 w0 o args s) (20, [.ref v0, .ref v1, .int v2, .int v3], w) := by
  intro ad H locs cells slots ls S hok hl
  have hx := B.1
  have hb := B.2.1
  dsimp only at S hok
  have hl : lv_has ls 4 [(0, .ref (ad v0)), (1, .ref (ad v1)), (2, .int v2), (3, .int v3)] := hl
  show W p l e (hy_rm 0 0 w0) s m args below meth c H locs cells slots (hy_Q below G ad0 w0 o args s) (F0 m 20 ls [])
  have hv_v0 : v0 < w.1.length := hok (.ref v0) (List.mem_of_getElem? (i := 0) rfl) v0 rfl
  obtain ⟨a_v0, ha_v0⟩ : ∃ a, ad v0 = a := ⟨_, rfl⟩
  rw [ha_v0] at hl
  have hv_v1 : v1 < w.1.length := hok (.ref v1) (List.mem_of_getElem? (i := 1) rfl) v1 rfl
  obtain ⟨a_v1, ha_v1⟩ : ∃ a, ad v1 = a := ⟨_, rfl⟩
  rw [ha_v1] at hl
  unfold sg_U_standsAt_20 at h
  refine lv_iload_n hx hb d_U_standsAt_20 rfl (lv_at hl 3 rfl) ?_
  refine lv_aload_n hx hb d_U_standsAt_21 rfl (lv_at hl 0 rfl) ?_
  obtain ⟨r1, hr1, h⟩ := hy_bd h
  refine hy_getr B S ha_v0 hr1 rfl (Nat.le_of_ble_eq_true rfl) i_4 (j := 0) tw_532 (fun _ h => h) d_U_standsAt_22 (fun a_r1 ha_r1 hv_r1 => ?_)
  obtain ⟨h1n2, h⟩ := hy_if h
  obtain ⟨n2, hn2, h⟩ := hy_bd h
  refine hy_alen B S ha_r1 (t := 0) (Nat.le_of_ble_eq_true rfl) hn2 h1n2 d_U_standsAt_25 ?_
  refine lv_icmp_ge (tgt := 51) hx hb d_U_standsAt_26 (by decide) (fun c3 => ?_) (fun c3 => ?_)
  · rw [if_pos c3] at h
    refine lv_iconst (v := 1) hx hb d_U_standsAt_51 (by decide) ?_
    cases h
    cases K
    exact hy_zret hA B S (by decide) d_U_standsAt_52
  · rw [if_neg c3] at h
    refine lv_aload_n hx hb d_U_standsAt_29 rfl (lv_at hl 1 rfl) ?_
    refine lv_iload_n hx hb d_U_standsAt_30 rfl (lv_at hl 2 rfl) ?_
    refine lv_iload_n hx hb d_U_standsAt_31 rfl (lv_at hl 3 rfl) ?_
    refine lv_iadd hx hb d_U_standsAt_32 ?_
    obtain ⟨x4, hx4, h⟩ := hy_bd h
    refine hy_iald B S ha_v1 hx4 d_U_standsAt_33 ?_
    refine lv_aload_n hx hb d_U_standsAt_34 rfl (lv_at hl 0 rfl) ?_
    obtain ⟨r5, hr5, h⟩ := hy_bd h
    refine hy_getr B S ha_v0 hr5 rfl (Nat.le_of_ble_eq_true rfl) i_4 (j := 0) tw_532 (fun _ h => h) d_U_standsAt_35 (fun a_r5 ha_r5 hv_r5 => ?_)
    refine lv_iload_n hx hb d_U_standsAt_38 rfl (lv_at hl 3 rfl) ?_
    obtain ⟨x6, hx6, h⟩ := hy_bd h
    refine hy_iald B S ha_r5 hx6 d_U_standsAt_39 ?_
    refine lv_icmp_eq (tgt := 45) hx hb d_U_standsAt_40 (by decide) (fun c7 => ?_) (fun c7 => ?_)
    · rw [if_pos c7] at h
      refine lv_iinc (v := (v3 + 1)) (lv' := [(3, .int (v3 + 1)), (0, .ref a_v0), (1, .ref a_v1), (2, .int v2)]) hx hb d_U_standsAt_45 hl (k := 3) rfl rfl (Nat.le_of_ble_eq_true rfl) rfl (fun ls hl => ?_)
      refine lv_goto (tgt := 20) hx hb d_U_standsAt_48 (by decide) ?_
      cases h
      exact hy_jump K S (hy_okr (by omega) (hy_okr (by omega) (hy_oki (hy_oki hy_ok0)))) (lv_sub hl [1, 2, 3, 0] rfl) (by subst ha_v0 ha_v1; rfl) (by subst ha_v0 ha_v1; rfl)
    · rw [if_neg c7] at h
      refine lv_iconst (v := 0) hx hb d_U_standsAt_43 (by decide) ?_
      cases h
      cases K
      exact hy_zret hA B S (by decide) d_U_standsAt_44
theorem nk_U_standsAt {p : Program} {l : Launch} {e : Env} {s : State} {m : MethodId} {args : Array Value} {below : List Frame} {meth : Method} {c : Code} {G : hy_G} {A : Nat → Prop} {ad0 : Nat → Nat} {w0 : hy_W} {o : hy_O} (hl9 : l.flags = flags0) (hA : hy_A G ad0 w0 s.heap.size = A) (B : hy_B p l e (hy_rm 0 0 w0) s m args below meth c "HyphenPatterns$Rule" b_U_standsAt 4 (some .boolean) [] G A) (q : hy_P) (nx : hy_N) (hq : nx_U_standsAt q = some nx) (K : hy_Nx lay_U_standsAt p l e (hy_rm 0 0 w0) s m args below meth c 4 G A ad0 w0.1.length (hy_Q below G ad0 w0 o args s) o nx) : hy_At lay_U_standsAt p l e (hy_rm 0 0 w0) s m args below meth c 4 G A ad0 w0.1.length (hy_Q below G ad0 w0 o args s) q := by
  unfold nx_U_standsAt at hq
  split at hq
  · exact sk_U_standsAt_0 hl9 hA B _ _ _ _ nx hq K
  · exact sk_U_standsAt_20 hl9 hA B _ _ _ _ _ nx hq K
  · cases hq
theorem c_U_standsAt {l : Launch} (hl9 : l.flags = flags0) (G : hy_G) (ad : Nat → Nat) {v0 : Nat} {v1 : Nat} {v2 : Int32} {w : hy_W} {o : hy_O} (h : f_U_standsAt [.ref v0, .ref v1, .int v2] w = some o) : hy_M l y_U_standsAt (Cond.code y_U_standsAt b_U_standsAt 4 (some .boolean) :: hy_T) 0 0 G ad [.ref v0, .ref v1, .int v2] w o := by
  obtain ⟨n, hn⟩ := hy_fx_iff.mp h
  refine hy_ofW hl9 (by decide +kernel) (Nat.le_of_ble_eq_true rfl) (fun p e s m args below meth c A hA hi B S hok ls hl => ?_)
  exact hy_loop (nk_U_standsAt hl9 hA B) n _ hn ad s.heap [] 0 0 ls S hok hl
