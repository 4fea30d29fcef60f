/-! ROWS: a method's ends: answers, throws; calls that throw -/
section HYN
variable {p : Program} {l : Launch} {e : Env} {R : Room} {s : State} {m : MethodId} {args : Array Value} {below : List Frame} {meth : Method} {c : Code} {H : Heap} {locs : List Loc} {cells slots : Nat} {Q : State → Prop}
variable {own : String} {cc : ByteArray} {nL : Nat} {ret : Option FieldType} {hh : List (Nat × Nat × Nat × Nat)} {G : hy_G} {A : Nat → Prop} {ad0 ad : Nat → Nat} {n0 : Nat} {w0 w w' : hy_W} {pc : Nat} {ls : Array Slot} {rest : List Value} {k a : Nat}
theorem hy_mono {Q' : State → Prop} {g : JFrame} (h : ∀ t, Q t → Q' t) (kk : W p l e R s m args below meth c H locs cells slots Q g) : W p l e R s m args below meth c H locs cells slots Q' g := by
  intro T hT X
  obtain ⟨t, q1, q2⟩ := kk T hT X
  exact ⟨t, q1, h t q2⟩
/-- the end of a body with an answer -/
theorem hy_toQ {vo : Option Value} {fr lo : Nat} (hA : hy_A G ad0 w0 s.heap.size = A) (S : hy_S G A (hy_rm fr lo w0) s ad0 w0.1.length ad w H locs cells slots) (hcv : ∀ u, vo = some u → hy_cv w.1.length u) {t : State}
    (h : MQ below (fun _ _ oc t => t.heap = H ∧ oc = .returned (vo.map (hy_v ad))) args s cells slots A t) : hy_Q below G ad0 w0 (.inl vo, w) args s t := by
  obtain ⟨oc, h1, h2, ⟨h3, h4⟩, L, ⟨-, h5, h6⟩, h7⟩ := h
  refine ⟨oc, h1, h2, ad, L, cells, slots, S.2.2.1, S.2.2.2.1, ?_, ?_, h5, h6, ?_, S.2.2.2.2.1, S.2.2.2.2.2, h4, hcv⟩
  · rw [hA, h3]; exact S.1
  · rw [hA]; exact S.2.1.F h3
  · rw [hA]; exact h7
theorem hy_iret {x : Int32} {fr lo : Nat} (hA : hy_A G ad0 w0 s.heap.size = A) (B : hy_B p l e (hy_rm fr lo w0) s m args below meth c own cc nL (some .int) hh G A) (S : hy_S G A (hy_rm fr lo w0) s ad0 w0.1.length ad w H locs cells slots) (hdg : decode cc pc = .ok (.ireturn, 1)) :
    W p l e (hy_rm fr lo w0) s m args below meth c H locs cells slots (hy_Q below G ad0 w0 (.inl (some (.int x)), w) args s) (F0 m pc ls [.int x]) := by
  have hlocks := B.2.2.2.2.2.2.1
  exact hy_mono (fun t h => hy_toQ hA S (fun u e k z => by cases e; cases z) h) (W.iret (Qc := fun _ _ oc t => t.heap = H ∧ oc = .returned ((some (Value.int x)).map (hy_v ad))) B.1 B.2.1 B.2.2.2.2.2.1 (fun t ht _ => ⟨ht, rfl⟩) S.2.1.2.2 hdg)
theorem hy_zret {x : Int32} {fr lo : Nat} (hA : hy_A G ad0 w0 s.heap.size = A) (B : hy_B p l e (hy_rm fr lo w0) s m args below meth c own cc nL (some .boolean) hh G A) (S : hy_S G A (hy_rm fr lo w0) s ad0 w0.1.length ad w H locs cells slots) (hx : x = 0 ∨ x = 1) (hdg : decode cc pc = .ok (.ireturn, 1)) :
    W p l e (hy_rm fr lo w0) s m args below meth c H locs cells slots (hy_Q below G ad0 w0 (.inl (some (.int x)), w) args s) (F0 m pc ls [.int x]) := by
  have hlocks := B.2.2.2.2.2.2.1
  exact hy_mono (fun t h => hy_toQ hA S (fun u e k z => by cases e; cases z) h) (W.zret (ty := .boolean) (Qc := fun _ _ oc t => t.heap = H ∧ oc = .returned ((some (Value.int x)).map (hy_v ad))) B.1 B.2.1 B.2.2.2.2.2.1 (by rcases hx with rfl | rfl <;> rfl) (fun t ht _ => ⟨ht, rfl⟩) S.2.1.2.2 hdg)
theorem hy_aret {r b : Nat} {rt : FieldType} {fr lo : Nat} (hA : hy_A G ad0 w0 s.heap.size = A) (B : hy_B p l e (hy_rm fr lo w0) s m args below meth c own cc nL (some rt) hh G A) (S : hy_S G A (hy_rm fr lo w0) s ad0 w0.1.length ad w H locs cells slots) (hrt : (∃ n, rt = .object n) ∨ ∃ t, rt = .array t) (hb : ad r = b) (hr : r < w.1.length) (hdg : decode cc pc = .ok (.areturn, 1)) :
    W p l e (hy_rm fr lo w0) s m args below meth c H locs cells slots (hy_Q below G ad0 w0 (.inl (some (.ref r)), w) args s) (F0 m pc ls [.ref b]) := by
  have hlocks := B.2.2.2.2.2.2.1
  subst hb
  exact hy_mono (fun t h => hy_toQ hA S (fun u e k z => by cases e; cases z; exact hr) h) (W.aret (rt := rt) (Qc := fun _ _ oc t => t.heap = H ∧ oc = .returned ((some (Value.ref r)).map (hy_v ad))) B.1 B.2.1 B.2.2.2.2.2.1 hrt (Or.inr ⟨_, rfl⟩) (fun t ht _ => ⟨ht, rfl⟩) S.2.1.2.2 hdg)
theorem hy_vret {fr lo : Nat} (hA : hy_A G ad0 w0 s.heap.size = A) (B : hy_B p l e (hy_rm fr lo w0) s m args below meth c own cc nL none hh G A) (S : hy_S G A (hy_rm fr lo w0) s ad0 w0.1.length ad w H locs cells slots) (hdg : decode cc pc = .ok (.return_, 1)) :
    W p l e (hy_rm fr lo w0) s m args below meth c H locs cells slots (hy_Q below G ad0 w0 (.inl none, w) args s) (F0 m pc ls []) := by
  have hlocks := B.2.2.2.2.2.2.1
  exact hy_mono (fun t h => hy_toQ hA S (fun u e => by cases e) h) (W.vret (Qc := fun _ _ oc t => t.heap = H ∧ oc = .returned ((none : Option Value).map (hy_v ad))) B.1 B.2.1 B.2.2.2.2.2.1 (fun t ht _ => ⟨ht, rfl⟩) S.2.1.2.2 hdg)
/-- this frame, looked at from where it now stands, as if it began here -/
theorem hy_anew {T : State} (X : Stand p l e R s m args below meth c T locs cells slots) {c' n' : Nat} (hc : cells + c' ≤ R.cells) (hs : slots + n' ≤ R.slots) :
    Stand p l e { frames := R.frames, locals := R.locals, cells := c', slots := n' } ((T.setVm s.vm).setFrames (.invoking m args :: below)) m args below meth c T [] 0 0 := by
  obtain ⟨g0, hfr⟩ := X.frames_eq
  have hcur : (T.setVm s.vm).cur < (T.setVm s.vm).threads.size := State.cur_lt_of_frames (s := T.setVm s.vm) hfr
  have hF : ((T.setVm s.vm).setFrames (.invoking m args :: below)).frames = .invoking m args :: below := State.frames_setFrames _ hcur
  obtain ⟨th, hth, -⟩ := State.frames_cons (s := T.setVm s.vm) hfr
  have hlim : e.platform.stackLimits ((T.setVm s.vm).setFrames (.invoking m args :: below)).me = e.platform.stackLimits s.me := by rw [State.stackLimits_setFrames]; exact X.limits
  have hbyt : ((T.setVm s.vm).setFrames (.invoking m args :: below)).me.stackBytes = s.me.stackBytes := by rw [State.stackBytes_setFrames]; exact X.bytes
  refine ⟨X.admits, X.cas, X.clock, hF, ?_, X.hears, X.method, X.code, X.here, X.tail, X.warmed, ?_, ?_, ?_⟩
  · have hr := X.room
    have h1 := X.heapSize
    have h2 := X.used
    have h3 := X.book
    have hliu : ((T.setVm s.vm).setFrames (.invoking m args :: below)).localsInUse = s.localsInUse := by
      rw [State.localsInUse_invoking X.frames X.method X.code, State.localsInUse_invoking hF X.method X.code]
    simp only [State.hasRoom, Bool.and_eq_true, decide_eq_true_eq] at hr ⊢
    rw [hliu, hF, hlim, hbyt]
    rw [X.frames] at hr
    have e1 : ((T.setVm s.vm).setFrames (.invoking m args :: below)).heap = T.heap := rfl
    have e2 : ((T.setVm s.vm).setFrames (.invoking m args :: below)).slotsUsed = T.slotsUsed := rfl
    rw [e1, e2]
    refine ⟨⟨⟨hr.1.1.1, ?_⟩, ?_⟩, h3⟩
    · omega
    · omega
  · rw [hlim]; exact X.limits
  · rw [hbyt]; exact X.bytes
  · obtain ⟨th', hth', -⟩ := State.frames_cons hF
    have h' := (State.sameButNew.refl ((T.setVm s.vm).setFrames (.invoking m args :: below)) hth').setFrames T.frames (State.cur_lt_of_frames hF)
    rw [State.setFrames_setFrames] at h'
    have e3 : (T.setVm s.vm).setFrames T.frames = T.setVm s.vm := State.setFrames_self hth
    rw [e3] at h'
    exact h'
end HYN
