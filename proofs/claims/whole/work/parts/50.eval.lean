/-! EVALUATION: how a point leads on; cells by lookup -/
noncomputable def hy_k (f : hy_P → Option hy_N) (o : Option hy_N) : Option hy_O := match o with
  | none => none
  | some (.inl q) => hy_fx f q
  | some (.inr o) => some o
theorem hy_k_l (f : hy_P → Option hy_N) (q : hy_P) : hy_k f (some (.inl q)) = hy_fx f q := rfl
theorem hy_k_r (f : hy_P → Option hy_N) (o : hy_O) : hy_k f (some (.inr o)) = some o := rfl
theorem hy_fx_eq (f : hy_P → Option hy_N) (q : hy_P) : hy_fx f q = hy_k f (f q) := by
  cases h : f q with
  | none =>
    apply Option.ext
    intro o
    rw [hy_fx_iff]
    constructor
    · rintro ⟨n, hn⟩
      cases n with
      | zero => cases hn
      | succ n => rw [hy_it, h] at hn; cases hn
    · intro h; cases h
  | some n =>
    cases n with
    | inl q' => exact hy_fx_to h
    | inr o => exact hy_fx_end h
theorem hy_bi_s {β : Type} (x : Int32) (w : hy_W) (f : Int32 → hy_W → Option β) : hy_bi (some (.inl (some (.int x)), w)) f = f x w := rfl
theorem hy_br_s {β : Type} (x : Nat) (w : hy_W) (f : Nat → hy_W → Option β) : hy_br (some (.inl (some (.ref x)), w)) f = f x w := rfl
theorem hy_bv_s {β : Type} (w : hy_W) (f : hy_W → Option β) : hy_bv (some (.inl none, w)) f = f w := rfl
theorem hy_xi_s (x : Int32) (w : hy_W) (f : Int32 → hy_W → Option hy_N) (g : String → hy_W → Option hy_N) : hy_xi (some (.inl (some (.int x)), w)) f g = f x w := rfl
theorem hy_xi_t (E : String) (w : hy_W) (f : Int32 → hy_W → Option hy_N) (g : String → hy_W → Option hy_N) : hy_xi (some (.inr E, w)) f g = g E w := rfl
theorem hy_xv_s (w : hy_W) (f : hy_W → Option hy_N) (g : String → hy_W → Option hy_N) : hy_xv (some (.inl none, w)) f g = f w := rfl
theorem hy_xv_t (E : String) (w : hy_W) (f : hy_W → Option hy_N) (g : String → hy_W → Option hy_N) : hy_xv (some (.inr E, w)) f g = g E w := rfl
-- a cell is written
def hy_wr (w : hy_W) (k : Nat) (c : hy_C) : hy_W := (w.1.set k c, w.2)
theorem wr_ne {w : hy_W} {k j : Nat} {c : hy_C} (h : k ≠ j) : (hy_wr w k c).1[j]? = w.1[j]? := by
  show (w.1.set k c)[j]? = _
  rw [List.getElem?_set, if_neg h]
theorem wr_eq {w : hy_W} {k : Nat} {c : hy_C} : (hy_wr w k c).1[k]? = w.1[k]?.map (fun _ => c) := by
  show (w.1.set k c)[k]? = _
  rw [List.getElem?_set, if_pos rfl]
  by_cases h : k < w.1.length
  · rw [if_pos h, List.getElem?_eq_getElem h]; rfl
  · rw [if_neg h, List.getElem?_eq_none (by omega)]; rfl
theorem wr_wr {w : hy_W} {k : Nat} {c d : hy_C} : hy_wr (hy_wr w k c) k d = hy_wr w k d := by
  show ((w.1.set k c).set k d, w.2) = _
  rw [List.set_set]; rfl
theorem wr_2 {w : hy_W} {k : Nat} {c : hy_C} : (hy_wr w k c).2 = w.2 := rfl
theorem wr_len {w : hy_W} {k : Nat} {c : hy_C} : (hy_wr w k c).1.length = w.1.length := by
  show (w.1.set k c).length = _
  rw [List.length_set]
theorem wr_same {w : hy_W} {k : Nat} {c : hy_C} (h : w.1[k]? = some c) : hy_wr w k c = w := by
  show (w.1.set k c, w.2) = w
  obtain ⟨hl, e⟩ := List.getElem?_eq_some_iff.mp h
  rw [← e, List.set_getElem_self hl]
theorem wr_comm {w : hy_W} {k j : Nat} {c d : hy_C} (h : k ≠ j) : hy_wr (hy_wr w k c) j d = hy_wr (hy_wr w j d) k c := by
  show ((w.1.set k c).set j d, w.2) = ((w.1.set j d).set k c, w.2)
  rw [List.set_comm _ _ h]
def hv_i (o : Option Value) : Option Int32 := match o with
  | some (.int x) => some x
  | _ => none
def hv_r (o : Option Value) : Option Nat := match o with
  | some (.ref x) => some x
  | _ => none
theorem hv_i_s (x : Int32) : hv_i (some (.int x)) = some x := rfl
theorem hv_r_s (x : Nat) : hv_r (some (.ref x)) = some x := rfl
def hc_gi (o : Option hy_C) (k ci j : Nat) : Option Int32 := match o with
  | some (.inl (c, fs)) => if c = ci ∧ 1 < k then hv_i fs[j]? else none
  | _ => none
def hc_gr (o : Option hy_C) (k ci j : Nat) : Option Nat := match o with
  | some (.inl (c, fs)) => if c = ci ∧ 1 < k then hv_r fs[j]? else none
  | _ => none
def hc_pf (o : Option hy_C) (k ci j : Nat) (v : Value) : Option hy_C := match o with
  | some (.inl (c, fs)) => if c = ci ∧ j < fs.length ∧ 1 < k then some (.inl (c, fs.set j v)) else none
  | _ => none
def hc_ob (o : Option hy_C) (k ci : Nat) : Bool := match o with
  | some (.inl (c, _)) => decide (c = ci ∧ 1 < k)
  | _ => false
def hc_ai (o : Option hy_C) (k : Nat) (i : Int32) : Option Int32 := match o with
  | some (.inr (0, es)) => if hy_ix i es.length = true ∧ 1 < k then hv_i es[i.toNatClampNeg]? else none
  | _ => none
def hc_ar (o : Option hy_C) (t k : Nat) (i : Int32) : Option Nat := match o with
  | some (.inr (u, es)) => if u = t ∧ hy_ix i es.length = true ∧ 1 < k then hv_r es[i.toNatClampNeg]? else none
  | _ => none
def hc_pa (o : Option hy_C) (t k : Nat) (i : Int32) (v : Value) : Option hy_C := match o with
  | some (.inr (u, es)) => if u = t ∧ hy_ix i es.length = true ∧ 1 < k then some (.inr (u, es.set i.toNatClampNeg v)) else none
  | _ => none
def hc_ln (o : Option hy_C) (t : Nat) : Option Nat := match o with
  | some (.inr (u, es)) => if u = t then some es.length else none
  | _ => none
theorem e_gi (w : hy_W) (k ci j : Nat) : hy_gi w k ci j = hc_gi w.1[k]? k ci j := rfl
theorem e_gr (w : hy_W) (k ci j : Nat) : hy_gr w k ci j = hc_gr w.1[k]? k ci j := rfl
theorem e_ob (w : hy_W) (k ci : Nat) : hy_ob w k ci = hc_ob w.1[k]? k ci := rfl
theorem e_ai (w : hy_W) (k : Nat) (i : Int32) : hy_ai w k i = hc_ai w.1[k]? k i := rfl
theorem e_ar (w : hy_W) (t k : Nat) (i : Int32) : hy_ar w t k i = hc_ar w.1[k]? t k i := rfl
theorem e_ln (w : hy_W) (t k : Nat) : hy_ln w t k = hc_ln w.1[k]? t := rfl
theorem e_pf (w : hy_W) (k ci j : Nat) (v : Value) : hy_pf w k ci j v = (hc_pf w.1[k]? k ci j v).map (hy_wr w k) := by
  unfold hy_pf hc_pf
  cases w.1[k]? with
  | none => rfl
  | some c =>
    cases c with
    | inl o => dsimp only; split <;> rfl
    | inr o => rfl
theorem e_pa (w : hy_W) (t k : Nat) (i : Int32) (v : Value) : hy_pa w t k i v = (hc_pa w.1[k]? t k i v).map (hy_wr w k) := by
  unfold hy_pa hc_pa
  cases w.1[k]? with
  | none => rfl
  | some c =>
    cases c with
    | inr o => dsimp only; split <;> rfl
    | inl o => rfl
theorem hc_gi_o {k ci j : Nat} {fs : List Value} (hk : 1 < k) : hc_gi (some (.inl (ci, fs))) k ci j = hv_i fs[j]? := if_pos ⟨rfl, hk⟩
theorem hc_gr_o {k ci j : Nat} {fs : List Value} (hk : 1 < k) : hc_gr (some (.inl (ci, fs))) k ci j = hv_r fs[j]? := if_pos ⟨rfl, hk⟩
theorem hc_ob_o {k ci : Nat} {fs : List Value} (hk : 1 < k) : hc_ob (some (.inl (ci, fs))) k ci = true := decide_eq_true ⟨rfl, hk⟩
theorem hc_pf_o {k ci j : Nat} {fs : List Value} {v : Value} (hk : 1 < k) : hc_pf (some (.inl (ci, fs))) k ci j v = if j < fs.length then some (.inl (ci, fs.set j v)) else none := by
  unfold hc_pf
  dsimp only
  by_cases h : j < fs.length
  · rw [if_pos ⟨rfl, h, hk⟩, if_pos h]
  · rw [if_neg (fun x => h x.2.1), if_neg h]
-- arrays of ints
def hy_ia (n : Nat) (f : Nat → Int32) : hy_C := .inr (0, (List.range n).map fun i => .int (f i))
def hy_up (f : Nat → Int32) (i : Nat) (v : Int32) : Nat → Int32 := fun j => if j = i then v else f j
theorem up_eq {f : Nat → Int32} {i : Nat} {v : Int32} : hy_up f i v i = v := if_pos rfl
theorem up_ne {f : Nat → Int32} {i j : Nat} {v : Int32} (h : j ≠ i) : hy_up f i v j = f j := if_neg h
theorem hy_ix_n {i n : Nat} (h : i < n) (hn : n ≤ 65536) : hy_ix (nI i) n = true := by
  unfold hy_ix
  rw [nI_clamp (by omega), decide_eq_true (nI_pos' (by omega)), decide_eq_true h]; rfl
theorem ia_ext {n : Nat} {f g : Nat → Int32} (h : ∀ i, i < n → f i = g i) : hy_ia n f = hy_ia n g := by
  unfold hy_ia
  congr 2
  apply List.map_congr_left
  intro i hi
  rw [h i (List.mem_range.mp hi)]
theorem ia_ai {n k i : Nat} {f : Nat → Int32} (h : i < n) (hn : n ≤ 65536) (hk : 1 < k) : hc_ai (some (hy_ia n f)) k (nI i) = some (f i) := by
  show (if _ then _ else _) = _
  rw [if_pos ⟨by rw [List.length_map, List.length_range]; exact hy_ix_n h hn, hk⟩, nI_clamp (by omega), List.getElem?_map, List.getElem?_range h]
  rfl
theorem ia_pa {n k i : Nat} {f : Nat → Int32} {v : Int32} (h : i < n) (hn : n ≤ 65536) (hk : 1 < k) : hc_pa (some (hy_ia n f)) 0 k (nI i) (.int v) = some (hy_ia n (hy_up f i v)) := by
  show (if _ then _ else _) = _
  rw [if_pos ⟨rfl, by rw [List.length_map, List.length_range]; exact hy_ix_n h hn, hk⟩, nI_clamp (by omega)]
  unfold hy_ia
  congr 3
  apply List.ext_getElem?
  intro j
  rw [List.getElem?_set, List.getElem?_map, List.getElem?_map, List.length_map, List.length_range]
  by_cases e : i = j
  · subst e
    rw [if_pos rfl, if_pos h, List.getElem?_range h]
    show _ = some (Value.int (hy_up f i v i))
    rw [up_eq]
  · rw [if_neg e]
    by_cases hj : j < n
    · rw [List.getElem?_range hj]
      show some (Value.int (f j)) = some (Value.int (hy_up f i v j))
      rw [up_ne (fun x => e x.symm)]
    · rw [List.getElem?_eq_none (by simp; omega)]; rfl
theorem ia_ln (n : Nat) (f : Nat → Int32) : hc_ln (some (hy_ia n f)) 0 = some n := by
  unfold hy_ia hc_ln
  dsimp only
  rw [if_pos rfl, List.length_map, List.length_range]
-- the four languages
def oc_a : hy_C := .inr (2, [.ref 16, .ref 22, .ref 28, .ref 34])
theorem oc_a_ar {l : Nat} (h : l < 4) : hc_ar (some oc_a) 2 3 (nI l) = some (16 + 6 * l) := by
  match l, h with
  | 0, _ => rfl
  | 1, _ => rfl
  | 2, _ => rfl
  | 3, _ => rfl
-- the law's long
def oc_o (x : Int64) : hy_C := .inr (1, [.long x])
theorem oc_o_pa (x y : Int64) {k : Nat} (hk : 1 < k) : hc_pa (some (oc_o x)) 1 k (nI 0) (.long y) = some (oc_o y) := if_pos ⟨rfl, rfl, hk⟩
-- arrays of rules
def oc_r (es : List Value) : hy_C := .inr (3, es)
theorem oc_r_ar {es : List Value} {k i : Nat} (h : i < es.length) (hn : es.length ≤ 65536) (hk : 1 < k) : hc_ar (some (oc_r es)) 3 k (nI i) = hv_r es[i]? := by
  show (if _ then _ else _) = _
  rw [if_pos ⟨rfl, hy_ix_n h hn, hk⟩, nI_clamp (by omega)]
theorem oc_r_pa {es : List Value} {k i : Nat} {v : Value} (h : i < es.length) (hn : es.length ≤ 65536) (hk : 1 < k) : hc_pa (some (oc_r es)) 3 k (nI i) v = some (oc_r (es.set i v)) := by
  show (if _ then _ else _) = _
  rw [if_pos ⟨rfl, hy_ix_n h hn, hk⟩, nI_clamp (by omega)]
  rfl
theorem oc_r_ln (es : List Value) : hc_ln (some (oc_r es)) 3 = some es.length := by
  unfold oc_r hc_ln
  dsimp only
  rw [if_pos rfl]
-- numbers
theorem li_0 : (0 : Int32) = nI 0 := rfl
theorem li_1 : (1 : Int32) = nI 1 := rfl
theorem li_2 : (2 : Int32) = nI 2 := rfl
theorem li_3 : (3 : Int32) = nI 3 := rfl
theorem li_4 : (4 : Int32) = nI 4 := rfl
theorem li_5 : (5 : Int32) = nI 5 := rfl
theorem li_6 : (6 : Int32) = nI 6 := rfl
theorem li_10 : (10 : Int32) = nI 10 := rfl
theorem li_11 : (11 : Int32) = nI 11 := rfl
theorem li_c : (1114111 : Int32) = nI 1114111 := rfl
theorem li_16 : (16 : Int32) = nI 16 := rfl
theorem li_17 : (17 : Int32) = nI 17 := rfl
theorem li_20 : (20 : Int32) = nI 20 := rfl
theorem li_40 : (40 : Int32) = nI 40 := rfl
theorem li_41 : (41 : Int32) = nI 41 := rfl
theorem li_300 : (300 : Int32) = nI 300 := rfl
theorem li_400 : (400 : Int32) = nI 400 := rfl
theorem ne_1 {r : Nat} (h : 1 < r) : (r ≠ 1) = True := eq_true (by omega)
theorem n_le_t {a b : Nat} (h : a ≤ b) (hb : b < 2147483648) : (nI a ≤ nI b) = True := eq_true ((nI_leI (by omega) (by omega)).mpr h)
theorem n_le_f {a b : Nat} (h : b < a) (hb : a < 2147483648) : (nI a ≤ nI b) = False := eq_false (fun z => by have := (nI_leI (by omega) (by omega)).mp z; omega)
theorem n_lt_t {a b : Nat} (h : a < b) (hb : b < 2147483648) : (nI a < nI b) = True := eq_true ((nI_ltI (by omega) (by omega)).mpr h)
theorem n_lt_f {a b : Nat} (h : b ≤ a) (hb : a < 2147483648) : (nI a < nI b) = False := eq_false (fun z => by have := (nI_ltI (by omega) (by omega)).mp z; omega)
theorem n_eq_t {a b : Nat} (h : a = b) : (nI a = nI b) = True := eq_true (by rw [h])
theorem n_eq_f {a b : Nat} (h : a ≠ b) (ha : a < 2147483648) (hb : b < 2147483648) : (nI a = nI b) = False := eq_false (fun z => h ((nI_eq (by omega) (by omega)).mp z))
theorem n_ng : nI 0 - nI 1 < nI 0 := by decide +kernel
theorem n_sub {a b : Nat} (h : b ≤ a) : nI a - nI b = nI (a - b) := pk_sub h
theorem n_prd {a : Nat} (h : 1 ≤ a) : nI a + -nI 1 = nI (a - 1) := sb_m1 h
-- truth values
def hy_b (b : Bool) : Int32 := if b = true then nI 1 else nI 0
theorem hy_b_t : hy_b true = nI 1 := rfl
theorem hy_b_f : hy_b false = nI 0 := rfl
theorem hy_b_n : ¬ hy_b true = nI 0 := by decide +kernel
theorem hy_b_or : ∀ b : Bool, hy_b b = nI 0 ∨ hy_b b = nI 1 := by decide +kernel
theorem ft_i {β : Type} {x y : β} : (if false = true then x else y) = y := rfl
theorem tt_i {β : Type} {x y : β} : (if true = true then x else y) = x := rfl

def oc_H (ch : Nat) : hy_C := .inl (5, [.ref 3, .ref 4, .ref 7, .ref 10, .ref 13, .int (nI ch)])
theorem oc_H_ob (ch : Nat) : hc_ob (some (oc_H ch)) 2 5 = true := hc_ob_o (by decide)
theorem oc_H_g0 (ch : Nat) : hc_gr (some (oc_H ch)) 2 5 0 = some (3) := (hc_gr_o (by decide)).trans rfl
theorem oc_H_g1 (ch : Nat) : hc_gr (some (oc_H ch)) 2 5 1 = some (4) := (hc_gr_o (by decide)).trans rfl
theorem oc_H_g2 (ch : Nat) : hc_gr (some (oc_H ch)) 2 5 2 = some (7) := (hc_gr_o (by decide)).trans rfl
theorem oc_H_g3 (ch : Nat) : hc_gr (some (oc_H ch)) 2 5 3 = some (10) := (hc_gr_o (by decide)).trans rfl
theorem oc_H_g4 (ch : Nat) : hc_gr (some (oc_H ch)) 2 5 4 = some (13) := (hc_gr_o (by decide)).trans rfl
theorem oc_H_g5 (ch : Nat) : hc_gi (some (oc_H ch)) 2 5 5 = some (nI ch) := (hc_gi_o (by decide)).trans rfl
theorem oc_H_p5 (ch : Nat) (x : Nat) : hc_pf (some (oc_H ch)) 2 5 5 (.int (nI x)) = some (oc_H x) := (hc_pf_o (by decide)).trans rfl
def oc_N (a b : Nat) (lo : Int32) (n : Nat) : hy_C := .inl (2, [.ref a, .int lo, .ref b, .int (nI n)])
theorem oc_N_ob (a b : Nat) (lo : Int32) (n : Nat) {k : Nat} (hk : 1 < k) : hc_ob (some (oc_N a b lo n)) k 2 = true := hc_ob_o hk
theorem oc_N_g0 (a b : Nat) (lo : Int32) (n : Nat) {k : Nat} (hk : 1 < k) : hc_gr (some (oc_N a b lo n)) k 2 0 = some (a) := (hc_gr_o hk).trans rfl
theorem oc_N_g1 (a b : Nat) (lo : Int32) (n : Nat) {k : Nat} (hk : 1 < k) : hc_gi (some (oc_N a b lo n)) k 2 1 = some lo := (hc_gi_o hk).trans rfl
theorem oc_N_p1 (a b : Nat) (lo : Int32) (n : Nat) {k : Nat} (hk : 1 < k) (x : Int32) : hc_pf (some (oc_N a b lo n)) k 2 1 (.int x) = some (oc_N a b x n) := (hc_pf_o hk).trans rfl
theorem oc_N_g2 (a b : Nat) (lo : Int32) (n : Nat) {k : Nat} (hk : 1 < k) : hc_gr (some (oc_N a b lo n)) k 2 2 = some (b) := (hc_gr_o hk).trans rfl
theorem oc_N_g3 (a b : Nat) (lo : Int32) (n : Nat) {k : Nat} (hk : 1 < k) : hc_gi (some (oc_N a b lo n)) k 2 3 = some (nI n) := (hc_gi_o hk).trans rfl
theorem oc_N_p3 (a b : Nat) (lo : Int32) (n : Nat) {k : Nat} (hk : 1 < k) (x : Nat) : hc_pf (some (oc_N a b lo n)) k 2 3 (.int (nI x)) = some (oc_N a b lo x) := (hc_pf_o hk).trans rfl
def oc_D (n : Nat) : hy_C := .inl (0, [.ref 11, .ref 12, .int (nI n)])
theorem oc_D_ob (n : Nat) : hc_ob (some (oc_D n)) 10 0 = true := hc_ob_o (by decide)
theorem oc_D_g0 (n : Nat) : hc_gr (some (oc_D n)) 10 0 0 = some (11) := (hc_gr_o (by decide)).trans rfl
theorem oc_D_g1 (n : Nat) : hc_gr (some (oc_D n)) 10 0 1 = some (12) := (hc_gr_o (by decide)).trans rfl
theorem oc_D_g2 (n : Nat) : hc_gi (some (oc_D n)) 10 0 2 = some (nI n) := (hc_gi_o (by decide)).trans rfl
theorem oc_D_p2 (n : Nat) (x : Nat) : hc_pf (some (oc_D n)) 10 0 2 (.int (nI x)) = some (oc_D x) := (hc_pf_o (by decide)).trans rfl
def oc_G (s m : Nat) (c : Int32) : hy_C := .inl (3, [.ref 14, .ref 15, .int (nI s), .int (nI m), .int c])
theorem oc_G_ob (s m : Nat) (c : Int32) : hc_ob (some (oc_G s m c)) 13 3 = true := hc_ob_o (by decide)
theorem oc_G_g0 (s m : Nat) (c : Int32) : hc_gr (some (oc_G s m c)) 13 3 0 = some (14) := (hc_gr_o (by decide)).trans rfl
theorem oc_G_g1 (s m : Nat) (c : Int32) : hc_gr (some (oc_G s m c)) 13 3 1 = some (15) := (hc_gr_o (by decide)).trans rfl
theorem oc_G_g2 (s m : Nat) (c : Int32) : hc_gi (some (oc_G s m c)) 13 3 2 = some (nI s) := (hc_gi_o (by decide)).trans rfl
theorem oc_G_p2 (s m : Nat) (c : Int32) (x : Nat) : hc_pf (some (oc_G s m c)) 13 3 2 (.int (nI x)) = some (oc_G x m c) := (hc_pf_o (by decide)).trans rfl
theorem oc_G_g3 (s m : Nat) (c : Int32) : hc_gi (some (oc_G s m c)) 13 3 3 = some (nI m) := (hc_gi_o (by decide)).trans rfl
theorem oc_G_p3 (s m : Nat) (c : Int32) (x : Nat) : hc_pf (some (oc_G s m c)) 13 3 3 (.int (nI x)) = some (oc_G s x c) := (hc_pf_o (by decide)).trans rfl
theorem oc_G_g4 (s m : Nat) (c : Int32) : hc_gi (some (oc_G s m c)) 13 3 4 = some c := (hc_gi_o (by decide)).trans rfl
theorem oc_G_p4 (s m : Nat) (c : Int32) (x : Int32) : hc_pf (some (oc_G s m c)) 13 3 4 (.int x) = some (oc_G s m x) := (hc_pf_o (by decide)).trans rfl
def oc_L (l n : Nat) (a b : Int32) : hy_C := .inl (1, [.ref (17 + 6 * l), .ref (18 + 6 * l), .ref (19 + 6 * l), .ref (20 + 6 * l), .ref (21 + 6 * l), .int (nI n), .int a, .int b])
theorem oc_L_ob (l n : Nat) (a b : Int32) {k : Nat} (hk : 1 < k) : hc_ob (some (oc_L l n a b)) k 1 = true := hc_ob_o hk
theorem oc_L_g0 (l n : Nat) (a b : Int32) {k : Nat} (hk : 1 < k) : hc_gr (some (oc_L l n a b)) k 1 0 = some ((17 + 6 * l)) := (hc_gr_o hk).trans rfl
theorem oc_L_g1 (l n : Nat) (a b : Int32) {k : Nat} (hk : 1 < k) : hc_gr (some (oc_L l n a b)) k 1 1 = some ((18 + 6 * l)) := (hc_gr_o hk).trans rfl
theorem oc_L_g2 (l n : Nat) (a b : Int32) {k : Nat} (hk : 1 < k) : hc_gr (some (oc_L l n a b)) k 1 2 = some ((19 + 6 * l)) := (hc_gr_o hk).trans rfl
theorem oc_L_g3 (l n : Nat) (a b : Int32) {k : Nat} (hk : 1 < k) : hc_gr (some (oc_L l n a b)) k 1 3 = some ((20 + 6 * l)) := (hc_gr_o hk).trans rfl
theorem oc_L_g4 (l n : Nat) (a b : Int32) {k : Nat} (hk : 1 < k) : hc_gr (some (oc_L l n a b)) k 1 4 = some ((21 + 6 * l)) := (hc_gr_o hk).trans rfl
theorem oc_L_g5 (l n : Nat) (a b : Int32) {k : Nat} (hk : 1 < k) : hc_gi (some (oc_L l n a b)) k 1 5 = some (nI n) := (hc_gi_o hk).trans rfl
theorem oc_L_p5 (l n : Nat) (a b : Int32) {k : Nat} (hk : 1 < k) (x : Nat) : hc_pf (some (oc_L l n a b)) k 1 5 (.int (nI x)) = some (oc_L l x a b) := (hc_pf_o hk).trans rfl
theorem oc_L_g6 (l n : Nat) (a b : Int32) {k : Nat} (hk : 1 < k) : hc_gi (some (oc_L l n a b)) k 1 6 = some a := (hc_gi_o hk).trans rfl
theorem oc_L_p6 (l n : Nat) (a b : Int32) {k : Nat} (hk : 1 < k) (x : Int32) : hc_pf (some (oc_L l n a b)) k 1 6 (.int x) = some (oc_L l n x b) := (hc_pf_o hk).trans rfl
theorem oc_L_g7 (l n : Nat) (a b : Int32) {k : Nat} (hk : 1 < k) : hc_gi (some (oc_L l n a b)) k 1 7 = some b := (hc_gi_o hk).trans rfl
theorem oc_L_p7 (l n : Nat) (a b : Int32) {k : Nat} (hk : 1 < k) (x : Int32) : hc_pf (some (oc_L l n a b)) k 1 7 (.int x) = some (oc_L l n a x) := (hc_pf_o hk).trans rfl
def oc_A (a n : Nat) (c : Int32) : hy_C := .inl (7, [.ref a, .int (nI n), .int c])
theorem oc_A_ob (a n : Nat) (c : Int32) {k : Nat} (hk : 1 < k) : hc_ob (some (oc_A a n c)) k 7 = true := hc_ob_o hk
theorem oc_A_g0 (a n : Nat) (c : Int32) {k : Nat} (hk : 1 < k) : hc_gr (some (oc_A a n c)) k 7 0 = some (a) := (hc_gr_o hk).trans rfl
theorem oc_A_g1 (a n : Nat) (c : Int32) {k : Nat} (hk : 1 < k) : hc_gi (some (oc_A a n c)) k 7 1 = some (nI n) := (hc_gi_o hk).trans rfl
theorem oc_A_p1 (a n : Nat) (c : Int32) {k : Nat} (hk : 1 < k) (x : Nat) : hc_pf (some (oc_A a n c)) k 7 1 (.int (nI x)) = some (oc_A a x c) := (hc_pf_o hk).trans rfl
theorem oc_A_g2 (a n : Nat) (c : Int32) {k : Nat} (hk : 1 < k) : hc_gi (some (oc_A a n c)) k 7 2 = some c := (hc_gi_o hk).trans rfl
theorem oc_A_p2 (a n : Nat) (c : Int32) {k : Nat} (hk : 1 < k) (x : Int32) : hc_pf (some (oc_A a n c)) k 7 2 (.int x) = some (oc_A a n x) := (hc_pf_o hk).trans rfl
def oc_U (a b : Nat) : hy_C := .inl (4, [.ref a, .ref b])
theorem oc_U_ob (a b : Nat) {k : Nat} (hk : 1 < k) : hc_ob (some (oc_U a b)) k 4 = true := hc_ob_o hk
theorem oc_U_g0 (a b : Nat) {k : Nat} (hk : 1 < k) : hc_gr (some (oc_U a b)) k 4 0 = some (a) := (hc_gr_o hk).trans rfl
theorem oc_U_g1 (a b : Nat) {k : Nat} (hk : 1 < k) : hc_gr (some (oc_U a b)) k 4 1 = some (b) := (hc_gr_o hk).trans rfl
def oc_M (ft : Int32) (lg td lc ps es sz : Nat) : hy_C := .inl (6, [.int ft, .int (nI lg), .ref 41, .ref 42, .ref 43, .ref 44, .ref 45, .ref 46, .int (nI td), .ref 47, .ref 48, .int (nI lc), .ref 49, .ref 50, .int (nI ps), .ref 51, .ref 52, .ref 53, .ref 54, .int (nI es), .ref 55, .ref 56, .ref 57, .ref 58, .int (nI sz), .ref 59])
theorem oc_M_ob (ft : Int32) (lg td lc ps es sz : Nat) : hc_ob (some (oc_M ft lg td lc ps es sz)) 40 6 = true := hc_ob_o (by decide)
theorem oc_M_g0 (ft : Int32) (lg td lc ps es sz : Nat) : hc_gi (some (oc_M ft lg td lc ps es sz)) 40 6 0 = some ft := (hc_gi_o (by decide)).trans rfl
theorem oc_M_p0 (ft : Int32) (lg td lc ps es sz : Nat) (x : Int32) : hc_pf (some (oc_M ft lg td lc ps es sz)) 40 6 0 (.int x) = some (oc_M x lg td lc ps es sz) := (hc_pf_o (by decide)).trans rfl
theorem oc_M_g1 (ft : Int32) (lg td lc ps es sz : Nat) : hc_gi (some (oc_M ft lg td lc ps es sz)) 40 6 1 = some (nI lg) := (hc_gi_o (by decide)).trans rfl
theorem oc_M_p1 (ft : Int32) (lg td lc ps es sz : Nat) (x : Nat) : hc_pf (some (oc_M ft lg td lc ps es sz)) 40 6 1 (.int (nI x)) = some (oc_M ft x td lc ps es sz) := (hc_pf_o (by decide)).trans rfl
theorem oc_M_g2 (ft : Int32) (lg td lc ps es sz : Nat) : hc_gr (some (oc_M ft lg td lc ps es sz)) 40 6 2 = some (41) := (hc_gr_o (by decide)).trans rfl
theorem oc_M_g3 (ft : Int32) (lg td lc ps es sz : Nat) : hc_gr (some (oc_M ft lg td lc ps es sz)) 40 6 3 = some (42) := (hc_gr_o (by decide)).trans rfl
theorem oc_M_g4 (ft : Int32) (lg td lc ps es sz : Nat) : hc_gr (some (oc_M ft lg td lc ps es sz)) 40 6 4 = some (43) := (hc_gr_o (by decide)).trans rfl
theorem oc_M_g5 (ft : Int32) (lg td lc ps es sz : Nat) : hc_gr (some (oc_M ft lg td lc ps es sz)) 40 6 5 = some (44) := (hc_gr_o (by decide)).trans rfl
theorem oc_M_g6 (ft : Int32) (lg td lc ps es sz : Nat) : hc_gr (some (oc_M ft lg td lc ps es sz)) 40 6 6 = some (45) := (hc_gr_o (by decide)).trans rfl
theorem oc_M_g7 (ft : Int32) (lg td lc ps es sz : Nat) : hc_gr (some (oc_M ft lg td lc ps es sz)) 40 6 7 = some (46) := (hc_gr_o (by decide)).trans rfl
theorem oc_M_g8 (ft : Int32) (lg td lc ps es sz : Nat) : hc_gi (some (oc_M ft lg td lc ps es sz)) 40 6 8 = some (nI td) := (hc_gi_o (by decide)).trans rfl
theorem oc_M_p8 (ft : Int32) (lg td lc ps es sz : Nat) (x : Nat) : hc_pf (some (oc_M ft lg td lc ps es sz)) 40 6 8 (.int (nI x)) = some (oc_M ft lg x lc ps es sz) := (hc_pf_o (by decide)).trans rfl
theorem oc_M_g9 (ft : Int32) (lg td lc ps es sz : Nat) : hc_gr (some (oc_M ft lg td lc ps es sz)) 40 6 9 = some (47) := (hc_gr_o (by decide)).trans rfl
theorem oc_M_g10 (ft : Int32) (lg td lc ps es sz : Nat) : hc_gr (some (oc_M ft lg td lc ps es sz)) 40 6 10 = some (48) := (hc_gr_o (by decide)).trans rfl
theorem oc_M_g11 (ft : Int32) (lg td lc ps es sz : Nat) : hc_gi (some (oc_M ft lg td lc ps es sz)) 40 6 11 = some (nI lc) := (hc_gi_o (by decide)).trans rfl
theorem oc_M_p11 (ft : Int32) (lg td lc ps es sz : Nat) (x : Nat) : hc_pf (some (oc_M ft lg td lc ps es sz)) 40 6 11 (.int (nI x)) = some (oc_M ft lg td x ps es sz) := (hc_pf_o (by decide)).trans rfl
theorem oc_M_g12 (ft : Int32) (lg td lc ps es sz : Nat) : hc_gr (some (oc_M ft lg td lc ps es sz)) 40 6 12 = some (49) := (hc_gr_o (by decide)).trans rfl
theorem oc_M_g13 (ft : Int32) (lg td lc ps es sz : Nat) : hc_gr (some (oc_M ft lg td lc ps es sz)) 40 6 13 = some (50) := (hc_gr_o (by decide)).trans rfl
theorem oc_M_g14 (ft : Int32) (lg td lc ps es sz : Nat) : hc_gi (some (oc_M ft lg td lc ps es sz)) 40 6 14 = some (nI ps) := (hc_gi_o (by decide)).trans rfl
theorem oc_M_p14 (ft : Int32) (lg td lc ps es sz : Nat) (x : Nat) : hc_pf (some (oc_M ft lg td lc ps es sz)) 40 6 14 (.int (nI x)) = some (oc_M ft lg td lc x es sz) := (hc_pf_o (by decide)).trans rfl
theorem oc_M_g15 (ft : Int32) (lg td lc ps es sz : Nat) : hc_gr (some (oc_M ft lg td lc ps es sz)) 40 6 15 = some (51) := (hc_gr_o (by decide)).trans rfl
theorem oc_M_g16 (ft : Int32) (lg td lc ps es sz : Nat) : hc_gr (some (oc_M ft lg td lc ps es sz)) 40 6 16 = some (52) := (hc_gr_o (by decide)).trans rfl
theorem oc_M_g17 (ft : Int32) (lg td lc ps es sz : Nat) : hc_gr (some (oc_M ft lg td lc ps es sz)) 40 6 17 = some (53) := (hc_gr_o (by decide)).trans rfl
theorem oc_M_g18 (ft : Int32) (lg td lc ps es sz : Nat) : hc_gr (some (oc_M ft lg td lc ps es sz)) 40 6 18 = some (54) := (hc_gr_o (by decide)).trans rfl
theorem oc_M_g19 (ft : Int32) (lg td lc ps es sz : Nat) : hc_gi (some (oc_M ft lg td lc ps es sz)) 40 6 19 = some (nI es) := (hc_gi_o (by decide)).trans rfl
theorem oc_M_p19 (ft : Int32) (lg td lc ps es sz : Nat) (x : Nat) : hc_pf (some (oc_M ft lg td lc ps es sz)) 40 6 19 (.int (nI x)) = some (oc_M ft lg td lc ps x sz) := (hc_pf_o (by decide)).trans rfl
theorem oc_M_g20 (ft : Int32) (lg td lc ps es sz : Nat) : hc_gr (some (oc_M ft lg td lc ps es sz)) 40 6 20 = some (55) := (hc_gr_o (by decide)).trans rfl
theorem oc_M_g21 (ft : Int32) (lg td lc ps es sz : Nat) : hc_gr (some (oc_M ft lg td lc ps es sz)) 40 6 21 = some (56) := (hc_gr_o (by decide)).trans rfl
theorem oc_M_g22 (ft : Int32) (lg td lc ps es sz : Nat) : hc_gr (some (oc_M ft lg td lc ps es sz)) 40 6 22 = some (57) := (hc_gr_o (by decide)).trans rfl
theorem oc_M_g23 (ft : Int32) (lg td lc ps es sz : Nat) : hc_gr (some (oc_M ft lg td lc ps es sz)) 40 6 23 = some (58) := (hc_gr_o (by decide)).trans rfl
theorem oc_M_g24 (ft : Int32) (lg td lc ps es sz : Nat) : hc_gi (some (oc_M ft lg td lc ps es sz)) 40 6 24 = some (nI sz) := (hc_gi_o (by decide)).trans rfl
theorem oc_M_p24 (ft : Int32) (lg td lc ps es sz : Nat) (x : Nat) : hc_pf (some (oc_M ft lg td lc ps es sz)) 40 6 24 (.int (nI x)) = some (oc_M ft lg td lc ps es x) := (hc_pf_o (by decide)).trans rfl
theorem oc_M_g25 (ft : Int32) (lg td lc ps es sz : Nat) : hc_gr (some (oc_M ft lg td lc ps es sz)) 40 6 25 = some (59) := (hc_gr_o (by decide)).trans rfl
theorem oc_A_p0 (a n : Nat) (c : Int32) {k : Nat} (hk : 1 < k) (x : Nat) : hc_pf (some (oc_A a n c)) k 7 0 (.ref x) = some (oc_A x n c) := (hc_pf_o hk).trans rfl
