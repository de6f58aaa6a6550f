theorem z_in {x : Int32} {n : Nat} (hn : n < 2 ^ 31) (h1 : ¬ x < 0) (h2 : ¬ nI n ≤ x) : vp_in x n := by
  rcases pk_ix x hn with h | h | ⟨j, h, rfl⟩
  · exact absurd h h1
  · exact absurd h h2
  · exact vp_in_nI h hn
/-- a truth as the machine has it -/
def zB (b : Bool) : Int32 := if b then 1 else 0
theorem zB_0 {b : Bool} : zB b = 0 ↔ b = false := by cases b <;> simp [zB]
theorem zB_tt {b : Bool} (h : ¬ zB b = 0) : b = true := by cases b; exact absurd rfl h; rfl
theorem zB_n (b : Bool) : narrow .boolean (.int (zB b)) = .int (zB b) := by cases b <;> rfl
theorem zB_t : zB true = 1 := rfl
theorem zB_f : zB false = 0 := rfl
theorem zB_1 {b : Bool} (h : b = true) : zB b = 1 := by rw [h]; rfl
theorem zB_z {b : Bool} (h : b = false) : zB b = 0 := by rw [h]; rfl
theorem zset_self {h : zH} {v : Nat} {c : zE} (e : h[v]? = some c) : h.set v c = h := by
  refine List.ext_getElem? fun j => ?_
  by_cases hj : v = j
  · subst hj
    rw [List.getElem?_set_self (List.getElem?_eq_some_iff.mp e).1, e]
  · rw [List.getElem?_set_ne hj]
/-- how many of the first n have p -/
def zCt (p : Nat → Bool) : Nat → Nat
  | 0 => 0
  | n + 1 => zCt p n + (if p n then 1 else 0)
theorem zCt_t {p : Nat → Bool} {n : Nat} (h : p n = true) : nI (zCt p n) + 1 = nI (zCt p (n + 1)) := by rw [nI_1]; simp [zCt, h]
theorem zCt_f {p : Nat → Bool} {n : Nat} (h : p n = false) : nI (zCt p n) + 0 = nI (zCt p (n + 1)) := by
  rw [show (0 : Int32) = nI 0 from nI_0.symm, nI_add]; simp [zCt, h]
/-- a sum over the first n -/
def zSm (f : Nat → Int32) : Nat → Int32
  | 0 => 0
  | n + 1 => zSm f n + f n
/-- the first n written over -/
def zFl {α : Type} (g f : Nat → α) (n : Nat) : Nat → α := fun j => if j < n then g j else f j
theorem zFl_0 {α : Type} (g f : Nat → α) : zFl g f 0 = f := by funext j; simp [zFl]
theorem zFl_s (g f : Nat → Int32) {n : Nat} (hn : n < 2 ^ 31) {x : Int32} (hx : g n = x) : upd (zFl g f n) (nI n).toNatClampNeg x = zFl g f (n + 1) := by
  rw [nI_clamp hn]
  funext j
  unfold upd zFl
  by_cases h : j = n
  · subst h; simp [hx]
  · rw [if_neg h]
    by_cases h2 : j < n
    · rw [if_pos h2, if_pos (by omega)]
    · rw [if_neg h2, if_neg (by omega)]
/-- the loop's test, where both are numbers of the one kind -/
theorem zge {a b : Nat} (hb : b < 2 ^ 31) (ha : a ≤ b) (h : nI b ≤ nI a) : a = b := by
  have := (nI_leI hb (by omega)).mp h
  omega
theorem zlt' {a b : Nat} (hb : b < 2 ^ 31) (ha : a ≤ b) (h : ¬ nI b ≤ nI a) : a < b := by
  have : ¬ b ≤ a := fun q => h ((nI_leI hb (by omega)).mpr q)
  omega
/-- a grid's number at back column b, row y; -1 where there is none -/
def zAt (f : Nat → Int32) (b y : Int32) : Int32 := if b < 0 then -1 else if nI 20 ≤ b then -1 else if y * nI 20 + b < 0 then -1 else if nI 320 ≤ y * nI 20 + b then -1 else f (y * nI 20 + b).toNatClampNeg
/-- .. and with another number put there -/
def zPutG (f : Nat → Int32) (b y v : Int32) : Nat → Int32 := if b < 0 then f else if nI 20 ≤ b then f else if y * nI 20 + b < 0 then f else if nI 320 ≤ y * nI 20 + b then f else upd f (y * nI 20 + b).toNatClampNeg v
def zAtN (n : Nat) (f : Nat → Int32) (i : Int32) : Int32 := if i < 0 then -1 else if nI n ≤ i then -1 else f i.toNatClampNeg
def zPutN (n : Nat) (f : Nat → Int32) (i v : Int32) : Nat → Int32 := if i < 0 then f else if nI n ≤ i then f else upd f i.toNatClampNeg v
/-- a run of a row begins here -/
def zSt (f : Nat → Int32) (b y : Int32) : Bool := !(zAt f b y == zAt f (b - 1) y)
def zRu (f : Nat → Int32) (y : Int32) (c : Nat) : Nat := zCt (fun b => zSt f (nI b) y) c
def zRo (f : Nat → Int32) (v y : Int32) (c : Nat) : Nat := zCt (fun b => zAt f (nI b) y == v && !(zAt f (nI b - 1) y == v)) c
def zCe (f : Nat → Int32) (v y : Int32) (c : Nat) : Nat := zCt (fun b => zAt f (nI b) y == v) c

set_option maxHeartbeats 4000000 in
set_option maxRecDepth 100000 in
theorem c_gAt {G : zT} {h : zH} {g v : Nat} {f : Nat → Int32} (hG : zAl G = false) (hlen : h.length < 1000) (hg : h[g]? = some (.inr (2, [.ref v]))) (hv : h[v]? = some (.inl (0, 320, .inl f))) (b y : Int32) : zRun G mX2_at 0 0 [.ref g, .int b, .int y] h (.inr (some (.int (zAt f b y)))) h := by
  refine zRun_of (by decide +kernel) rfl rfl (Nat.le_of_ble_eq_true rfl) ?_
  suffices hs : ∀ (o9 : zO) (h9 : zH), (Sum.inr (some (.int (zAt f b y))) : zO) = o9 → h = h9 → zPW G mX2_at 0 0 o9 h9 0 0 0 [(0, .ref g), (1, .int b), (2, .int y)] [] h from hs _ _ rfl rfl
  intro o9 h9 ho9 hh9
  refine z_iload_n 2 dX2_at_0 rfl rfl ?_
  refine z_bipush (v := nI 20) dX2_at_1 (by decide) ?_
  refine z_imul dX2_at_3 ?_
  refine z_iload_n 1 dX2_at_4 rfl rfl ?_
  refine z_iadd dX2_at_5 ?_
  refine z_istore_n (lv' := [(3, .int ((y * (nI 20)) + b)), (0, .ref g), (1, .int b), (2, .int y)]) dX2_at_6 rfl (by decide) rfl ?_
  refine z_iload_n 2 dX2_at_7 rfl rfl ?_
  refine z_if_lt (tgt := 39) dX2_at_8 (by decide) (fun c_8 => ?_) (fun c_8 => ?_)
  · skip
    refine z_iconst (v := (-1)) dX2_at_39 (by decide) ?_
    exact z_iret rfl dX2_at_40 (zo_i ho9 (by simp [zAt, *])) (zo_h hh9 (by rfl)) (Nat.zero_le _) (Nat.zero_le _)
  · skip
    refine z_iload_n 2 dX2_at_11 rfl rfl ?_
    refine z_bipush (v := nI 20) dX2_at_12 (by decide) ?_
    refine z_icmp_ge (tgt := 39) dX2_at_14 (by decide) (fun c_14 => ?_) (fun c_14 => ?_)
    · skip
      refine z_iconst (v := (-1)) dX2_at_39 (by decide) ?_
      exact z_iret rfl dX2_at_40 (zo_i ho9 (by simp [zAt, *])) (zo_h hh9 (by rfl)) (Nat.zero_le _) (Nat.zero_le _)
    · skip
      refine z_iload_n 0 dX2_at_17 rfl rfl ?_
      refine z_if_lt (tgt := 39) dX2_at_18 (by decide) (fun c_18 => ?_) (fun c_18 => ?_)
      · skip
        refine z_iconst (v := (-1)) dX2_at_39 (by decide) ?_
        exact z_iret rfl dX2_at_40 (zo_i ho9 (by simp [zAt, *])) (zo_h hh9 (by rfl)) (Nat.zero_le _) (Nat.zero_le _)
      · skip
        refine z_iload_n 0 dX2_at_21 rfl rfl ?_
        refine z_aload_n 1 dX2_at_22 rfl rfl ?_
        refine z_get (v := .ref v) 0 hg rfl inX2 (by decide) zw_74 rfl rfl dX2_at_23 ?_
        refine z_alen (v := nI 320) hv (by decide) rfl dX2_at_26 ?_
        refine z_icmp_ge (tgt := 39) dX2_at_27 (by decide) (fun c_27 => ?_) (fun c_27 => ?_)
        · skip
          refine z_iconst (v := (-1)) dX2_at_39 (by decide) ?_
          exact z_iret rfl dX2_at_40 (zo_i ho9 (by simp [zAt, *])) (zo_h hh9 (by rfl)) (Nat.zero_le _) (Nat.zero_le _)
        · skip
          refine z_aload_n 1 dX2_at_30 rfl rfl ?_
          refine z_get (v := .ref v) 0 hg rfl inX2 (by decide) zw_74 rfl rfl dX2_at_31 ?_
          refine z_iload_n 0 dX2_at_34 rfl rfl ?_
          refine z_iald (f := f) (n := 320) hv (by exact z_in (by decide) ‹_› ‹_›) dX2_at_35 ?_
          refine z_goto (tgt := 40) dX2_at_36 (by decide) ?_
          exact z_iret rfl dX2_at_40 (zo_i ho9 (by simp [zAt, *])) (zo_h hh9 (by rfl)) (Nat.zero_le _) (Nat.zero_le _)

set_option maxHeartbeats 4000000 in
set_option maxRecDepth 100000 in
theorem c_gStarts {G : zT} {h : zH} {g v : Nat} {f : Nat → Int32} (hG : zAl G = false) (hlen : h.length < 1000) (hg : h[g]? = some (.inr (2, [.ref v]))) (hv : h[v]? = some (.inl (0, 320, .inl f))) (b y : Int32) : zRun G mX2_startsRun 0 0 [.ref g, .int b, .int y] h (.inr (some (.int (zB (zSt f b y))))) h := by
  refine zRun_of (by decide +kernel) rfl rfl (Nat.le_of_ble_eq_true rfl) ?_
  suffices hs : ∀ (o9 : zO) (h9 : zH), (Sum.inr (some (.int (zB (zSt f b y)))) : zO) = o9 → h = h9 → zPW G mX2_startsRun 0 0 o9 h9 0 0 0 [(0, .ref g), (1, .int b), (2, .int y)] [] h from hs _ _ rfl rfl
  intro o9 h9 ho9 hh9
  refine z_aload_n 0 dX2_startsRun_0 rfl rfl ?_
  refine z_iload_n 1 dX2_startsRun_1 rfl rfl ?_
  refine z_iload_n 2 dX2_startsRun_2 rfl rfl ?_
  refine z_callV (N := mX2_at) 2 [.int b, .int y] [] lX2_at ⟨zw_300, zw_273, zw_274⟩ rfl hg rfl rfl (Nat.le_of_ble_eq_true rfl) (by decide) ⟨hlen, hlen⟩ ⟨Nat.zero_le _, Nat.zero_le _⟩ (fun _ => rfl) (c_gAt (g := g) (v := v) (f := f) hG hlen hg hv b y) dX2_startsRun_3 ?_
  refine z_aload_n 0 dX2_startsRun_6 rfl rfl ?_
  refine z_iload_n 1 dX2_startsRun_7 rfl rfl ?_
  refine z_iconst (v := 1) dX2_startsRun_8 (by decide) ?_
  refine z_isub dX2_startsRun_9 ?_
  refine z_iload_n 2 dX2_startsRun_10 rfl rfl ?_
  refine z_callV (N := mX2_at) 2 [.int (b - 1), .int y] [.int (zAt f b y)] lX2_at ⟨zw_300, zw_273, zw_274⟩ rfl hg rfl rfl (Nat.le_of_ble_eq_true rfl) (by decide) ⟨hlen, hlen⟩ ⟨Nat.zero_le _, Nat.zero_le _⟩ (fun _ => rfl) (c_gAt (g := g) (v := v) (f := f) hG hlen hg hv (b - 1) y) dX2_startsRun_11 ?_
  refine z_icmp_eq (tgt := 21) dX2_startsRun_14 (by decide) (fun c_14 => ?_) (fun c_14 => ?_)
  · skip
    refine z_iconst (v := 0) dX2_startsRun_21 (by decide) ?_
    exact z_zret rfl (by rfl) dX2_startsRun_22 (zo_i ho9 (by simp [zB, zSt, *])) (zo_h hh9 (by rfl)) (Nat.zero_le _) (Nat.zero_le _)
  · skip
    refine z_iconst (v := 1) dX2_startsRun_17 (by decide) ?_
    refine z_goto (tgt := 22) dX2_startsRun_18 (by decide) ?_
    exact z_zret rfl (by rfl) dX2_startsRun_22 (zo_i ho9 (by simp [zB, zSt, *])) (zo_h hh9 (by rfl)) (Nat.zero_le _) (Nat.zero_le _)

set_option maxHeartbeats 4000000 in
set_option maxRecDepth 100000 in
theorem c_gRuns {G : zT} {h : zH} {g v : Nat} {f : Nat → Int32} (hG : zAl G = false) (hlen : h.length < 1000) (hg : h[g]? = some (.inr (2, [.ref v]))) (hv : h[v]? = some (.inl (0, 320, .inl f))) (y : Int32) {c : Nat} (hc : c < 2 ^ 31) : zRun G mX2_runs 0 0 [.ref g, .int y, .int (nI c)] h (.inr (some (.int (nI (zRu f y c))))) h := by
  refine zRun_of (by decide +kernel) rfl rfl (Nat.le_of_ble_eq_true rfl) ?_
  suffices hs : ∀ (o9 : zO) (h9 : zH), (Sum.inr (some (.int (nI (zRu f y c)))) : zO) = o9 → h = h9 → zPW G mX2_runs 0 0 o9 h9 0 0 0 [(0, .ref g), (1, .int y), (2, .int (nI c))] [] h from hs _ _ rfl rfl
  intro o9 h9 ho9 hh9
  refine z_iconst (v := 0) dX2_runs_0 (by decide) ?_
  refine z_istore_n (lv' := [(3, .int 0), (0, .ref g), (1, .int y), (2, .int (nI c))]) dX2_runs_1 rfl (by decide) rfl ?_
  refine z_iconst (v := 0) dX2_runs_2 (by decide) ?_
  refine z_istore (lv' := [(4, .int 0), (3, .int 0), (0, .ref g), (1, .int y), (2, .int (nI c))]) dX2_runs_3 (by decide) rfl ?_
  have L5_1 : ∀ (d k : Nat), k ≤ c → c + 1 ≤ k + d → zPW G mX2_runs 0 0 o9 h9 0 0 5 [(4, .int (nI k)), (3, .int (nI (zCt (fun b => zSt f (nI b) y) k))), (0, .ref g), (1, .int y), (2, .int (nI c))] [] h := by
    intro d
    induction d with
    | zero => intro k hk hd; exact absurd hd (by omega)
    | succ d ih =>
      intro k hk_k hd_k
      have ih5 := ih
      clear ih
      refine z_iload 0 dX2_runs_5 rfl ?_
      refine z_iload_n 4 dX2_runs_7 rfl rfl ?_
      refine z_icmp_ge (tgt := 35) dX2_runs_8 (by decide) (fun c_8 => ?_) (fun c_8 => ?_)
      · skip
        have hx_k := zge (by omega) hk_k c_8
        refine z_iload_n 1 dX2_runs_35 rfl rfl ?_
        exact z_iret rfl dX2_runs_36 (zo_i ho9 (by rw [zRu, hx_k])) (zo_h hh9 (by rfl)) (Nat.zero_le _) (Nat.zero_le _)
      · skip
        have hx_k := zlt' (by omega) hk_k c_8
        refine z_iload_n 1 dX2_runs_11 rfl rfl ?_
        refine z_aload_n 2 dX2_runs_12 rfl rfl ?_
        refine z_iload 0 dX2_runs_13 rfl ?_
        refine z_iload_n 3 dX2_runs_15 rfl rfl ?_
        refine z_callV (N := mX2_startsRun) 2 [.int (nI k), .int y] [.int (nI (zCt (fun b => zSt f (nI b) y) k))] lX2_startsRun ⟨zw_353, zw_354, zw_355⟩ rfl hg rfl rfl (Nat.le_of_ble_eq_true rfl) (by decide) ⟨hlen, hlen⟩ ⟨Nat.zero_le _, Nat.zero_le _⟩ (fun _ => rfl) (c_gStarts (g := g) (v := v) (f := f) hG hlen hg hv (nI k) y) dX2_runs_16 ?_
        refine z_if_eq (tgt := 26) dX2_runs_19 (by decide) (fun c_19 => ?_) (fun c_19 => ?_)
        · skip
          have b_19 := zB_0.mp c_19
          refine z_iconst (v := 0) dX2_runs_26 (by decide) ?_
          refine z_iadd dX2_runs_27 ?_
          refine z_istore_n (lv' := [(3, .int ((nI (zCt (fun b => zSt f (nI b) y) k)) + 0)), (4, .int (nI k)), (0, .ref g), (1, .int y), (2, .int (nI c))]) dX2_runs_28 rfl (by decide) rfl ?_
          refine z_iinc (v := nI (k + 1)) (lv' := [(4, .int (nI (k + 1))), (3, .int ((nI (zCt (fun b => zSt f (nI b) y) k)) + 0)), (0, .ref g), (1, .int y), (2, .int (nI c))]) 1 dX2_runs_29 rfl (nI_1 k) (by decide) rfl ?_
          refine z_goto (tgt := 5) dX2_runs_32 (by decide) ?_
          refine z_sub [0, 1, 2, 3, 4] (lv' := [(4, .int (nI (k + 1))), (3, .int ((nI (zCt (fun b => zSt f (nI b) y) k)) + 0)), (0, .ref g), (1, .int y), (2, .int (nI c))]) rfl ?_
          refine z_eqs (lv2 := [(4, .int (nI (k + 1))), (3, .int (nI (zCt (fun b => zSt f (nI b) y) (k + 1)))), (0, .ref g), (1, .int y), (2, .int (nI c))]) (h2 := h) (by first | rw [zCt_t (p := fun b => zSt f (nI b) y) (by simpa [zB_0] using c_19)] | rw [zCt_f (p := fun b => zSt f (nI b) y) (by simpa [zB_0] using c_19)]) (by rfl) ?_
          exact ih5 (k + 1) (by omega) (by omega)
        · skip
          have b_19 := zB_tt c_19
          refine z_iconst (v := 1) dX2_runs_22 (by decide) ?_
          refine z_goto (tgt := 27) dX2_runs_23 (by decide) ?_
          refine z_iadd dX2_runs_27 ?_
          refine z_istore_n (lv' := [(3, .int ((nI (zCt (fun b => zSt f (nI b) y) k)) + 1)), (4, .int (nI k)), (0, .ref g), (1, .int y), (2, .int (nI c))]) dX2_runs_28 rfl (by decide) rfl ?_
          refine z_iinc (v := nI (k + 1)) (lv' := [(4, .int (nI (k + 1))), (3, .int ((nI (zCt (fun b => zSt f (nI b) y) k)) + 1)), (0, .ref g), (1, .int y), (2, .int (nI c))]) 1 dX2_runs_29 rfl (nI_1 k) (by decide) rfl ?_
          refine z_goto (tgt := 5) dX2_runs_32 (by decide) ?_
          refine z_sub [0, 1, 2, 3, 4] (lv' := [(4, .int (nI (k + 1))), (3, .int ((nI (zCt (fun b => zSt f (nI b) y) k)) + 1)), (0, .ref g), (1, .int y), (2, .int (nI c))]) rfl ?_
          refine z_eqs (lv2 := [(4, .int (nI (k + 1))), (3, .int (nI (zCt (fun b => zSt f (nI b) y) (k + 1)))), (0, .ref g), (1, .int y), (2, .int (nI c))]) (h2 := h) (by first | rw [zCt_t (p := fun b => zSt f (nI b) y) (by simpa [zB_0] using c_19)] | rw [zCt_f (p := fun b => zSt f (nI b) y) (by simpa [zB_0] using c_19)]) (by rfl) ?_
          exact ih5 (k + 1) (by omega) (by omega)
  refine z_sub [0, 1, 2, 3, 4] (lv' := [(4, .int 0), (3, .int 0), (0, .ref g), (1, .int y), (2, .int (nI c))]) rfl ?_
  refine z_eqs (lv2 := [(4, .int (nI 0)), (3, .int (nI (zCt (fun b => zSt f (nI b) y) 0))), (0, .ref g), (1, .int y), (2, .int (nI c))]) (h2 := h) (by rfl) (by rfl) ?_
  exact L5_1 (c + 1) 0 (Nat.zero_le _) (by omega)

set_option maxHeartbeats 4000000 in
set_option maxRecDepth 100000 in
theorem c_gRunsOf {G : zT} {h : zH} {g v : Nat} {f : Nat → Int32} (hG : zAl G = false) (hlen : h.length < 1000) (hg : h[g]? = some (.inr (2, [.ref v]))) (hv : h[v]? = some (.inl (0, 320, .inl f))) (w y : Int32) {c : Nat} (hc : c < 2 ^ 31) : zRun G mX2_runsOf 0 0 [.ref g, .int w, .int y, .int (nI c)] h (.inr (some (.int (nI (zRo f w y c))))) h := by
  refine zRun_of (by decide +kernel) rfl rfl (Nat.le_of_ble_eq_true rfl) ?_
  suffices hs : ∀ (o9 : zO) (h9 : zH), (Sum.inr (some (.int (nI (zRo f w y c)))) : zO) = o9 → h = h9 → zPW G mX2_runsOf 0 0 o9 h9 0 0 0 [(0, .ref g), (1, .int w), (2, .int y), (3, .int (nI c))] [] h from hs _ _ rfl rfl
  intro o9 h9 ho9 hh9
  refine z_iconst (v := 0) dX2_runsOf_0 (by decide) ?_
  refine z_istore (lv' := [(4, .int 0), (0, .ref g), (1, .int w), (2, .int y), (3, .int (nI c))]) dX2_runsOf_1 (by decide) rfl ?_
  refine z_iconst (v := 0) dX2_runsOf_3 (by decide) ?_
  refine z_istore (lv' := [(5, .int 0), (4, .int 0), (0, .ref g), (1, .int w), (2, .int y), (3, .int (nI c))]) dX2_runsOf_4 (by decide) rfl ?_
  have L6_1 : ∀ (d k : Nat), k ≤ c → c + 1 ≤ k + d → zPW G mX2_runsOf 0 0 o9 h9 0 0 6 [(5, .int (nI k)), (4, .int (nI (zCt (fun b => zAt f (nI b) y == w && !(zAt f (nI b - 1) y == w)) k))), (0, .ref g), (1, .int w), (2, .int y), (3, .int (nI c))] [] h := by
    intro d
    induction d with
    | zero => intro k hk hd; exact absurd hd (by omega)
    | succ d ih =>
      intro k hk_k hd_k
      have ih6 := ih
      clear ih
      refine z_iload 0 dX2_runsOf_6 rfl ?_
      refine z_iload_n 5 dX2_runsOf_8 rfl rfl ?_
      refine z_icmp_ge (tgt := 52) dX2_runsOf_9 (by decide) (fun c_9 => ?_) (fun c_9 => ?_)
      · skip
        have hx_k := zge (by omega) hk_k c_9
        refine z_iload 1 dX2_runsOf_52 rfl ?_
        exact z_iret rfl dX2_runsOf_54 (zo_i ho9 (by rw [zRo, hx_k])) (zo_h hh9 (by rfl)) (Nat.zero_le _) (Nat.zero_le _)
      · skip
        have hx_k := zlt' (by omega) hk_k c_9
        refine z_iload 1 dX2_runsOf_12 rfl ?_
        refine z_aload_n 2 dX2_runsOf_14 rfl rfl ?_
        refine z_iload 0 dX2_runsOf_15 rfl ?_
        refine z_iload_n 4 dX2_runsOf_17 rfl rfl ?_
        refine z_callV (N := mX2_at) 2 [.int (nI k), .int y] [.int (nI (zCt (fun b => zAt f (nI b) y == w && !(zAt f (nI b - 1) y == w)) k))] lX2_at ⟨zw_300, zw_273, zw_274⟩ rfl hg rfl rfl (Nat.le_of_ble_eq_true rfl) (by decide) ⟨hlen, hlen⟩ ⟨Nat.zero_le _, Nat.zero_le _⟩ (fun _ => rfl) (c_gAt (g := g) (v := v) (f := f) hG hlen hg hv (nI k) y) dX2_runsOf_18 ?_
        refine z_iload_n 3 dX2_runsOf_21 rfl rfl ?_
        refine z_icmp_ne (tgt := 42) dX2_runsOf_22 (by decide) (fun c_22 => ?_) (fun c_22 => ?_)
        · skip
          refine z_iconst (v := 0) dX2_runsOf_42 (by decide) ?_
          refine z_iadd dX2_runsOf_43 ?_
          refine z_istore (lv' := [(4, .int ((nI (zCt (fun b => zAt f (nI b) y == w && !(zAt f (nI b - 1) y == w)) k)) + 0)), (5, .int (nI k)), (0, .ref g), (1, .int w), (2, .int y), (3, .int (nI c))]) dX2_runsOf_44 (by decide) rfl ?_
          refine z_iinc (v := nI (k + 1)) (lv' := [(5, .int (nI (k + 1))), (4, .int ((nI (zCt (fun b => zAt f (nI b) y == w && !(zAt f (nI b - 1) y == w)) k)) + 0)), (0, .ref g), (1, .int w), (2, .int y), (3, .int (nI c))]) 1 dX2_runsOf_46 rfl (nI_1 k) (by decide) rfl ?_
          refine z_goto (tgt := 6) dX2_runsOf_49 (by decide) ?_
          refine z_sub [0, 1, 2, 3, 4, 5] (lv' := [(5, .int (nI (k + 1))), (4, .int ((nI (zCt (fun b => zAt f (nI b) y == w && !(zAt f (nI b - 1) y == w)) k)) + 0)), (0, .ref g), (1, .int w), (2, .int y), (3, .int (nI c))]) rfl ?_
          refine z_eqs (lv2 := [(5, .int (nI (k + 1))), (4, .int (nI (zCt (fun b => zAt f (nI b) y == w && !(zAt f (nI b - 1) y == w)) (k + 1)))), (0, .ref g), (1, .int w), (2, .int y), (3, .int (nI c))]) (h2 := h) (by first | rw [zCt_t (p := fun b => zAt f (nI b) y == w && !(zAt f (nI b - 1) y == w)) (by simp [*])] | rw [zCt_f (p := fun b => zAt f (nI b) y == w && !(zAt f (nI b - 1) y == w)) (by simp [*])]) (by rfl) ?_
          exact ih6 (k + 1) (by omega) (by omega)
        · skip
          refine z_aload_n 2 dX2_runsOf_25 rfl rfl ?_
          refine z_iload 0 dX2_runsOf_26 rfl ?_
          refine z_iconst (v := 1) dX2_runsOf_28 (by decide) ?_
          refine z_isub dX2_runsOf_29 ?_
          refine z_iload_n 4 dX2_runsOf_30 rfl rfl ?_
          refine z_callV (N := mX2_at) 2 [.int ((nI k) - 1), .int y] [.int (nI (zCt (fun b => zAt f (nI b) y == w && !(zAt f (nI b - 1) y == w)) k))] lX2_at ⟨zw_300, zw_273, zw_274⟩ rfl hg rfl rfl (Nat.le_of_ble_eq_true rfl) (by decide) ⟨hlen, hlen⟩ ⟨Nat.zero_le _, Nat.zero_le _⟩ (fun _ => rfl) (c_gAt (g := g) (v := v) (f := f) hG hlen hg hv ((nI k) - 1) y) dX2_runsOf_31 ?_
          refine z_iload_n 3 dX2_runsOf_34 rfl rfl ?_
          refine z_icmp_eq (tgt := 42) dX2_runsOf_35 (by decide) (fun c_35 => ?_) (fun c_35 => ?_)
          · skip
            refine z_iconst (v := 0) dX2_runsOf_42 (by decide) ?_
            refine z_iadd dX2_runsOf_43 ?_
            refine z_istore (lv' := [(4, .int ((nI (zCt (fun b => zAt f (nI b) y == w && !(zAt f (nI b - 1) y == w)) k)) + 0)), (5, .int (nI k)), (0, .ref g), (1, .int w), (2, .int y), (3, .int (nI c))]) dX2_runsOf_44 (by decide) rfl ?_
            refine z_iinc (v := nI (k + 1)) (lv' := [(5, .int (nI (k + 1))), (4, .int ((nI (zCt (fun b => zAt f (nI b) y == w && !(zAt f (nI b - 1) y == w)) k)) + 0)), (0, .ref g), (1, .int w), (2, .int y), (3, .int (nI c))]) 1 dX2_runsOf_46 rfl (nI_1 k) (by decide) rfl ?_
            refine z_goto (tgt := 6) dX2_runsOf_49 (by decide) ?_
            refine z_sub [0, 1, 2, 3, 4, 5] (lv' := [(5, .int (nI (k + 1))), (4, .int ((nI (zCt (fun b => zAt f (nI b) y == w && !(zAt f (nI b - 1) y == w)) k)) + 0)), (0, .ref g), (1, .int w), (2, .int y), (3, .int (nI c))]) rfl ?_
            refine z_eqs (lv2 := [(5, .int (nI (k + 1))), (4, .int (nI (zCt (fun b => zAt f (nI b) y == w && !(zAt f (nI b - 1) y == w)) (k + 1)))), (0, .ref g), (1, .int w), (2, .int y), (3, .int (nI c))]) (h2 := h) (by first | rw [zCt_t (p := fun b => zAt f (nI b) y == w && !(zAt f (nI b - 1) y == w)) (by simp [*])] | rw [zCt_f (p := fun b => zAt f (nI b) y == w && !(zAt f (nI b - 1) y == w)) (by simp [*])]) (by rfl) ?_
            exact ih6 (k + 1) (by omega) (by omega)
          · skip
            refine z_iconst (v := 1) dX2_runsOf_38 (by decide) ?_
            refine z_goto (tgt := 43) dX2_runsOf_39 (by decide) ?_
            refine z_iadd dX2_runsOf_43 ?_
            refine z_istore (lv' := [(4, .int ((nI (zCt (fun b => zAt f (nI b) y == w && !(zAt f (nI b - 1) y == w)) k)) + 1)), (5, .int (nI k)), (0, .ref g), (1, .int w), (2, .int y), (3, .int (nI c))]) dX2_runsOf_44 (by decide) rfl ?_
            refine z_iinc (v := nI (k + 1)) (lv' := [(5, .int (nI (k + 1))), (4, .int ((nI (zCt (fun b => zAt f (nI b) y == w && !(zAt f (nI b - 1) y == w)) k)) + 1)), (0, .ref g), (1, .int w), (2, .int y), (3, .int (nI c))]) 1 dX2_runsOf_46 rfl (nI_1 k) (by decide) rfl ?_
            refine z_goto (tgt := 6) dX2_runsOf_49 (by decide) ?_
            refine z_sub [0, 1, 2, 3, 4, 5] (lv' := [(5, .int (nI (k + 1))), (4, .int ((nI (zCt (fun b => zAt f (nI b) y == w && !(zAt f (nI b - 1) y == w)) k)) + 1)), (0, .ref g), (1, .int w), (2, .int y), (3, .int (nI c))]) rfl ?_
            refine z_eqs (lv2 := [(5, .int (nI (k + 1))), (4, .int (nI (zCt (fun b => zAt f (nI b) y == w && !(zAt f (nI b - 1) y == w)) (k + 1)))), (0, .ref g), (1, .int w), (2, .int y), (3, .int (nI c))]) (h2 := h) (by first | rw [zCt_t (p := fun b => zAt f (nI b) y == w && !(zAt f (nI b - 1) y == w)) (by simp [*])] | rw [zCt_f (p := fun b => zAt f (nI b) y == w && !(zAt f (nI b - 1) y == w)) (by simp [*])]) (by rfl) ?_
            exact ih6 (k + 1) (by omega) (by omega)
  refine z_sub [0, 1, 2, 3, 4, 5] (lv' := [(5, .int 0), (4, .int 0), (0, .ref g), (1, .int w), (2, .int y), (3, .int (nI c))]) rfl ?_
  refine z_eqs (lv2 := [(5, .int (nI 0)), (4, .int (nI (zCt (fun b => zAt f (nI b) y == w && !(zAt f (nI b - 1) y == w)) 0))), (0, .ref g), (1, .int w), (2, .int y), (3, .int (nI c))]) (h2 := h) (by rfl) (by rfl) ?_
  exact L6_1 (c + 1) 0 (Nat.zero_le _) (by omega)

set_option maxHeartbeats 4000000 in
set_option maxRecDepth 100000 in
theorem c_gCells {G : zT} {h : zH} {g v : Nat} {f : Nat → Int32} (hG : zAl G = false) (hlen : h.length < 1000) (hg : h[g]? = some (.inr (2, [.ref v]))) (hv : h[v]? = some (.inl (0, 320, .inl f))) (w y : Int32) {c : Nat} (hc : c < 2 ^ 31) : zRun G mX2_cellsOf 0 0 [.ref g, .int w, .int y, .int (nI c)] h (.inr (some (.int (nI (zCe f w y c))))) h := by
  refine zRun_of (by decide +kernel) rfl rfl (Nat.le_of_ble_eq_true rfl) ?_
  suffices hs : ∀ (o9 : zO) (h9 : zH), (Sum.inr (some (.int (nI (zCe f w y c)))) : zO) = o9 → h = h9 → zPW G mX2_cellsOf 0 0 o9 h9 0 0 0 [(0, .ref g), (1, .int w), (2, .int y), (3, .int (nI c))] [] h from hs _ _ rfl rfl
  intro o9 h9 ho9 hh9
  refine z_iconst (v := 0) dX2_cellsOf_0 (by decide) ?_
  refine z_istore (lv' := [(4, .int 0), (0, .ref g), (1, .int w), (2, .int y), (3, .int (nI c))]) dX2_cellsOf_1 (by decide) rfl ?_
  refine z_iconst (v := 0) dX2_cellsOf_3 (by decide) ?_
  refine z_istore (lv' := [(5, .int 0), (4, .int 0), (0, .ref g), (1, .int w), (2, .int y), (3, .int (nI c))]) dX2_cellsOf_4 (by decide) rfl ?_
  have L6_1 : ∀ (d k : Nat), k ≤ c → c + 1 ≤ k + d → zPW G mX2_cellsOf 0 0 o9 h9 0 0 6 [(5, .int (nI k)), (4, .int (nI (zCt (fun b => zAt f (nI b) y == w) k))), (0, .ref g), (1, .int w), (2, .int y), (3, .int (nI c))] [] h := by
    intro d
    induction d with
    | zero => intro k hk hd; exact absurd hd (by omega)
    | succ d ih =>
      intro k hk_k hd_k
      have ih6 := ih
      clear ih
      refine z_iload 0 dX2_cellsOf_6 rfl ?_
      refine z_iload_n 5 dX2_cellsOf_8 rfl rfl ?_
      refine z_icmp_ge (tgt := 39) dX2_cellsOf_9 (by decide) (fun c_9 => ?_) (fun c_9 => ?_)
      · skip
        have hx_k := zge (by omega) hk_k c_9
        refine z_iload 1 dX2_cellsOf_39 rfl ?_
        exact z_iret rfl dX2_cellsOf_41 (zo_i ho9 (by rw [zCe, hx_k])) (zo_h hh9 (by rfl)) (Nat.zero_le _) (Nat.zero_le _)
      · skip
        have hx_k := zlt' (by omega) hk_k c_9
        refine z_iload 1 dX2_cellsOf_12 rfl ?_
        refine z_aload_n 2 dX2_cellsOf_14 rfl rfl ?_
        refine z_iload 0 dX2_cellsOf_15 rfl ?_
        refine z_iload_n 4 dX2_cellsOf_17 rfl rfl ?_
        refine z_callV (N := mX2_at) 2 [.int (nI k), .int y] [.int (nI (zCt (fun b => zAt f (nI b) y == w) k))] lX2_at ⟨zw_300, zw_273, zw_274⟩ rfl hg rfl rfl (Nat.le_of_ble_eq_true rfl) (by decide) ⟨hlen, hlen⟩ ⟨Nat.zero_le _, Nat.zero_le _⟩ (fun _ => rfl) (c_gAt (g := g) (v := v) (f := f) hG hlen hg hv (nI k) y) dX2_cellsOf_18 ?_
        refine z_iload_n 3 dX2_cellsOf_21 rfl rfl ?_
        refine z_icmp_ne (tgt := 29) dX2_cellsOf_22 (by decide) (fun c_22 => ?_) (fun c_22 => ?_)
        · skip
          refine z_iconst (v := 0) dX2_cellsOf_29 (by decide) ?_
          refine z_iadd dX2_cellsOf_30 ?_
          refine z_istore (lv' := [(4, .int ((nI (zCt (fun b => zAt f (nI b) y == w) k)) + 0)), (5, .int (nI k)), (0, .ref g), (1, .int w), (2, .int y), (3, .int (nI c))]) dX2_cellsOf_31 (by decide) rfl ?_
          refine z_iinc (v := nI (k + 1)) (lv' := [(5, .int (nI (k + 1))), (4, .int ((nI (zCt (fun b => zAt f (nI b) y == w) k)) + 0)), (0, .ref g), (1, .int w), (2, .int y), (3, .int (nI c))]) 1 dX2_cellsOf_33 rfl (nI_1 k) (by decide) rfl ?_
          refine z_goto (tgt := 6) dX2_cellsOf_36 (by decide) ?_
          refine z_sub [0, 1, 2, 3, 4, 5] (lv' := [(5, .int (nI (k + 1))), (4, .int ((nI (zCt (fun b => zAt f (nI b) y == w) k)) + 0)), (0, .ref g), (1, .int w), (2, .int y), (3, .int (nI c))]) rfl ?_
          refine z_eqs (lv2 := [(5, .int (nI (k + 1))), (4, .int (nI (zCt (fun b => zAt f (nI b) y == w) (k + 1)))), (0, .ref g), (1, .int w), (2, .int y), (3, .int (nI c))]) (h2 := h) (by first | rw [zCt_t (p := fun b => zAt f (nI b) y == w) (by simp [*])] | rw [zCt_f (p := fun b => zAt f (nI b) y == w) (by simp [*])]) (by rfl) ?_
          exact ih6 (k + 1) (by omega) (by omega)
        · skip
          refine z_iconst (v := 1) dX2_cellsOf_25 (by decide) ?_
          refine z_goto (tgt := 30) dX2_cellsOf_26 (by decide) ?_
          refine z_iadd dX2_cellsOf_30 ?_
          refine z_istore (lv' := [(4, .int ((nI (zCt (fun b => zAt f (nI b) y == w) k)) + 1)), (5, .int (nI k)), (0, .ref g), (1, .int w), (2, .int y), (3, .int (nI c))]) dX2_cellsOf_31 (by decide) rfl ?_
          refine z_iinc (v := nI (k + 1)) (lv' := [(5, .int (nI (k + 1))), (4, .int ((nI (zCt (fun b => zAt f (nI b) y == w) k)) + 1)), (0, .ref g), (1, .int w), (2, .int y), (3, .int (nI c))]) 1 dX2_cellsOf_33 rfl (nI_1 k) (by decide) rfl ?_
          refine z_goto (tgt := 6) dX2_cellsOf_36 (by decide) ?_
          refine z_sub [0, 1, 2, 3, 4, 5] (lv' := [(5, .int (nI (k + 1))), (4, .int ((nI (zCt (fun b => zAt f (nI b) y == w) k)) + 1)), (0, .ref g), (1, .int w), (2, .int y), (3, .int (nI c))]) rfl ?_
          refine z_eqs (lv2 := [(5, .int (nI (k + 1))), (4, .int (nI (zCt (fun b => zAt f (nI b) y == w) (k + 1)))), (0, .ref g), (1, .int w), (2, .int y), (3, .int (nI c))]) (h2 := h) (by first | rw [zCt_t (p := fun b => zAt f (nI b) y == w) (by simp [*])] | rw [zCt_f (p := fun b => zAt f (nI b) y == w) (by simp [*])]) (by rfl) ?_
          exact ih6 (k + 1) (by omega) (by omega)
  refine z_sub [0, 1, 2, 3, 4, 5] (lv' := [(5, .int 0), (4, .int 0), (0, .ref g), (1, .int w), (2, .int y), (3, .int (nI c))]) rfl ?_
  refine z_eqs (lv2 := [(5, .int (nI 0)), (4, .int (nI (zCt (fun b => zAt f (nI b) y == w) 0))), (0, .ref g), (1, .int w), (2, .int y), (3, .int (nI c))]) (h2 := h) (by rfl) (by rfl) ?_
  exact L6_1 (c + 1) 0 (Nat.zero_le _) (by omega)

set_option maxHeartbeats 4000000 in
set_option maxRecDepth 100000 in
theorem c_gUnits {G : zT} {h : zH} {g v : Nat} {f : Nat → Int32} (hG : zAl G = false) (hlen : h.length < 1000) (hg : h[g]? = some (.inr (2, [.ref v]))) (hv : h[v]? = some (.inl (0, 320, .inl f))) (w y : Int32) {c : Nat} (hc : c < 2 ^ 31) : zRun G mX2_unitsOf 0 0 [.ref g, .int w, .int y, .int (nI c)] h (.inr (some (.int (nI (zCe f w y c + zRo f w y c))))) h := by
  refine zRun_of (by decide +kernel) rfl rfl (Nat.le_of_ble_eq_true rfl) ?_
  suffices hs : ∀ (o9 : zO) (h9 : zH), (Sum.inr (some (.int (nI (zCe f w y c + zRo f w y c)))) : zO) = o9 → h = h9 → zPW G mX2_unitsOf 0 0 o9 h9 0 0 0 [(0, .ref g), (1, .int w), (2, .int y), (3, .int (nI c))] [] h from hs _ _ rfl rfl
  intro o9 h9 ho9 hh9
  refine z_aload_n 0 dX2_unitsOf_0 rfl rfl ?_
  refine z_iload_n 1 dX2_unitsOf_1 rfl rfl ?_
  refine z_iload_n 2 dX2_unitsOf_2 rfl rfl ?_
  refine z_iload_n 3 dX2_unitsOf_3 rfl rfl ?_
  refine z_callV (N := mX2_cellsOf) 3 [.int w, .int y, .int (nI c)] [] lX2_cellsOf ⟨zw_456, zw_297, zw_298⟩ rfl hg rfl rfl (Nat.le_of_ble_eq_true rfl) (by decide) ⟨hlen, hlen⟩ ⟨Nat.zero_le _, Nat.zero_le _⟩ (fun _ => rfl) (c_gCells (g := g) (v := v) (f := f) hG hlen hg hv w y (c := c) hc) dX2_unitsOf_4 ?_
  refine z_aload_n 0 dX2_unitsOf_7 rfl rfl ?_
  refine z_iload_n 1 dX2_unitsOf_8 rfl rfl ?_
  refine z_iload_n 2 dX2_unitsOf_9 rfl rfl ?_
  refine z_iload_n 3 dX2_unitsOf_10 rfl rfl ?_
  refine z_callV (N := mX2_runsOf) 3 [.int w, .int y, .int (nI c)] [.int (nI (zCe f w y c))] lX2_runsOf ⟨zw_457, zw_445, zw_446⟩ rfl hg rfl rfl (Nat.le_of_ble_eq_true rfl) (by decide) ⟨hlen, hlen⟩ ⟨Nat.zero_le _, Nat.zero_le _⟩ (fun _ => rfl) (c_gRunsOf (g := g) (v := v) (f := f) hG hlen hg hv w y (c := c) hc) dX2_unitsOf_11 ?_
  refine z_iadd dX2_unitsOf_14 ?_
  exact z_iret rfl dX2_unitsOf_15 (zo_i ho9 (by rw [nI_add])) (zo_h hh9 (by rfl)) (Nat.zero_le _) (Nat.zero_le _)
