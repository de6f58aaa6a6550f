/-! the slit of a number, sums over slits, what is sewn -/
theorem zSpI_no {P : Nat → Bool} {b : Nat} {ix : Int32} (h : ∀ m : Nat, m < 2 ^ 31 → ¬ nI m = ix) : ∀ (d y n : Nat), n + d < 2 ^ 31 → ∃ m, zSpI P b ix y d n = (m, none) ∧ m ≤ n + d
  | 0, y, n, _ => ⟨n, rfl, by omega⟩
  | d + 1, y, n, hn => by
    unfold zSpI
    by_cases q : P y = true
    · rw [if_pos q, if_neg (h n (by omega))]
      obtain ⟨m, h1, h2⟩ := zSpI_no h d (y + 1) (n + 1) (by omega)
      exact ⟨m, h1, by omega⟩
    · rw [if_neg q]
      obtain ⟨m, h1, h2⟩ := zSpI_no h d (y + 1) n (by omega)
      exact ⟨m, h1, by omega⟩
theorem zSpO_no {P : Nat → Nat → Bool} {w : Nat} {ix : Int32} (h : ∀ m : Nat, m < 2 ^ 31 → ¬ nI m = ix) : ∀ (d b n : Nat), n + d * w < 2 ^ 31 → zSpO P w ix b d n = none
  | 0, _, _, _ => rfl
  | d + 1, b, n, hn => by
    rw [Nat.succ_mul] at hn
    unfold zSpO
    obtain ⟨m, h1, h2⟩ := zSpI_no (P := P b) (b := b) h w 0 n (by omega)
    rw [h1]
    exact zSpO_no h d (b + 1) m (by omega)
theorem zSpI_k {P : Nat → Bool} {b k : Nat} (hk : k < 2 ^ 31) : ∀ (d y n : Nat), n ≤ k → n + d < 2 ^ 31 → zSpI P b (nI k) y d n = (match ((List.range' y d).filter P)[k - n]? with
    | some a => (k, some (nI (16 * b + a)))
    | none => (n + ((List.range' y d).filter P).length, none))
  | 0, y, n, _, _ => rfl
  | d + 1, y, n, h1, h2 => by
    unfold zSpI
    rw [List.range'_succ]
    by_cases q : P y = true
    · rw [if_pos q, List.filter_cons_of_pos q]
      by_cases e : n = k
      · subst e
        rw [if_pos rfl, Nat.sub_self, List.getElem?_cons_zero]
        show (n, some (nI b * nI 16 + nI y)) = (n, some (nI (16 * b + y)))
        rw [pk_mul, nI_add, Nat.mul_comm]
      · rw [if_neg (fun r => e (m_eq (by omega) hk r)), zSpI_k hk d (y + 1) (n + 1) (by omega) (by omega), show k - n = (k - (n + 1)) + 1 from by omega, List.getElem?_cons_succ, List.length_cons]
        rw [show n + (((List.range' (y + 1) d).filter P).length + 1) = n + 1 + ((List.range' (y + 1) d).filter P).length from by omega]
    · rw [if_neg q, List.filter_cons_of_neg q, zSpI_k hk d (y + 1) n h1 (by omega)]
def zSLr (P : Nat → Nat → Bool) (w b d : Nat) : List (Nat × Nat) := (List.range' b d).flatMap fun b => ((List.range w).filter (P b)).map fun y => (b, y)
theorem zSpO_k {P : Nat → Nat → Bool} {w k : Nat} (hk : k < 2 ^ 31) : ∀ (d b n : Nat), n ≤ k → n + d * w < 2 ^ 31 → zSpO P w (nI k) b d n = (match (zSLr P w b d)[k - n]? with
    | some x => some (nI (16 * x.1 + x.2))
    | none => none)
  | 0, b, n, _, _ => rfl
  | d + 1, b, n, h1, h2 => by
    rw [Nat.succ_mul] at h2
    unfold zSpO
    rw [zSpI_k hk w 0 n h1 (by omega), ← List.range_eq_range']
    have hl : ((List.range w).filter (P b)).length ≤ w := by rw [zFil_len]; exact zCt_le _ _
    unfold zSLr
    rw [List.range'_succ, List.flatMap_cons]
    by_cases q : k - n < ((List.range w).filter (P b)).length
    · rw [List.getElem?_append_left (by rw [List.length_map]; exact q), List.getElem?_map, List.getElem?_eq_getElem q]
      rfl
    · rw [List.getElem?_append_right (by rw [List.length_map]; omega), List.length_map, List.getElem?_eq_none (by omega : ((List.range w).filter (P b)).length ≤ k - n)]
      show zSpO P w (nI k) (b + 1) d (n + _) = _
      rw [zSpO_k hk d (b + 1) _ (by omega) (by omega), show k - n - ((List.range w).filter (P b)).length = k - (n + ((List.range w).filter (P b)).length) from by omega]
      rfl
theorem zSp_k {wov : Nat → Int32} {c w lm k : Nat} (hc : c ≤ 20) (hw : w ≤ 16) (hk : k < 2 ^ 31) : zSp wov c w lm (nI k) = (match (zSL (zSlP wov c w lm) c w)[k]? with
    | some x => nI (16 * x.1 + x.2)
    | none => -1) := by
  unfold zSp
  have hm : c * w ≤ 20 * 16 := Nat.mul_le_mul hc hw
  rw [zSpO_k hk c 0 0 (by omega) (by omega), Nat.sub_zero]
  unfold zSLr
  rw [← List.range_eq_range']
  show ((match (zSL (zSlP wov c w lm) c w)[k]? with
    | some x => some (nI (16 * x.1 + x.2))
    | none => none) : Option Int32).getD (-1) = _
  cases (zSL (zSlP wov c w lm) c w)[k]? <;> rfl
theorem zSp_neg {wov : Nat → Int32} {c w lm : Nat} {ix : Int32} (hc : c ≤ 20) (hw : w ≤ 16) (hk : ix < 0) : zSp wov c w lm ix = -1 := by
  unfold zSp
  have hm : c * w ≤ 20 * 16 := Nat.mul_le_mul hc hw
  rw [zSpO_no (fun m hm q => nI_pos hm (by rw [q]; exact hk)) c 0 0 (by omega)]
  rfl
theorem zSc_l (wov : Nat → Int32) (c w lm : Nat) : zSc wov c w lm = (zSL (zSlP wov c w lm) c w).length := (zSL_len _ _ _).symm
/-- sums -/
theorem zSN_it (f : Nat → Nat) : ∀ n : Nat, zSN f n = zIt (fun y q => q + f y) n 0
  | 0 => rfl
  | n + 1 => by
    show zSN f n + f n = _
    rw [zSN_it f n]
    rfl
theorem zIt_at (f : Nat → Nat) (a : Nat) : ∀ n : Nat, zIt (fun y q => q + f y) n a = a + zSN f n
  | 0 => rfl
  | n + 1 => by
    show zIt _ n a + f n = a + (zSN f n + f n)
    rw [zIt_at f a n, Nat.add_assoc]
theorem zCt_SN (p : Nat → Bool) : ∀ n : Nat, zCt p n = zSN (fun y => if p y then 1 else 0) n
  | 0 => rfl
  | n + 1 => by
    show zCt p n + _ = zSN _ n + _
    rw [zCt_SN p n]
theorem zSN_add (f g : Nat → Nat) : ∀ n : Nat, zSN (fun y => f y + g y) n = zSN f n + zSN g n
  | 0 => rfl
  | n + 1 => by
    show zSN _ n + (f n + g n) = (zSN f n + f n) + (zSN g n + g n)
    rw [zSN_add f g n]
    omega
theorem zSN_0 : ∀ n : Nat, zSN (fun _ => 0) n = 0
  | 0 => rfl
  | n + 1 => by
    show zSN _ n + 0 = 0
    rw [zSN_0 n]
theorem zSN_swap (f : Nat → Nat → Nat) (r : Nat) : ∀ c : Nat, zSN (fun y => zSN (fun b => f y b) c) r = zSN (fun b => zSN (fun y => f y b) r) c
  | 0 => zSN_0 r
  | c + 1 => by
    show zSN (fun y => zSN (fun b => f y b) c + f y c) r = zSN (fun b => zSN (fun y => f y b) r) c + zSN (fun y => f y c) r
    rw [zSN_add, zSN_swap f r c]
theorem zSN_ext {f : Nat → Nat} {w : Nat} (h : ∀ y, w ≤ y → f y = 0) : ∀ d : Nat, zSN f (w + d) = zSN f w
  | 0 => rfl
  | d + 1 => by
    show zSN f (w + d) + f (w + d) = zSN f w
    rw [h (w + d) (by omega), Nat.add_zero, zSN_ext h d]
theorem zSL_sum (P : Nat → Nat → Bool) (g : Nat → Nat → Nat) (w c : Nat) : zSN (fun b => zSN (fun y => if P b y then g b y else 0) w) c = (zSL P c w).foldl (fun n x => n + g x.1 x.2) 0 := by
  rw [← zSL_fold (P := P) (fun b y n => n + g b y), zSN_it]
  refine zIt_cg fun b _ q => ?_
  rw [← zIt_at]
  refine zIt_cg fun y _ q => ?_
  split
  · rfl
  · rfl
theorem zSN_list {β : Type} (l : List β) (d : β) (g : β → Nat) : zSN (fun k => g (l.getD k d)) l.length = l.foldl (fun n x => n + g x) 0 := by
  rw [zSN_it]
  exact zIt_list l d (fun x n => n + g x) 0
theorem zSm_nI (f : Nat → Nat) : ∀ n : Nat, zSm (fun k => nI (f k)) n = nI (zSN f n)
  | 0 => by show (0 : Int32) = nI 0; rw [nI_0]
  | n + 1 => by
    show zSm _ n + nI (f n) = nI (zSN f n + f n)
    rw [zSm_nI f n, nI_add]
/-- what is sewn is the same; only slits are sewn -/
def zSW (wov sew s : Nat → Int32) (c w lim : Nat) : Prop := ∀ b y, b < 20 → y < 16 → sew (20 * y + b) = s (1051 + 16 * b + y) ∧ (s (1051 + 16 * b + y) = nI 0 ∨ (s (1051 + 16 * b + y) = nI 1 ∧ b < c ∧ y < w ∧ zSlP wov c w lim b y = true))
theorem rSx_n {B F : Nat → Int32} {k b y : Nat} (hb : B k = nI b) (hy : F k = nI y) (h1 : b < 20) (h2 : y < 16) : rSx B F k = 1051 + 16 * b + y := by
  unfold rSx
  rw [hb, hy, pk_mul, nI_add, nI_add, nI_clamp (by omega)]
/-- the arrays of a search that begins with none -/
def zAr (l : List (Nat × Nat)) (g : Nat × Nat → Nat) (B F T : Nat → Int32) : Prop := ∀ k x, l[k]? = some x → B k = nI x.1 ∧ F k = nI x.2 ∧ T k = nI (g x)
def zLE (wov : Nat → Int32) (c w : Nat) (x : Nat × Nat) : Nat := x.2 + zRl wov c w (nI x.1) x.2 - 1
theorem rFd_a {wov s : Nat → Int32} {c w lm : Nat} (h : zWW wov s c w) (hc : 1 ≤ c) (B F T : Nat → Int32) : (rFd s w lm (c - 1) (0, B, F, T)).1 = (zSL (zSlP wov c w lm) c w).length ∧ zAr (zSL (zSlP wov c w lm) c w) (zLE wov c w) (rFd s w lm (c - 1) (0, B, F, T)).2.1 (rFd s w lm (c - 1) (0, B, F, T)).2.2.1 (rFd s w lm (c - 1) (0, B, F, T)).2.2.2 := by
  rw [rFd_l h hc]
  have := zPsh_l (zLE wov c w) (zSL (zSlP wov c w lm) c w) (0, B, F, T)
  refine ⟨by rw [show (0 + (zSL (zSlP wov c w lm) c w).length) = (zSL (zSlP wov c w lm) c w).length from Nat.zero_add _] at this; exact this.1, fun k x hx => ?_⟩
  have := this.2.2 k x hx
  rw [show ((0, B, F, T) : zF4).1 + k = k from Nat.zero_add _] at this
  exact this
theorem zSL_at {P : Nat → Nat → Bool} {c w k : Nat} (hk : k < (zSL P c w).length) : ∃ b y, (zSL P c w)[k]? = some (b, y) ∧ (zSL P c w).getD k (0, 0) = (b, y) ∧ b < c ∧ y < w ∧ P b y = true := by
  have e : (zSL P c w)[k]? = some (zSL P c w)[k] := List.getElem?_eq_getElem hk
  refine ⟨(zSL P c w)[k].1, (zSL P c w)[k].2, e, by rw [List.getD_eq_getElem?_getD, e]; rfl, ?_⟩
  exact zSL_mem.mp (List.getElem_mem hk)
theorem zSW.at {wov sew s : Nat → Int32} {c w lim b y : Nat} (h : zSW wov sew s c w lim) (hb : b < 20) (hy : y < 16) : (zAt sew (nI b) (nI y) == 1) = (s (1051 + 16 * b + y) == nI 1) := by
  rw [zAt_n hb hy, (h b y hb hy).1, nI_one]
theorem zSW.no {wov sew s : Nat → Int32} {c w lim b y : Nat} (h : zSW wov sew s c w lim) (hb : b < 20) (hy : y < 16) (hn : ¬ (b < c ∧ y < w ∧ zSlP wov c w lim b y = true)) : (zAt sew (nI b) (nI y) == 1) = false := by
  rw [h.at hb hy]
  rcases (h b y hb hy).2 with q | q
  · rw [q]; decide
  · exact absurd q.2 hn
/-- sewn slits, counted -/
theorem zSew_n {wov sew s : Nat → Int32} {c r w lim : Nat} (hW : zWW wov s c w) (hS : zSW wov sew s c w lim) (hr : r ≤ 16) (hw : w ≤ r) (hc : 1 ≤ c) (B F T : Nat → Int32) : zCi sew 1 c r = zCt (fun k => s (rSx (rFd s w lim (c - 1) (0, B, F, T)).2.1 (rFd s w lim (c - 1) (0, B, F, T)).2.2.1 k) == nI 1) (rFd s w lim (c - 1) (0, B, F, T)).1 := by
  obtain ⟨a1, a2⟩ := rFd_a (lm := lim) hW hc B F T
  have hc20 := hW.1
  have e1 : zCi sew 1 c r = (zSL (zSlP wov c w lim) c w).foldl (fun n x => n + (if s (1051 + 16 * x.1 + x.2) == nI 1 then 1 else 0)) 0 := by
    rw [← zSL_sum (zSlP wov c w lim) (fun b y => if s (1051 + 16 * b + y) == nI 1 then 1 else 0)]
    unfold zCi
    have e2 : zSN (fun y => zCe sew 1 (nI y) c) r = zSN (fun y => zSN (fun b => if (zAt sew (nI b) (nI y) == 1) then 1 else 0) c) r := zSN_cg fun y _ => zCt_SN _ _
    rw [e2, zSN_swap]
    refine zSN_cg fun b hb => ?_
    obtain ⟨d, rfl⟩ : ∃ d, r = w + d := ⟨r - w, by omega⟩
    have e3 : zSN (fun y => if (zAt sew (nI b) (nI y) == 1) then 1 else 0) (w + d) = zSN (fun y => if y < 16 then (if (zAt sew (nI b) (nI y) == 1) then 1 else 0) else 0) (w + d) := zSN_cg fun y hy => (if_pos (by omega : y < 16)).symm
    rw [e3, zSN_ext (fun y hy => by
      split
      · rw [hS.no (by omega) (by omega) (fun q => by omega)]; rfl
      · rfl) d]
    refine zSN_cg fun y hy => ?_
    rw [if_pos (by omega)]
    by_cases q : zSlP wov c w lim b y = true
    · rw [if_pos q, hS.at (by omega) (by omega)]
    · rw [if_neg q, hS.no (by omega) (by omega) (fun k => q k.2.2)]
      rfl
  rw [e1, a1, zCt_SN, ← zSN_list (zSL (zSlP wov c w lim) c w) (0, 0) (fun x => if s (1051 + 16 * x.1 + x.2) == nI 1 then 1 else 0)]
  refine zSN_cg fun k hk => ?_
  obtain ⟨b, y, h1, h2, h3, h4, -⟩ := zSL_at hk
  obtain ⟨q1, q2, -⟩ := a2 k _ h1
  have := hW.2.1
  rw [h2, rSx_n q1 q2 (by omega) (by omega)]
theorem zSew_r {wov sew s : Nat → Int32} {c w lim : Nat} (hW : zWW wov s c w) (hS : zSW wov sew s c w lim) (hc : 1 ≤ c) (B F T : Nat → Int32) : nI (zSr wov sew c w) = rSwR s (rFd s w lim (c - 1) (0, B, F, T)).2.1 (rFd s w lim (c - 1) (0, B, F, T)).2.2.1 (rFd s w lim (c - 1) (0, B, F, T)).2.2.2 (rFd s w lim (c - 1) (0, B, F, T)).1 := by
  obtain ⟨a1, a2⟩ := rFd_a (lm := lim) hW hc B F T
  have hc20 := hW.1
  have hw16 := hW.2.1
  have e1 : zSr wov sew c w = (zSL (zSlP wov c w lim) c w).foldl (fun n x => n + (if s (1051 + 16 * x.1 + x.2) == nI 1 then zRl wov c w (nI x.1) x.2 else 0)) 0 := by
    rw [← zSL_sum (zSlP wov c w lim) (fun b y => if s (1051 + 16 * b + y) == nI 1 then zRl wov c w (nI b) y else 0)]
    unfold zSr
    refine zSN_cg fun b hb => zSN_cg fun y hy => ?_
    by_cases q : zSlP wov c w lim b y = true
    · rw [if_pos q, hS.at (by omega) (by omega)]
    · rw [if_neg q, hS.no (by omega) (by omega) (fun k => q k.2.2)]
      rfl
  rw [e1]
  unfold rSwR
  rw [a1, ← zSN_list (zSL (zSlP wov c w lim) c w) (0, 0) (fun x => if s (1051 + 16 * x.1 + x.2) == nI 1 then zRl wov c w (nI x.1) x.2 else 0), ← zSm_nI]
  refine zSm_cg fun k hk => ?_
  obtain ⟨b, y, h1, h2, h3, h4, h5⟩ := zSL_at hk
  obtain ⟨q1, q2, q3⟩ := a2 k _ h1
  have hp : 1 ≤ zRl wov c w (nI b) y := by
    unfold zSlP at h5
    have := of_decide_eq_true h5
    omega
  rw [h2, rSx_n q1 q2 (by omega) (by omega), q2, q3]
  show nI (if s (1051 + 16 * b + y) == nI 1 then zRl wov c w (nI b) y else 0) = _
  split
  · unfold zLE
    rw [pk_sub (by show y ≤ y + zRl wov c w (nI b) y - 1; omega), nI_add]
    refine congrArg _ ?_
    show zRl wov c w (nI b) y = y + zRl wov c w (nI b) y - 1 - y + 1
    omega
  · rfl
/-- forgetting -/
theorem zFg_row {wov sew : Nat → Int32} {c w lim b : Nat} (hb : b < 20) (t : Nat → Int32) : ∀ n : Nat, n ≤ 16 → ∀ b1 y1, b1 < 20 → y1 < 16 → zIt (fun y s => if zAt s (nI b) (nI y) == 1 && decide (zRl wov c w (nI b) y ≤ lim) then zPutG s (nI b) (nI y) 0 else s) n t (20 * y1 + b1) = if b1 = b ∧ y1 < n ∧ t (20 * y1 + b) = 1 ∧ zRl wov c w (nI b) y1 ≤ lim then 0 else t (20 * y1 + b1)
  | 0, _, b1, y1, _, _ => by rw [if_neg (by omega)]; rfl
  | n + 1, hn, b1, y1, h1, h2 => by
    have ih := zFg_row (wov := wov) (sew := sew) (c := c) (w := w) (lim := lim) hb t n (by omega)
    show (if zAt (zIt _ n t) (nI b) (nI n) == 1 && decide (zRl wov c w (nI b) n ≤ lim) then zPutG (zIt _ n t) (nI b) (nI n) 0 else zIt _ n t) (20 * y1 + b1) = _
    have i1 := ih b n hb (by omega)
    rw [if_neg (by omega)] at i1
    rw [zAt_n hb (by omega), i1]
    have i2 := ih b1 y1 h1 h2
    by_cases q : b1 = b ∧ y1 = n
    · obtain ⟨rfl, rfl⟩ := q
      by_cases q2 : t (20 * y1 + b1) = 1 ∧ zRl wov c w (nI b1) y1 ≤ lim
      · rw [if_pos (by rw [q2.1, decide_eq_true q2.2]; rfl), zPutG_n hb (by omega), if_pos ⟨rfl, by omega, q2⟩]
        exact if_pos rfl
      · rw [if_neg (fun k => q2 (by rw [Bool.and_eq_true] at k; exact ⟨by simpa using k.1, of_decide_eq_true k.2⟩)), i1, if_neg (fun k => q2 k.2.2)]
    · have e : (if b1 = b ∧ y1 < n + 1 ∧ t (20 * y1 + b) = 1 ∧ zRl wov c w (nI b) y1 ≤ lim then (0 : Int32) else t (20 * y1 + b1)) = (if b1 = b ∧ y1 < n ∧ t (20 * y1 + b) = 1 ∧ zRl wov c w (nI b) y1 ≤ lim then 0 else t (20 * y1 + b1)) := by
        by_cases k : b1 = b ∧ y1 < n
        · simp only [k.1, k.2, show y1 < n + 1 from by omega, true_and]
        · rw [if_neg (fun z => k ⟨z.1, by omega⟩), if_neg (fun z => k ⟨z.1, z.2.1⟩)]
      rw [e, ← i2]
      split
      · rw [zPutG_n hb (by omega)]
        exact upd_ne (by omega)
      · rfl
theorem zFg_col {wov sew : Nat → Int32} {c w lim : Nat} : ∀ n : Nat, n ≤ 20 → ∀ b1 y1, b1 < 20 → y1 < 16 → zIt (fun b s => zIt (fun y s => if zAt s (nI b) (nI y) == 1 && decide (zRl wov c w (nI b) y ≤ lim) then zPutG s (nI b) (nI y) 0 else s) 16 s) n sew (20 * y1 + b1) = if b1 < n ∧ sew (20 * y1 + b1) = 1 ∧ zRl wov c w (nI b1) y1 ≤ lim then 0 else sew (20 * y1 + b1)
  | 0, _, b1, y1, _, _ => by rw [if_neg (by omega)]; rfl
  | n + 1, hn, b1, y1, h1, h2 => by
    show zIt (fun y s => if zAt s (nI n) (nI y) == 1 && decide (zRl wov c w (nI n) y ≤ lim) then zPutG s (nI n) (nI y) 0 else s) 16 (zIt _ n sew) (20 * y1 + b1) = _
    rw [zFg_row (sew := sew) (by omega : n < 20) _ 16 (Nat.le_refl _) b1 y1 h1 h2]
    have i1 := zFg_col (wov := wov) (sew := sew) (c := c) (w := w) (lim := lim) n (by omega) b1 y1 h1 h2
    have i2 := zFg_col (wov := wov) (sew := sew) (c := c) (w := w) (lim := lim) n (by omega) n y1 (by omega) h2
    rw [if_neg (by omega)] at i2
    rw [i1, i2]
    by_cases q : b1 = n
    · subst q
      simp only [h2, true_and, Nat.lt_irrefl, false_and, if_false, show b1 < b1 + 1 from by omega]
    · simp only [q, false_and, if_false, show (b1 < n + 1) = (b1 < n) from propext ⟨fun _ => by omega, fun _ => by omega⟩]
theorem zFg_at {wov sew : Nat → Int32} {c w lim b y : Nat} (hb : b < 20) (hy : y < 16) : zFg wov sew c w lim (20 * y + b) = if sew (20 * y + b) = 1 ∧ zRl wov c w (nI b) y ≤ lim then 0 else sew (20 * y + b) := by
  have := zFg_col (wov := wov) (sew := sew) (c := c) (w := w) (lim := lim) 20 (Nat.le_refl _) b y hb hy
  simp only [hb, true_and] at this
  exact this
theorem rAny_l {P : Nat → Bool} : ∀ n : Nat, rAny P n = true ↔ ∃ k, k < n ∧ P k = true
  | 0 => ⟨fun h => absurd (show false = true from h) (by decide), fun ⟨k, h, _⟩ => absurd h (by omega)⟩
  | n + 1 => by
    show (rAny P n || P n) = true ↔ _
    rw [Bool.or_eq_true, rAny_l n]
    constructor
    · rintro (⟨k, h1, h2⟩ | h)
      · exact ⟨k, by omega, h2⟩
      · exact ⟨n, by omega, h⟩
    · rintro ⟨k, h1, h2⟩
      by_cases q : k = n
      · exact Or.inr (q ▸ h2)
      · exact Or.inl ⟨k, by omega, h2⟩
/-- the sewn slits that are left are the same again -/
theorem zSW.fg {wov sew s t : Nat → Int32} {c w lim : Nat} (hc1 : 1 ≤ c) (hW : zWW wov t c w) (B F T : Nat → Int32) (he : ∀ b y, b < 20 → y < 16 → sew (20 * y + b) = t (1051 + 16 * b + y) ∧ (t (1051 + 16 * b + y) = nI 0 ∨ t (1051 + 16 * b + y) = nI 1)) : zSW wov (zFg wov sew c w lim) (rFg t (rFd t w lim (c - 1) (0, B, F, T)).2.1 (rFd t w lim (c - 1) (0, B, F, T)).2.2.1 (rFd t w lim (c - 1) (0, B, F, T)).1) c w lim := by
  intro b y hb hy
  obtain ⟨a1, a2⟩ := rFd_a (lm := lim) hW hc1 B F T
  have hc20 := hW.1
  have hw16 := hW.2.1
  rw [zFg_at hb hy, (he b y hb hy).1]
  unfold rFg
  have hz : zFa 1051 (fun k => zB (rFgP t (rFd t w lim (c - 1) (0, B, F, T)).2.1 (rFd t w lim (c - 1) (0, B, F, T)).2.2.1 (rFd t w lim (c - 1) (0, B, F, T)).1 k)) t 320 (1051 + 16 * b + y) = zB (rFgP t (rFd t w lim (c - 1) (0, B, F, T)).2.1 (rFd t w lim (c - 1) (0, B, F, T)).2.2.1 (rFd t w lim (c - 1) (0, B, F, T)).1 (16 * b + y)) := by
    unfold zFa
    rw [if_pos (by omega), show 1051 + 16 * b + y - 1051 = 16 * b + y from by omega]
  rw [hz]
  unfold rFgP
  rw [show 1051 + (16 * b + y) = 1051 + 16 * b + y from by omega]
  have ha : rAny (fun j => nI 16 * (rFd t w lim (c - 1) (0, B, F, T)).2.1 j + (rFd t w lim (c - 1) (0, B, F, T)).2.2.1 j == nI (16 * b + y)) (rFd t w lim (c - 1) (0, B, F, T)).1 = decide (lim < zRl wov c w (nI b) y) := by
    rw [Bool.eq_iff_iff, rAny_l, a1, decide_eq_true_eq]
    constructor
    · rintro ⟨k, hk, h⟩
      obtain ⟨b1, y1, h1, -, h3, h4, h5⟩ := zSL_at hk
      obtain ⟨q1, q2, -⟩ := a2 k _ h1
      rw [q1, q2, pk_mul, nI_add, beq_iff_eq] at h
      have := m_eq (by omega) (by omega) h
      obtain ⟨rfl, rfl⟩ : b1 = b ∧ y1 = y := by omega
      exact of_decide_eq_true h5
    · intro h
      have hbc : b < c := Nat.lt_of_not_le fun q => by rw [zRl_c (by omega) (by omega)] at h; exact absurd h (by omega)
      have hyw : y < w := Nat.lt_of_not_le fun q => by
        unfold zRl at h
        rw [show w - y = 0 from by omega] at h
        split at h
        · exact absurd h (by omega)
        · exact absurd h (by show ¬ lim < 0; omega)
      have hm : (b, y) ∈ zSL (zSlP wov c w lim) c w := zSL_mem.mpr ⟨hbc, hyw, decide_eq_true h⟩
      obtain ⟨k, hk, e⟩ := List.getElem_of_mem hm
      refine ⟨k, hk, ?_⟩
      obtain ⟨q1, q2, -⟩ := a2 k (b, y) (by rw [List.getElem?_eq_getElem hk, e])
      rw [q1, q2, pk_mul, nI_add]
      exact beq_self_eq_true _
  rw [ha]
  by_cases q : lim < zRl wov c w (nI b) y
  · have hbc : b < c := Nat.lt_of_not_le fun k => by rw [zRl_c (by omega) (by omega)] at q; exact absurd q (by omega)
    have hyw : y < w := Nat.lt_of_not_le fun k => by
      unfold zRl at q
      rw [show w - y = 0 from by omega] at q
      split at q
      · exact absurd q (by omega)
      · exact absurd q (by show ¬ lim < 0; omega)
    rw [decide_eq_true q, Bool.and_true, if_neg (fun k => absurd k.2 (by omega))]
    rcases (he b y hb hy).2 with e | e
    · rw [e, decide_eq_false (by decide)]
      exact ⟨by decide, Or.inl (by decide)⟩
    · rw [e, decide_eq_true rfl]
      exact ⟨by decide, Or.inr ⟨by decide, hbc, hyw, decide_eq_true q⟩⟩
  · rw [decide_eq_false q, Bool.and_false]
    refine ⟨?_, Or.inl (by decide)⟩
    rcases (he b y hb hy).2 with e | e
    · rw [e, if_neg (fun k => absurd k.1 (by decide))]
      decide
    · rw [e, if_pos ⟨by decide, by omega⟩]
      decide
