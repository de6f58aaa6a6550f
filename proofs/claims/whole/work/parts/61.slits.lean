/-! slits: told by their ends, and by their starts -/
theorem zIt_range {α : Type} (f : Nat → α → α) (q : α) : ∀ n : Nat, zIt f n q = (List.range n).foldl (fun q y => f y q) q
  | 0 => rfl
  | n + 1 => by
    rw [List.range_succ, List.foldl_append, ← zIt_range f q n]
    rfl
theorem zIt_list {α β : Type} (l : List β) (d : β) (F : β → α → α) (q : α) : zIt (fun j h => F (l.getD j d) h) l.length q = l.foldl (fun h x => F x h) q := by
  have key : ∀ n : Nat, n ≤ l.length → zIt (fun j h => F (l.getD j d) h) n q = (l.take n).foldl (fun h x => F x h) q := by
    intro n
    induction n with
    | zero => intro _; rfl
    | succ n ih =>
      intro hn
      show F (l.getD n d) (zIt _ n q) = _
      rw [ih (by omega), List.take_succ, List.foldl_append, List.getElem?_eq_getElem (by omega : n < l.length)]
      show F (l.getD n d) _ = F (l[n]) _
      rw [List.getD_eq_getElem?_getD, List.getElem?_eq_getElem (by omega : n < l.length)]
      rfl
  rw [key l.length (Nat.le_refl _), List.take_length]
/-- the slits, as places -/
def zSL (P : Nat → Nat → Bool) (c w : Nat) : List (Nat × Nat) := (List.range c).flatMap fun b => ((List.range w).filter (P b)).map fun y => (b, y)
theorem zSL_s (P : Nat → Nat → Bool) (c w : Nat) : zSL P (c + 1) w = zSL P c w ++ ((List.range w).filter (P c)).map fun y => (c, y) := by
  unfold zSL
  rw [List.range_succ, List.flatMap_append]
  simp
theorem zSL_mem {P : Nat → Nat → Bool} {c w b y : Nat} : (b, y) ∈ zSL P c w ↔ b < c ∧ y < w ∧ P b y = true := by
  unfold zSL
  simp only [List.mem_flatMap, List.mem_map, List.mem_filter, List.mem_range, Prod.mk.injEq]
  constructor
  · rintro ⟨b1, h1, y1, ⟨h2, h3⟩, rfl, rfl⟩
    exact ⟨h1, h2, h3⟩
  · rintro ⟨h1, h2, h3⟩
    exact ⟨b, h1, y, ⟨h2, h3⟩, rfl, rfl⟩
theorem zSL_row {α : Type} {P : Nat → Bool} {b : Nat} (F : Nat → Nat → α → α) (q : α) : ∀ w : Nat, zIt (fun y q => if P y then F b y q else q) w q = (((List.range w).filter P).map fun y => (b, y)).foldl (fun q x => F x.1 x.2 q) q
  | 0 => rfl
  | w + 1 => by
    show (if P w then F b w (zIt _ w q) else zIt _ w q) = _
    rw [zSL_row F q w, List.range_succ, List.filter_append, List.map_append, List.foldl_append]
    cases h : P w
    · simp [h]
    · simp [h]
theorem zSL_fold {α : Type} {P : Nat → Nat → Bool} (F : Nat → Nat → α → α) (q : α) (w : Nat) : ∀ c : Nat, zIt (fun b q => zIt (fun y q => if P b y then F b y q else q) w q) c q = (zSL P c w).foldl (fun q x => F x.1 x.2 q) q
  | 0 => rfl
  | c + 1 => by
    show zIt (fun y q => if P c y then F c y q else q) w (zIt _ c q) = _
    rw [zSL_fold F q w c, zSL_s, List.foldl_append, zSL_row]
theorem zFil_len (P : Nat → Bool) : ∀ w : Nat, ((List.range w).filter P).length = zCt P w
  | 0 => rfl
  | w + 1 => by
    rw [List.range_succ, List.filter_append, List.length_append, zFil_len P w]
    show _ = zCt P w + _
    cases h : P w
    · simp [h]
    · simp [h]
theorem zSL_len (P : Nat → Nat → Bool) (w : Nat) : ∀ c : Nat, (zSL P c w).length = zSN (fun b => zCt (P b) w) c
  | 0 => rfl
  | c + 1 => by
    rw [zSL_s, List.length_append, zSL_len P w c, List.length_map, zFil_len]
    rfl
/-- where a sequence of parted rows begins that is told by its end -/
def zFrP (P : Nat → Bool) : Nat → Nat
  | 0 => 0
  | y + 1 => if P y then zFrP P y else y + 1
/-- the length of the sequence that begins here -/
def zRlP (P : Nat → Bool) (w a : Nat) : Nat := if 0 < a ∧ P (a - 1) = true then 0 else zLn P a (w - a)
theorem zLn_0 {P : Nat → Bool} {a d : Nat} (h : P a = false) : zLn P a d = 0 := by
  cases d with
  | zero => rfl
  | succ d =>
    unfold zLn
    rw [if_neg (by rw [h]; decide)]
theorem zLn_run {P : Nat → Bool} {w : Nat} : ∀ (k f : Nat), (∀ y, f ≤ y → y < f + k → P y = true) → f + k ≤ w → zLn P f (w - f) = k + zLn P (f + k) (w - (f + k))
  | 0, f, _, _ => by simp
  | k + 1, f, h, hw => by
    obtain ⟨d, hd⟩ : ∃ d, w - f = d + 1 := ⟨w - f - 1, by omega⟩
    rw [hd]
    show (if P f then zLn P (f + 1) d + 1 else 0) = _
    rw [if_pos (h f (by omega) (by omega)), show d = w - (f + 1) from by omega, zLn_run k (f + 1) (fun y h1 h2 => h y (by omega) (by omega)) (by omega), show f + 1 + k = f + (k + 1) from by omega]
    omega
theorem zFrP_run {P : Nat → Bool} : ∀ n : Nat, zFrP P n ≤ n ∧ (∀ y, zFrP P n ≤ y → y < n → P y = true) ∧ (0 < zFrP P n → P (zFrP P n - 1) = false)
  | 0 => ⟨Nat.le_refl _, fun y _ h => absurd h (by omega), fun h => absurd h (by show ¬ 0 < 0; omega)⟩
  | n + 1 => by
    obtain ⟨h1, h2, h3⟩ := zFrP_run (P := P) n
    unfold zFrP
    cases e : P n
    · rw [if_neg (by decide)]
      exact ⟨Nat.le_refl _, fun y a b => absurd a (by omega), fun _ => e⟩
    · rw [if_pos rfl]
      refine ⟨by omega, fun y a b => ?_, h3⟩
      by_cases q : y = n
      · rw [q]; exact e
      · exact h2 y a (by omega)
/-- both ways tell the same -/
theorem zEnds {α : Type} {P : Nat → Bool} {w lm : Nat} (hP : ∀ y, w ≤ y → P y = false) (F : Nat → Nat → α → α) (q : α) : ∀ n : Nat, n ≤ w →
    zIt (fun y q => if decide (lm < zRlP P w y) then F y (y + zRlP P w y - 1) q else q) n q =
      (if 0 < n ∧ P (n - 1) = true ∧ P n = true ∧ lm < zRlP P w (zFrP P n) then F (zFrP P n) (zFrP P n + zRlP P w (zFrP P n) - 1) (zIt (fun y q => if !P (y + 1) && decide (lm < y + 1 - zFrP P (y + 1)) then F (zFrP P (y + 1)) y q else q) n q)
       else zIt (fun y q => if !P (y + 1) && decide (lm < y + 1 - zFrP P (y + 1)) then F (zFrP P (y + 1)) y q else q) n q)
  | 0, _ => by rw [if_neg (by omega)]; rfl
  | n + 1, hn => by
    have ih := zEnds (lm := lm) hP F q n (by omega)
    obtain ⟨f1, f2, f3⟩ := zFrP_run (P := P) n
    show (if decide (lm < zRlP P w n) then F n (n + zRlP P w n - 1) (zIt _ n q) else zIt _ n q) = _
    rw [ih]
    show _ = (if _ then F _ _ (if !P (n + 1) && decide (lm < n + 1 - zFrP P (n + 1)) then F (zFrP P (n + 1)) n (zIt _ n q) else zIt _ n q) else (if !P (n + 1) && decide (lm < n + 1 - zFrP P (n + 1)) then F (zFrP P (n + 1)) n (zIt _ n q) else zIt _ n q))
    generalize zIt (fun y q => if !P (y + 1) && decide (lm < y + 1 - zFrP P (y + 1)) then F (zFrP P (y + 1)) y q else q) n q = E
    cases e : P n
    · have r0 : zRlP P w n = 0 := by unfold zRlP; rw [zLn_0 e]; split <;> rfl
      have fr : zFrP P (n + 1) = n + 1 := by show (if P n then _ else _) = _; rw [e]; rfl
      rw [r0, fr, if_neg (by simp), if_neg (by simp), if_neg (by simp [e]), if_neg (by simp)]
    · have fr : zFrP P (n + 1) = zFrP P n := by show (if P n then _ else _) = _; rw [e]; rfl
      rw [fr]
      by_cases h0 : 0 < n ∧ P (n - 1) = true
      · have r0 : zRlP P w n = 0 := by unfold zRlP; rw [if_pos h0]
        have ff : zFrP P n < n := by
          rcases Nat.lt_or_ge (zFrP P n) n with q | q
          · exact q
          · have e2 : zFrP P n = n := by omega
            have := f3 (by omega)
            rw [e2, h0.2] at this
            exact absurd this (by decide)
        have rl : zRlP P w (zFrP P n) = n + 1 - zFrP P n + zLn P (n + 1) (w - (n + 1)) := by
          unfold zRlP
          rw [if_neg (fun q => by have := f3 q.1; rw [q.2] at this; exact absurd this (by decide))]
          rw [zLn_run (P := P) (w := w) (n + 1 - zFrP P n) (zFrP P n) (fun y a b => by
            by_cases q : y = n
            · rw [q]; exact e
            · exact f2 y a (by omega)) (by omega), show zFrP P n + (n + 1 - zFrP P n) = n + 1 from by omega]
        rw [r0]
        obtain ⟨h01, h02⟩ := h0
        cases e1 : P (n + 1)
        · rw [zLn_0 e1, Nat.add_zero] at rl
          have en : zFrP P n + (n + 1 - zFrP P n) - 1 = n := by omega
          by_cases hl : lm < n + 1 - zFrP P n
          · simp only [rl, en, h01, h02, hl, decide_true, decide_false, Nat.not_lt_zero, Bool.not_false, Bool.and_self, and_self, if_true, if_false, Bool.false_eq_true, and_false, false_and, true_and, and_true]
          · simp only [rl, en, h01, h02, hl, decide_true, decide_false, Nat.not_lt_zero, Bool.not_false, Bool.and_false, and_self, if_true, if_false, Bool.false_eq_true, and_false, false_and, true_and, and_true]
        · have n1 : 0 < n + 1 := by omega
          by_cases hl : lm < zRlP P w (zFrP P n)
          · simp only [e, n1, show n + 1 - 1 = n from rfl, h01, h02, hl, decide_true, decide_false, Nat.not_lt_zero, Bool.not_true, Bool.false_and, and_self, if_true, if_false, Bool.false_eq_true, and_false, false_and, true_and, and_true]
          · simp only [e, n1, show n + 1 - 1 = n from rfl, h01, h02, hl, decide_true, decide_false, Nat.not_lt_zero, Bool.not_true, Bool.false_and, and_self, if_true, if_false, Bool.false_eq_true, and_false, false_and, true_and, and_true]
      · have ff : zFrP P n = n := by
          rcases Nat.lt_or_ge (zFrP P n) n with q | q
          · exact absurd ⟨by omega, f2 (n - 1) (by omega) (by omega)⟩ h0
          · omega
        have h01 : ∀ Q : Prop, (0 < n ∧ P (n - 1) = true ∧ Q) = False := fun Q => eq_false fun q => h0 ⟨q.1, q.2.1⟩
        have rl : zRlP P w n = 1 + zLn P (n + 1) (w - (n + 1)) := by
          unfold zRlP
          rw [if_neg h0, zLn_run (P := P) (w := w) 1 n (fun y a b => by rw [show y = n from by omega]; exact e) (by omega)]
        have h00 : (0 < n ∧ P (n - 1) = true) = False := eq_false h0
        rw [ff]
        cases e1 : P (n + 1)
        · rw [zLn_0 e1, Nat.add_zero] at rl
          have en : n + 1 - n = 1 := by omega
          by_cases hl : lm < 1
          · simp only [rl, en, h00, h01, hl, show n + 1 - 1 = n from rfl, decide_true, decide_false, Bool.not_false, Bool.and_self, and_self, if_true, if_false, Bool.false_eq_true, and_false, false_and, true_and, and_true]
          · simp only [rl, en, h00, h01, hl, show n + 1 - 1 = n from rfl, decide_true, decide_false, Bool.not_false, Bool.and_false, and_self, if_true, if_false, Bool.false_eq_true, and_false, false_and, true_and, and_true]
        · have n1 : 0 < n + 1 := by omega
          by_cases hl : lm < zRlP P w n
          · simp only [e, n1, h00, h01, hl, show n + 1 - 1 = n from rfl, decide_true, decide_false, Bool.not_true, Bool.false_and, and_self, if_true, if_false, Bool.false_eq_true, and_false, false_and, true_and, and_true]
          · simp only [e, n1, h00, h01, hl, show n + 1 - 1 = n from rfl, decide_true, decide_false, Bool.not_true, Bool.false_and, and_self, if_true, if_false, Bool.false_eq_true, and_false, false_and, true_and, and_true]
theorem zEnds_w {α : Type} {P : Nat → Bool} {w lm : Nat} (hP : ∀ y, w ≤ y → P y = false) (F : Nat → Nat → α → α) (q : α) :
    zIt (fun y q => if !P (y + 1) && decide (lm < y + 1 - zFrP P (y + 1)) then F (zFrP P (y + 1)) y q else q) w q = zIt (fun y q => if decide (lm < zRlP P w y) then F y (y + zRlP P w y - 1) q else q) w q := by
  rw [zEnds (lm := lm) hP F q w (Nat.le_refl _), if_neg (fun k => by have := hP w (Nat.le_refl _); rw [k.2.2.1] at this; exact absurd this (by decide))]
/-- the woven cells are the same -/
def zWW (wov : Nat → Int32) (s : Nat → Int32) (c w : Nat) : Prop := c ≤ 20 ∧ w ≤ 16 ∧ ∀ y b, y < w → b < c → wov (20 * y + b) = rW s y b ∧ ∃ v, v < 8 ∧ rW s y b = nI v
theorem zWW.row {wov s : Nat → Int32} {c w y : Nat} (h : zWW wov s c w) (hy : y < w) : zRL wov y c (rW s y) := ⟨by have := h.2.1; omega, h.1, fun b hb => ⟨(h.2.2 y b hy hb).1, by obtain ⟨v, hv, e⟩ := (h.2.2 y b hy hb).2; rw [e]; exact nI_m1' (by omega)⟩⟩
theorem zFrP_r (s : Nat → Int32) (w b : Nat) : ∀ y : Nat, rFr s w b y = zFrP (fun y => rPt s w y b) y
  | 0 => rfl
  | y + 1 => by
    show (if rPt s w y b then rFr s w b y else y + 1) = (if rPt s w y b then zFrP _ y else y + 1)
    rw [zFrP_r s w b y]
theorem zPa_n {wov s : Nat → Int32} {c w b y : Nat} (h : zWW wov s c w) (hb : b + 1 < c) : zPa wov c w (nI b) (nI y) = rPt s w y b ∨ ¬ y < 2 ^ 31 := by
  by_cases hy : y < 2 ^ 31
  · left
    have h1 := h.1
    have h2 := h.2.1
    unfold zPa rPt
    by_cases q : y < w
    · have r := h.row q
      rw [decide_eq_false (nI_ge q (by omega)), nI_1, decide_eq_false (nI_ge hb (by omega)), r.at (by omega : b < c), r.at hb, decide_eq_true q]
      rfl
    · rw [decide_eq_true (nI_le (by omega) hy), decide_eq_false q]
      rfl
  · exact Or.inr hy
theorem zPa_m {wov : Nat → Int32} {c w b : Nat} (hb : b < 20) : zPa wov c w (nI b) (nI 0 - 1) = false := by
  unfold zPa
  rw [zAt_ym hb, nI_1]
  by_cases q : b + 1 < 20
  · rw [zAt_ym q]; simp
  · rw [zAt_20 (by omega) (by omega)]; simp
theorem zPa_c {wov : Nat → Int32} {c w b : Nat} {y : Int32} (hb : c ≤ b + 1) (hb2 : b + 1 < 2 ^ 31) : zPa wov c w (nI b) y = false := by
  unfold zPa
  rw [nI_1, decide_eq_true (nI_le hb hb2)]
  simp
theorem zLn_cg {p q : Nat → Bool} : ∀ (d a : Nat), (∀ y, a ≤ y → y < a + d → p y = q y) → zLn p a d = zLn q a d
  | 0, _, _ => rfl
  | d + 1, a, h => by
    show (if p a then zLn p (a + 1) d + 1 else 0) = (if q a then zLn q (a + 1) d + 1 else 0)
    rw [h a (by omega) (by omega), zLn_cg d (a + 1) fun y h1 h2 => h y (by omega) (by omega)]
theorem zRl_n {wov s : Nat → Int32} {c w b a : Nat} (h : zWW wov s c w) (hb : b + 1 < c) (ha : a < 2 ^ 30) : zRl wov c w (nI b) a = zRlP (fun y => rPt s w y b) w a := by
  have h1 := h.1
  have h2 := h.2.1
  unfold zRl zRlP
  have e : zLn (fun y => zPa wov c w (nI b) (nI y)) a (w - a) = zLn (fun y => rPt s w y b) a (w - a) := zLn_cg _ _ fun y q1 q2 => (zPa_n h hb).resolve_right (by omega)
  rw [e]
  cases a with
  | zero => rw [zPa_m (by omega), if_neg (by decide), if_neg (by omega)]
  | succ a =>
    rw [nI_pred, (zPa_n h hb).resolve_right (by omega), show a + 1 - 1 = a from rfl]
    by_cases q : rPt s w a b = true
    · rw [if_pos q, if_pos ⟨by omega, q⟩]
    · rw [if_neg q, if_neg (fun k => q k.2)]
theorem zRl_c {wov : Nat → Int32} {c w b a : Nat} (hb : c ≤ b + 1) (hb2 : b + 1 < 2 ^ 31) : zRl wov c w (nI b) a = 0 := by
  unfold zRl
  rw [zPa_c hb hb2, if_neg (by decide)]
  exact zLn_0 (zPa_c hb hb2)
/-- the reference's slits are the class's -/
def zPsh (b f t : Nat) (q : zF4) : zF4 := (q.1 + 1, upd q.2.1 q.1 (nI b), upd q.2.2.1 q.1 (nI f), upd q.2.2.2 q.1 (nI t))
def zSlP (wov : Nat → Int32) (c w lm b y : Nat) : Bool := decide (lm < zRl wov c w (nI b) y)
theorem rFd_l {wov s : Nat → Int32} {c w lm : Nat} (h : zWW wov s c w) (hc : 1 ≤ c) (q : zF4) : rFd s w lm (c - 1) q = (zSL (zSlP wov c w lm) c w).foldl (fun q x => zPsh x.1 x.2 (x.2 + zRl wov c w (nI x.1) x.2 - 1) q) q := by
  have h1 := h.1
  have h2 := h.2.1
  obtain ⟨d, rfl⟩ : ∃ d, c = d + 1 := ⟨c - 1, by omega⟩
  rw [← zSL_fold (P := zSlP wov (d + 1) w lm) (fun b y q => zPsh b y (y + zRl wov (d + 1) w (nI b) y - 1) q)]
  show rFd s w lm d q = zIt (fun y q => if zSlP wov (d + 1) w lm d y then _ else q) w (zIt _ d q)
  have e0 : ∀ q : zF4, zIt (fun y q => if zSlP wov (d + 1) w lm d y then zPsh d y (y + zRl wov (d + 1) w (nI d) y - 1) q else q) w q = q := by
    intro q
    have : ∀ n : Nat, zIt (fun y q => if zSlP wov (d + 1) w lm d y then zPsh d y (y + zRl wov (d + 1) w (nI d) y - 1) q else q) n q = q := by
      intro n
      induction n with
      | zero => rfl
      | succ n ih =>
        show (if zSlP wov (d + 1) w lm d n then _ else _) = q
        rw [if_neg (by unfold zSlP; rw [zRl_c (by omega) (by omega)]; simp)]
        exact ih
    exact this w
  rw [e0]
  unfold rFd
  refine zIt_cg fun b hb q => ?_
  unfold rFdI
  have e1 := zEnds_w (P := fun y => rPt s w y b) (w := w) (lm := lm) (fun y hy => by show (decide (y < w) && _) = false; rw [decide_eq_false (by omega)]; rfl) (fun f t q => zPsh b f t q) q
  refine Eq.trans ?_ (e1.trans ?_)
  · refine zIt_cg fun y hy q => ?_
    unfold rPu rPsh
    rw [zFrP_r]
    rfl
  · refine zIt_cg fun y hy q => ?_
    unfold zSlP
    rw [zRl_n h (by omega) (by omega)]
/-- the arrays hold the list -/
theorem zPsh_l (g : Nat × Nat → Nat) : ∀ (l : List (Nat × Nat)) (q : zF4), (l.foldl (fun q x => zPsh x.1 x.2 (g x) q) q).1 = q.1 + l.length ∧ (∀ j, j < q.1 → (l.foldl (fun q x => zPsh x.1 x.2 (g x) q) q).2.1 j = q.2.1 j ∧ (l.foldl (fun q x => zPsh x.1 x.2 (g x) q) q).2.2.1 j = q.2.2.1 j ∧ (l.foldl (fun q x => zPsh x.1 x.2 (g x) q) q).2.2.2 j = q.2.2.2 j) ∧
    ∀ k x, l[k]? = some x → (l.foldl (fun q x => zPsh x.1 x.2 (g x) q) q).2.1 (q.1 + k) = nI x.1 ∧ (l.foldl (fun q x => zPsh x.1 x.2 (g x) q) q).2.2.1 (q.1 + k) = nI x.2 ∧ (l.foldl (fun q x => zPsh x.1 x.2 (g x) q) q).2.2.2 (q.1 + k) = nI (g x)
  | [], q => ⟨rfl, fun j _ => ⟨rfl, rfl, rfl⟩, fun k x h => by simp at h⟩
  | x :: l, q => by
    obtain ⟨i1, i2, i3⟩ := zPsh_l g l (zPsh x.1 x.2 (g x) q)
    have e1 : (zPsh x.1 x.2 (g x) q).1 = q.1 + 1 := rfl
    rw [List.foldl_cons]
    refine ⟨by rw [i1, e1, List.length_cons]; omega, fun j hj => ?_, fun k y h => ?_⟩
    · obtain ⟨a1, a2, a3⟩ := i2 j (by omega)
      rw [a1, a2, a3]
      exact ⟨upd_ne (by omega), upd_ne (by omega), upd_ne (by omega)⟩
    · cases k with
      | zero =>
        obtain ⟨a1, a2, a3⟩ := i2 q.1 (by omega)
        simp only [List.getElem?_cons_zero, Option.some.injEq] at h
        subst h
        rw [Nat.add_zero, a1, a2, a3]
        exact ⟨if_pos rfl, if_pos rfl, if_pos rfl⟩
      | succ k =>
        rw [List.getElem?_cons_succ] at h
        have := i3 k y h
        rw [e1] at this
        rw [show q.1 + (k + 1) = q.1 + 1 + k from by omega]
        exact this
