/-! what is asked of the two sides -/
def zCC (cart s : Nat → Int32) (c r : Nat) : Prop := c ≤ 20 ∧ r ≤ 16 ∧ ∀ y b, y < r → b < c → cart (20 * y + b) = rD s c y b ∧ ∃ v, v < 8 ∧ rD s c y b = nI v
def zLL (lot s : Nat → Int32) (c w cnt : Nat) : Prop := ∀ y b, y < w → b < c → lot (20 * y + b) = rY s y b ∧ ∃ j, j < cnt ∧ rY s y b = nI j
def zMM (mis s : Nat → Int32) (c : Nat) : Prop := ∀ b, b < 20 → mis b = s (71 + b) ∧ (s (71 + b) = -1 ∨ (b < c ∧ ∃ v, v < 8 ∧ s (71 + b) = nI v))
def zQQ (col len lef sbt : Nat → Int32) (shd : Nat → UInt32) (s : Nat → Int32) : Prop := ∀ k, k < 16 → col k = s (7 + 4 * k) ∧ len k = s (7 + 4 * k + 1) ∧ lef k = s (7 + 4 * k + 2) ∧ sbt k = s (7 + 4 * k + 3) ∧ shd k = zFb (s (7 + 4 * k + 3)) ∧ rShv (s (7 + 4 * k + 3))
def zNN (s : Nat → Int32) (c w : Nat) : Prop := ∃ n : Nat → Nat, ∀ k, k < 16 → s (7 + 4 * k + 2) = nI (n k) ∧ n k + zSN (fun y => zCt (fun b => rY s y b == nI k) c) w ≤ 999
/-- the two sides hold the same loom -/
def zRe (c r w lim : Nat) (tol : Int32) (cart wov lot sew mis : Nat → Int32) (cnt : Nat) (col len lef sbt : Nat → Int32) (shd : Nat → UInt32) (s : Nat → Int32) : Prop :=
  zMd s c r w cnt lim ∧ 1 ≤ lim ∧ (s 5 = tol ∧ rShv tol) ∧ zCC cart s c r ∧ zWW wov s c w ∧ zLL lot s c w cnt ∧ zSW wov sew s c w lim ∧ zMM mis s c ∧ zQQ col len lef sbt shd s ∧ zNN s c w ∧ (∀ j, zFinS (shd j)) ∧ s 6 = 0
theorem zCC.row {cart s : Nat → Int32} {c r y : Nat} (h : zCC cart s c r) (hy : y < r) : zRL cart y c (rD s c y) := ⟨by have := h.2.1; omega, h.1, fun b hb => ⟨(h.2.2 y b hy hb).1, by obtain ⟨v, hv, e⟩ := (h.2.2 y b hy hb).2; rw [e]; exact nI_m1' (by omega)⟩⟩
theorem zLL.row {lot s : Nat → Int32} {c w y cnt : Nat} (h : zLL lot s c w cnt) (hc : c ≤ 20) (hw : w ≤ 16) (hn : cnt ≤ 16) (hy : y < w) : zRL lot y c (rY s y) := ⟨by omega, hc, fun b hb => ⟨(h y b hy hb).1, by obtain ⟨v, hv, e⟩ := (h y b hy hb).2; rw [e]; exact nI_m1' (by omega)⟩⟩
theorem nI_sub1 {a x : Nat} (h : x < a) : nI a - 1 - nI x = nI (a - 1 - x) := by rw [← nI_one, pk_sub (by omega), pk_sub (by omega)]
theorem q_cv {cart wov lot s : Nat → Int32} {c r w cnt x y t : Nat} (hC : zCC cart s c r) (hW : zWW wov s c w) (hL : zLL lot s c w cnt) (hn : cnt ≤ 16) (hw : w ≤ r) (hx : x < c) (hy : y < r) (ht : t ≤ 3) : zCv cart wov lot c w (nI x) (nI y) (nI t) = rCe s c w x y t := by
  have h1 := hC.1
  have h2 := hC.2.1
  unfold zCv rCe
  rw [nI_sub1 hx]
  have e0 : zAt cart (nI (c - 1 - x)) (nI y) = s (91 + 20 * y + x) := by
    rw [(hC.row hy).at (by omega)]
    unfold rD
    exact congrArg s (by omega)
  have e1 : zWo wov c w (nI (c - 1 - x)) (nI y) = if y < w then rW s y (c - 1 - x) else -1 := by
    unfold zWo
    rw [if_neg (nI_ge (by omega) (by omega))]
    by_cases q : y < w
    · rw [if_neg (nI_ge q (by omega)), if_pos q, (hW.row q).at (by omega)]
    · rw [if_pos (nI_le (by omega) (by omega)), if_neg q]
  have e2 : (if zIn (nI y) (nI w) then zAt lot (nI (c - 1 - x)) (nI y) else -1) = if y < w then rY s y (c - 1 - x) else -1 := by
    rw [zIn_n (by omega) (by omega)]
    by_cases q : y < w
    · rw [decide_eq_true q, if_pos rfl, if_pos q, (hL.row h1 (by omega) hn q).at (by omega)]
    · rw [decide_eq_false q, if_neg (by decide), if_neg q]
  rw [e0, e1, e2]
  rcases (show t = 0 ∨ t = 1 ∨ t = 2 ∨ t = 3 by omega) with rfl | rfl | rfl | rfl
  · rfl
  · rw [if_neg (show ¬ nI 1 = (0 : Int32) by decide), if_pos (show nI 1 = (1 : Int32) by decide)]
    rfl
  · rw [if_neg (show ¬ nI 2 = (0 : Int32) by decide), if_neg (show ¬ nI 2 = (1 : Int32) by decide), if_pos (show nI 2 = (2 : Int32) by decide)]
    rfl
  · rw [if_neg (by decide), if_neg (by decide), if_neg (by decide), if_neg (by decide), if_pos rfl]
theorem q_ns {wov s : Nat → Int32} {c w y : Nat} (hW : zWW wov s c w) (hy : y < w) : zNs wov (nI y) c = rFre s (rW s y) c y := by
  refine (hW.row hy).ns fun b hb => ?_
  have h1 := hW.1
  have h2 := hW.2.1
  cases y with
  | zero =>
    rw [zAt_ym (by omega), decide_eq_false (by omega : ¬ 0 < 0), Bool.false_and]
    exact decide_eq_false fun q => ((hW.row hy).2.2 b hb).2 q.symm
  | succ y =>
    rw [nI_pred, (hW.row (by omega : y < w)).at hb, decide_eq_true (by omega : 0 < y + 1), Bool.true_and]
    rfl
theorem q_wc {wov cart s : Nat → Int32} {c r w y : Nat} (hC : zCC cart s c r) (hW : zWW wov s c w) (hw : w ≤ r) (hy : y < w) : zWc9 wov cart (nI y) c = zCt (fun b => !(rW s y b == rD s c y b)) c := (hW.row hy).wc (hC.row (by omega))
theorem q_rv {cart wov lot s : Nat → Int32} {c r w cnt y t : Nat} (hC : zCC cart s c r) (hW : zWW wov s c w) (hL : zLL lot s c w cnt) (hn : cnt ≤ 16) (hw : w ≤ r) (hy : y < w) (ht : t ≤ 4) : zRv wov cart lot c cnt (nI y) (nI t) = rRo s c cnt y t := by
  unfold zRv rRo
  rcases (show t = 0 ∨ t = 1 ∨ t = 2 ∨ t = 3 ∨ t = 4 by omega) with rfl | rfl | rfl | rfl | rfl
  · rw [if_pos (by decide), (hW.row hy).ru]
    rfl
  · rw [if_neg (by decide), if_pos (by decide), q_ns hW hy]
    rfl
  · rw [if_neg (by decide), if_neg (by decide), if_pos (by decide), q_wc hC hW hw hy]
    rfl
  · rw [if_neg (by decide), if_neg (by decide), if_neg (by decide), if_pos (by decide), (hW.row hy).ru, nI_add]
    rfl
  · rw [if_neg (by decide), if_neg (by decide), if_neg (by decide), if_neg (by decide), (hL.row hW.1 hW.2.1 hn hy).lr]
    rfl
theorem q_lf {col len lef sbt s : Nat → Int32} {shd : Nat → UInt32} {v : Int32} {cnt : Nat} (hQ : zQQ col len lef sbt shd s) (hn : cnt ≤ 16) : zLf col lef v cnt = rUn s v cnt := zSm_cg fun k hk => by
  rw [zAtN_in (by omega) (by decide), zAtN_in (by omega) (by decide), (hQ k (by omega)).1, (hQ k (by omega)).2.2.1]
theorem q_iu {col len lef sbt s : Nat → Int32} {shd : Nat → UInt32} {v : Int32} (hQ : zQQ col len lef sbt shd s) : ∀ d k : Nat, k + d ≤ 16 → zIu col lef v k d = rIu s v k d
  | 0, _, _ => rfl
  | d + 1, k, h => by
    show (if zAtN 16 col (nI k) = v ∧ 0 < zAtN 16 lef (nI k) then nI k else zIu col lef v (k + 1) d) = (if s (7 + 4 * k) = v ∧ 0 < s (7 + 4 * k + 2) then nI k else rIu s v (k + 1) d)
    rw [zAtN_in (by omega) (by decide), zAtN_in (by omega) (by decide), (hQ k (by omega)).1, (hQ k (by omega)).2.2.1, q_iu hQ d (k + 1) (by omega)]
theorem q_lv {col len lef sbt lot s : Nat → Int32} {shd : Nat → UInt32} {c w cnt l t : Nat} (hQ : zQQ col len lef sbt shd s) (hL : zLL lot s c w cnt) (hc : c ≤ 20) (hw : w ≤ 16) (hn : cnt ≤ 16) (hl : l < cnt) (ht : t ≤ 5) : zLv lot col len lef sbt c w cnt (nI l) (nI t) = rLo s c w cnt l t := by
  obtain ⟨q0, q1, q2, q3, -⟩ := hQ l (by omega)
  unfold zLv rLo
  rw [zAtN_in (by omega) (by decide), zAtN_in (by omega) (by decide), zAtN_in (by omega) (by decide), zAtN_in (by omega) (by decide), q0, q1, q2, q3]
  rcases (show t = 0 ∨ t = 1 ∨ t = 2 ∨ t = 3 ∨ t = 4 ∨ t = 5 by omega) with rfl | rfl | rfl | rfl | rfl | rfl
  · rfl
  · rfl
  · rfl
  · rfl
  · rw [if_neg (by decide), if_neg (by decide), if_neg (by decide), if_neg (by decide), if_pos (by decide)]
    refine congrArg nI (zSN_cg fun y hy => ?_)
    exact (hL.row hc hw hn hy).ce
  · rw [if_neg (by decide), if_neg (by decide), if_neg (by decide), if_neg (by decide), if_neg (by decide), q_iu hQ cnt 0 (by omega)]
    show zB (rIu s (s (7 + 4 * l)) 0 cnt == nI l) = (if rIu s (s (7 + 4 * l)) 0 cnt = nI l then nI 1 else nI 0)
    by_cases e : rIu s (s (7 + 4 * l)) 0 cnt = nI l
    · rw [if_pos e, e, beq_self_eq_true]
      decide
    · rw [if_neg e, beq_eq_false_iff_ne.mpr e]
      decide
theorem zSN_split (f : Nat → Nat) (w : Nat) : ∀ d : Nat, zSN f (w + d) = zSN f w + zSN (fun j => f (w + j)) d
  | 0 => rfl
  | d + 1 => by
    show zSN f (w + d) + f (w + d) = zSN f w + (zSN _ d + f (w + d))
    rw [zSN_split f w d, Nat.add_assoc]
theorem q_uc {cart s : Nat → Int32} {c r w : Nat} {v : Int32} (hC : zCC cart s c r) (hv : ¬ v = -1) (hw : w ≤ r) : zUc cart v c w (r - w) = zSN (fun y => if y < w then 0 else zCt (fun b => rD s c y b == v) c + zCt (fun b => rD s c y b == v && rBeg (rD s c y) b) c) r := by
  obtain ⟨d, rfl⟩ : ∃ d, r = w + d := ⟨r - w, by omega⟩
  rw [zSN_split, show w + d - w = d by omega]
  have e : zSN (fun y => if y < w then 0 else zCt (fun b => rD s c y b == v) c + zCt (fun b => rD s c y b == v && rBeg (rD s c y) b) c) w = 0 := by
    rw [zSN_cg (g := fun _ => 0) fun y hy => if_pos hy]
    exact zSN_0 w
  rw [e, Nat.zero_add]
  refine zSN_cg fun j hj => ?_
  rw [if_neg (by omega), (hC.row (by omega : w + j < w + d)).un hv]
theorem q_cvl {cart wov col len lef sbt s : Nat → Int32} {shd : Nat → UInt32} {c r w cnt t : Nat} {v : Int32} (hC : zCC cart s c r) (hW : zWW wov s c w) (hQ : zQQ col len lef sbt shd s) (hn : cnt ≤ 16) (hw : w ≤ r) (hv : ¬ v = -1) (ht : t ≤ 5) : zCvl cart wov col lef c r w cnt v (nI t) = rCo s c r w cnt v t := by
  have ex : ∀ f : Nat → Nat, zSN f w = zSN (fun y => if y < w then f y else 0) r := by
    intro f
    obtain ⟨d, rfl⟩ : ∃ d, r = w + d := ⟨r - w, by omega⟩
    rw [zSN_ext (fun y hy => if_neg (by omega)) d]
    exact zSN_cg fun y hy => (if_pos hy).symm
  unfold zCvl rCo
  rcases (show t = 0 ∨ t = 1 ∨ t = 2 ∨ t = 3 ∨ t = 4 ∨ t = 5 by omega) with rfl | rfl | rfl | rfl | rfl | rfl
  · rw [if_pos (by decide)]
    exact congrArg nI (zSN_cg fun y hy => (hC.row hy).ce)
  · rw [if_neg (by decide), if_pos (by decide)]
    unfold zCi
    rw [ex]
    refine congrArg nI (zSN_cg fun y hy => ?_)
    by_cases q : y < w
    · rw [if_pos q, if_pos q, (hW.row q).ce]
    · rw [if_neg q, if_neg q]
  · rw [if_neg (by decide), if_neg (by decide), if_pos (by decide)]
    exact q_lf hQ hn
  · rw [if_neg (by decide), if_neg (by decide), if_neg (by decide), if_pos (by decide)]
    refine congrArg nI (zCt_cg fun k hk => ?_)
    rw [zAtN_in (by omega) (by decide), (hQ k (by omega)).1]
  · rw [if_neg (by decide), if_neg (by decide), if_neg (by decide), if_neg (by decide), if_pos (by decide), ex]
    refine congrArg nI (zSN_cg fun y hy => ?_)
    by_cases q : y < w
    · rw [if_pos q, if_pos q, (hW.row q).ro hv]
    · rw [if_neg q, if_neg q]
  · rw [if_neg (by decide), if_neg (by decide), if_neg (by decide), if_neg (by decide), if_neg (by decide), q_uc hC hv hw]
    rfl
theorem q_fw {cart wov s : Nat → Int32} {c r w : Nat} (hC : zCC cart s c r) (hW : zWW wov s c w) (hw : w ≤ r) : ∀ d a : Nat, a + d ≤ w → zFw wov cart c a d = rFw s c a d
  | 0, _, _ => rfl
  | d + 1, a, h => by
    show (if 0 < zWc9 wov cart (nI a) c then nI a else zFw wov cart c (a + 1) d) = (if 0 < zCt (fun b => !(rW s a b == rD s c a b)) c then nI a else rFw s c (a + 1) d)
    rw [q_wc hC hW hw (by omega), q_fw hC hW hw d (a + 1) (by omega)]
/-- rows that are possible -/
theorem zPr_s (f : Nat → Nat) (m : Nat) : ∀ k : Nat, zPr (fun v => f v + 1) k (m + 1) = zPr f k m + 1
  | 0 => rfl
  | k + 1 => by
    show min (zPr (fun v => f v + 1) k (m + 1)) (f k + 1) = min (zPr f k m) (f k) + 1
    rw [zPr_s f m k]
    omega
theorem zPr_cg {f g : Nat → Nat} {m : Nat} : ∀ {k : Nat}, (∀ v, v < k → f v = g v) → zPr f k m = zPr g k m
  | 0, _ => rfl
  | k + 1, h => by
    show min (zPr f k m) (f k) = min (zPr g k m) (g k)
    rw [zPr_cg (k := k) fun v hv => h v (by omega), h k (by omega)]
theorem zPr_0 {f : Nat → Nat} {m v : Nat} (hv : f v = 0) : ∀ {k : Nat}, v < k → zPr f k m = 0
  | 0, h => absurd h (by omega)
  | k + 1, h => by
    show min (zPr f k m) (f k) = 0
    by_cases q : v = k
    · rw [← q, hv]; omega
    · rw [zPr_0 hv (by omega : v < k)]; omega
theorem zPr_m0 (f : Nat → Nat) : ∀ k : Nat, zPr f k 0 = 0
  | 0 => rfl
  | k + 1 => by
    show min (zPr f k 0) (f k) = 0
    rw [zPr_m0 f k]; omega
theorem rRpI_e {s : Nat → Int32} {c y : Nat} {L : Nat → Int32} : ∀ k : Nat, ((rRpI s c y k (true, L)).1 = true ↔ ∀ v, v < k → ¬ L v - nI (rRpU s c y v) < 0) ∧ ∀ v, (rRpI s c y k (true, L)).2 v = if v < k then L v - nI (rRpU s c y v) else L v
  | 0 => ⟨⟨fun _ v h => absurd h (by omega), fun _ => rfl⟩, fun v => by rw [if_neg (by omega)]; rfl⟩
  | k + 1 => by
    obtain ⟨h1, h2⟩ := rRpI_e (s := s) (c := c) (y := y) (L := L) k
    have e : (rRpI s c y k (true, L)).2 k = L k := by rw [h2, if_neg (by omega)]
    constructor
    · show ((rRpI s c y k (true, L)).1 && decide (¬ (rRpI s c y k (true, L)).2 k - nI (rRpU s c y k) < 0)) = true ↔ _
      rw [e, Bool.and_eq_true, h1, decide_eq_true_eq]
      constructor
      · rintro ⟨a, b⟩ v hv
        by_cases q : v = k
        · rw [q]; exact b
        · exact a v (by omega)
      · intro a
        exact ⟨fun v hv => a v (by omega), a k (by omega)⟩
    · intro v
      show upd (rRpI s c y k (true, L)).2 k ((rRpI s c y k (true, L)).2 k - nI (rRpU s c y k)) v = _
      rw [e]
      by_cases q : v = k
      · rw [q, if_pos (by omega)]
        exact if_pos rfl
      · rw [upd_ne q, h2]
        by_cases q2 : v < k
        · rw [if_pos q2, if_pos (by omega)]
        · rw [if_neg q2, if_neg (by omega)]
theorem rRp_g {s : Nat → Int32} {c : Nat} {q : zRp} (h : q.1 = false) : ∀ d y : Nat, rRp s c d y q = q
  | 0, _ => rfl
  | d + 1, y => by
    show (if q.1 then _ else q) = q
    rw [h]
    rfl
theorem q_rp {cart s : Nat → Int32} {c r : Nat} (hC : zCC cart s c r) : ∀ (d y n : Nat) (L line : Nat → Int32), y + d ≤ r → (rRp s c d y (true, n, L, line)).2.1 = n + zPr (fun v => zRy cart (nI v) c y d (L v)) 8 d
  | 0, y, n, L, line, _ => by rw [zPr_m0]; rfl
  | d + 1, y, n, L, line, h => by
    obtain ⟨h1, h2⟩ := rRpI_e (s := s) (c := c) (y := y) (L := L) 8
    have hU : ∀ v, v < 8 → rRpU s c y v = zUn cart (nI v) c y := fun v hv => ((hC.row (by omega : y < r)).un (nI_m1' (by omega))).symm
    show (if true = true then rRp s c d (y + 1) (rRpS s c y (true, n, L, line)) else _).2.1 = _
    rw [if_pos rfl]
    by_cases q : (rRpI s c y 8 (true, L)).1 = true
    · have e : rRpS s c y (true, n, L, line) = (true, n + 1, (rRpI s c y 8 (true, L)).2, zFl (rD s c y) line c) := by
        show ((rRpI s c y 8 (true, L)).1, n + (if (rRpI s c y 8 (true, L)).1 then 1 else 0), _, _) = _
        rw [q]
        rfl
      rw [e, q_rp hC d (y + 1) (n + 1) _ _ (by omega)]
      have e2 : zPr (fun v => zRy cart (nI v) c y (d + 1) (L v)) 8 (d + 1) = zPr (fun v => zRy cart (nI v) c (y + 1) d ((rRpI s c y 8 (true, L)).2 v)) 8 d + 1 := by
        rw [← zPr_s]
        refine zPr_cg fun v hv => ?_
        show (if L v - nI (zUn cart (nI v) c y) < 0 then 0 else zRy cart (nI v) c (y + 1) d (L v - nI (zUn cart (nI v) c y)) + 1) = _
        have := h1.mp q v hv
        rw [h2, if_pos hv]
        rw [hU v hv] at this ⊢
        rw [if_neg this]
      rw [e2]
      omega
    · have qf : (rRpI s c y 8 (true, L)).1 = false := by simpa using q
      have e : rRpS s c y (true, n, L, line) = (false, n, (rRpI s c y 8 (true, L)).2, zFl (rD s c y) line c) := by
        show ((rRpI s c y 8 (true, L)).1, n + (if (rRpI s c y 8 (true, L)).1 then 1 else 0), _, _) = _
        rw [qf]
        rfl
      rw [e, rRp_g rfl]
      have : ∃ v, v < 8 ∧ L v - nI (rRpU s c y v) < 0 := by
        apply Classical.byContradiction
        intro z
        exact q (h1.mpr fun v hv k => z ⟨v, hv, k⟩)
      obtain ⟨v, hv, hz⟩ := this
      rw [zPr_0 (v := v) (by
        show (if L v - nI (zUn cart (nI v) c y) < 0 then 0 else _) = 0
        rw [hU v hv] at hz
        rw [if_pos hz]) hv]
      rfl
theorem q_rows {cart col len lef sbt s : Nat → Int32} {shd : Nat → UInt32} {c r w cnt : Nat} (hC : zCC cart s c r) (hQ : zQQ col len lef sbt shd s) (hn : cnt ≤ 16) (hw : w ≤ r) (left line : Nat → Int32) : zPr (zRyF cart col lef c r w cnt) 8 (r - w) = (rRp s c (r - w) w (true, 0, zFl (fun v => rUn s (nI v) cnt) left 8, line)).2.1 := by
  rw [q_rp hC (r - w) w 0 _ _ (by omega), Nat.zero_add]
  refine zPr_cg fun v hv => ?_
  unfold zRyF
  rw [q_lf hQ hn, zFl_in hv]
/-- mistakes -/
theorem q_ot {mis s : Nat → Int32} {c : Nat} (hM : zMM mis s c) (hc : c ≤ 20) : zOth 20 mis (-1) = zCt (fun b => !decide (s (71 + b) < 0)) c := by
  unfold zOth
  rw [zCt_SN, zCt_SN]
  obtain ⟨d, hd⟩ : ∃ d, 20 = c + d := ⟨20 - c, by omega⟩
  have e3 : zSN (fun y => if (!(mis y == -1)) then 1 else 0) 20 = zSN (fun y => if y < 20 then (if (!(mis y == -1)) then 1 else 0) else 0) (c + d) := by
    rw [← hd]
    exact zSN_cg fun y hy => (if_pos hy).symm
  rw [e3, zSN_ext (fun y hy => by
    by_cases q : y < 20
    · obtain ⟨m1, m2⟩ := hM y q
      rw [if_pos q, m1]
      rcases m2 with k | k
      · rw [k]; rfl
      · exact absurd k.1 (by omega)
    · rw [if_neg q]) d]
  refine zSN_cg fun y hy => ?_
  obtain ⟨m1, m2⟩ := hM y (by omega)
  rw [if_pos (by omega), m1]
  rcases m2 with k | ⟨-, v, hv, k⟩
  · rw [k]; rfl
  · rw [k, beq_eq_false_iff_ne.mpr (nI_m1' (by omega)), decide_eq_false (nI_pos (by omega))]
