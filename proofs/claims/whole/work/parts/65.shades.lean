/-! seams, means, contrasts, the whole, the checksum -/
theorem q_sh {col len lef sbt lot s : Nat → Int32} {shd : Nat → UInt32} {c w cnt y b : Nat} (hQ : zQQ col len lef sbt shd s) (hL : zLL lot s c w cnt) (hc : c ≤ 20) (hw : w ≤ 16) (hn : cnt ≤ 16) (hy : y < w) (hb : b < c) : zSh shd (zAt lot (nI b) (nI y)) = zFb (s (rIx (rY s y b) 3)) := by
  rw [(hL.row hc hw hn hy).at hb]
  obtain ⟨j, hj, e⟩ := (hL y b hy hb).2
  rw [e, zSh_n (by omega), rIx_n (by omega)]
  exact (hQ j (by omega)).2.2.2.2.1
theorem q_fs {col len lef sbt lot s : Nat → Int32} {shd : Nat → UInt32} {c w cnt y b : Nat} (hQ : zQQ col len lef sbt shd s) (hL : zLL lot s c w cnt) (hn : cnt ≤ 16) (hy : y < w) (hb : b < c) : zFinS (zFb (s (rIx (rY s y b) 3))) := by
  obtain ⟨j, hj, e⟩ := (hL y b hy hb).2
  rw [e, rIx_n (by omega)]
  exact fy_fin (hQ j (by omega)).2.2.2.2.2
theorem q_sm {wov lot s : Nat → Int32} {c w cnt y b z d : Nat} (hW : zWW wov s c w) (hL : zLL lot s c w cnt) (hn : cnt ≤ 16) (hy : y < w) (hb : b < c) (hz : z < 2 ^ 31) (hd : d < 2 ^ 31) : zSe wov lot c w (nI b) (nI y) (nI d) (nI z) = rSm s w c y b z d := by
  have h1 := hW.1
  have h2 := hW.2.1
  unfold zSe rSm zWo
  rw [if_neg (nI_ge hb (by omega)), if_neg (nI_ge hy (by omega)), (hW.row hy).at hb, (hL.row h1 h2 hn hy).at hb]
  by_cases q : d < c
  · rw [if_neg (nI_ge q (by omega)), decide_eq_true q]
    by_cases q2 : z < w
    · rw [if_neg (nI_ge q2 (by omega)), decide_eq_true q2, (hW.row q2).at q, (hL.row h1 h2 hn q2).at q]
      rfl
    · rw [if_pos (nI_le (by omega) hz), decide_eq_false q2, beq_eq_false_iff_ne.mpr ((hW.row hy).2.2 b hb).2]
      rfl
  · rw [if_pos (nI_le (by omega) hd), decide_eq_false q, beq_eq_false_iff_ne.mpr ((hW.row hy).2.2 b hb).2]
    simp
theorem q_g1 {col len lef sbt wov lot s : Nat → Int32} {shd : Nat → UInt32} {c w cnt y b : Nat} (hQ : zQQ col len lef sbt shd s) (hW : zWW wov s c w) (hL : zLL lot s c w cnt) (hn : cnt ≤ 16) (hy : y < w) (hb : b < c) : zG1 wov lot shd c w b y = if rSm s w c y b y (b + 1) then rAp s (rY s y b) (rY s y (b + 1)) else 3212836864 := by
  have h1 := hW.1
  have h2 := hW.2.1
  unfold zG1 zGp
  rw [nI_1, q_sm hW hL hn hy hb (by omega) (by omega)]
  by_cases q : rSm s w c y b y (b + 1) = true
  · rw [if_pos q, if_pos q]
    have hd : b + 1 < c := by
      unfold rSm at q
      simp only [Bool.and_eq_true, decide_eq_true_eq] at q
      exact q.2.1
    unfold rAp
    rw [q_sh hQ hL h1 h2 hn hy hb, q_sh hQ hL h1 h2 hn hy hd]
  · rw [if_neg q, if_neg q]
theorem q_g2 {col len lef sbt wov lot s : Nat → Int32} {shd : Nat → UInt32} {c w cnt y b : Nat} (hQ : zQQ col len lef sbt shd s) (hW : zWW wov s c w) (hL : zLL lot s c w cnt) (hn : cnt ≤ 16) (hy : y < w) (hb : b < c) : zG2 wov lot shd c w b y = if rSm s w c y b (y + 1) b then rAp s (rY s y b) (rY s (y + 1) b) else 3212836864 := by
  have h1 := hW.1
  have h2 := hW.2.1
  unfold zG2 zGp
  rw [nI_1, q_sm hW hL hn hy hb (by omega) (by omega)]
  by_cases q : rSm s w c y b (y + 1) b = true
  · rw [if_pos q, if_pos q]
    have hd : y + 1 < w := by
      unfold rSm at q
      simp only [Bool.and_eq_true, decide_eq_true_eq] at q
      exact q.1
    unfold rAp
    rw [q_sh hQ hL h1 h2 hn hy hb, q_sh hQ hL h1 h2 hn hd hb]
  · rw [if_neg q, if_neg q]
theorem q_ap {col len lef sbt lot s : Nat → Int32} {shd : Nat → UInt32} {c w cnt y b z d : Nat} (hQ : zQQ col len lef sbt shd s) (hL : zLL lot s c w cnt) (hn : cnt ≤ 16) (hy : y < w) (hb : b < c) (hz : z < w) (hd : d < c) : zB9 100 (rAp s (rY s y b) (rY s z d)) := by
  have f1 := q_fs hQ hL hn hy hb
  have f2 := q_fs hQ hL hn hz hd
  exact zB9_df f1 f2 (zB9_shade f1) (zB9_shade f2) (by decide) (by decide)
/-- one seam, on both sides -/
theorem q_seam {s : Nat → Int32} {is : Bool} {ap x : UInt32} {n : Nat} {seen : Bool} {t tol : UInt32} (hx : zB9 100 x) (ha : is = true → zB9 100 ap) (ht : (seen = false ∧ t = 3212836864) ∨ (seen = true ∧ t = tol ∧ zPos tol)) : (if is then (n + (if !seen || zGt ap tol then 1 else 0), if zGt ap x then ap else x) else (n, x)) = (n + (if zGt (if is then ap else 3212836864) t then 1 else 0), if zGt (if is then ap else 3212836864) x then (if is then ap else 3212836864) else x) ∧ zB9 100 (if zGt (if is then ap else 3212836864) x then (if is then ap else 3212836864) else x) := by
  cases is with
  | false =>
    have ef : (if false = true then ap else (3212836864 : UInt32)) = 3212836864 := if_neg (by decide)
    rw [ef, if_neg (show ¬ (false = true) by decide), zGt_m1 hx.1]
    rcases ht with ⟨-, rfl⟩ | ⟨-, rfl, hp⟩
    · rw [zGt_mm]; exact ⟨rfl, hx⟩
    · rw [zGt_m1 hp]; exact ⟨rfl, hx⟩
  | true =>
    rw [if_pos rfl, if_pos rfl]
    have hA := ha rfl
    refine ⟨?_, ?_⟩
    · rcases ht with ⟨rfl, rfl⟩ | ⟨rfl, rfl, hp⟩
      · rw [zGt_m1r hA.1]; rfl
      · rfl
    · split
      · exact hA
      · exact hx
def zWgS (wov lot : Nat → Int32) (shd : Nat → UInt32) (c w y b : Nat) (s : UInt32) : UInt32 := if zGt (zG2 wov lot shd c w b y) (if zGt (zG1 wov lot shd c w b y) s then zG1 wov lot shd c w b y else s) then zG2 wov lot shd c w b y else (if zGt (zG1 wov lot shd c w b y) s then zG1 wov lot shd c w b y else s)
theorem q_sk {col len lef sbt wov lot s : Nat → Int32} {shd : Nat → UInt32} {c w cnt y b n : Nat} {seen : Bool} {t x : UInt32} (hQ : zQQ col len lef sbt shd s) (hW : zWW wov s c w) (hL : zLL lot s c w cnt) (hn : cnt ≤ 16) (ht : (seen = false ∧ t = 3212836864) ∨ (seen = true ∧ t = zFb (s 5) ∧ zPos (zFb (s 5)))) (hy : y < w) (hb : b < c) (hx : zB9 100 x) : rSk s c w seen y b 2 (n, x) = (n + ((if zGt (zG1 wov lot shd c w b y) t then 1 else 0) + (if zGt (zG2 wov lot shd c w b y) t then 1 else 0)), zWgS wov lot shd c w y b x) ∧ zB9 100 (zWgS wov lot shd c w y b x) := by
  have a1 := q_seam (s := s) (is := rSm s w c y b y (b + 1)) (ap := rAp s (rY s y b) (rY s y (b + 1))) (x := x) (n := n) (seen := seen) (t := t) (tol := zFb (s 5)) hx (fun q => by
    unfold rSm at q
    simp only [Bool.and_eq_true, decide_eq_true_eq] at q
    exact q_ap hQ hL hn hy hb hy q.2.1) ht
  rw [← q_g1 hQ hW hL hn hy hb] at a1
  have a2 := q_seam (s := s) (is := rSm s w c y b (y + 1) b) (ap := rAp s (rY s y b) (rY s (y + 1) b)) (x := if zGt (zG1 wov lot shd c w b y) x then zG1 wov lot shd c w b y else x) (n := n + (if zGt (zG1 wov lot shd c w b y) t then 1 else 0)) (seen := seen) (t := t) (tol := zFb (s 5)) a1.2 (fun q => by
    unfold rSm at q
    simp only [Bool.and_eq_true, decide_eq_true_eq] at q
    exact q_ap hQ hL hn hy hb q.1 hb) ht
  rw [← q_g2 hQ hW hL hn hy hb] at a2
  refine ⟨?_, a2.2⟩
  show rSkS s c w seen y b 1 (rSkS s c w seen y b 0 (n, x)) = _
  have e0 : rSkS s c w seen y b 0 (n, x) = (n + (if zGt (zG1 wov lot shd c w b y) t then 1 else 0), if zGt (zG1 wov lot shd c w b y) x then zG1 wov lot shd c w b y else x) := a1.1
  rw [e0]
  refine a2.1.trans ?_
  rw [Nat.add_assoc]
  rfl
theorem q_sb {col len lef sbt wov lot s : Nat → Int32} {shd : Nat → UInt32} {c w cnt y n : Nat} {seen : Bool} {t x : UInt32} (hQ : zQQ col len lef sbt shd s) (hW : zWW wov s c w) (hL : zLL lot s c w cnt) (hn : cnt ≤ 16) (ht : (seen = false ∧ t = 3212836864) ∨ (seen = true ∧ t = zFb (s 5) ∧ zPos (zFb (s 5)))) (hy : y < w) (hx : zB9 100 x) : ∀ b : Nat, b ≤ c → rSb s c w seen y b (n, x) = (n + zSN (fun b => (if zGt (zG1 wov lot shd c w b y) t then 1 else 0) + (if zGt (zG2 wov lot shd c w b y) t then 1 else 0)) b, zIt (fun b s => zWgS wov lot shd c w y b s) b x) ∧ zB9 100 (zIt (fun b s => zWgS wov lot shd c w y b s) b x)
  | 0, _ => ⟨rfl, hx⟩
  | b + 1, hb => by
    obtain ⟨i1, i2⟩ := q_sb (n := n) hQ hW hL hn ht hy hx b (by omega)
    have k := q_sk (n := n + zSN (fun b => (if zGt (zG1 wov lot shd c w b y) t then 1 else 0) + (if zGt (zG2 wov lot shd c w b y) t then 1 else 0)) b) hQ hW hL hn ht hy (by omega : b < c) i2
    refine ⟨?_, k.2⟩
    show rSk s c w seen y b 2 (rSb s c w seen y b (n, x)) = _
    rw [i1, k.1, Nat.add_assoc]
    rfl
theorem q_sy {col len lef sbt wov lot s : Nat → Int32} {shd : Nat → UInt32} {c w cnt : Nat} {seen : Bool} {t x : UInt32} (hQ : zQQ col len lef sbt shd s) (hW : zWW wov s c w) (hL : zLL lot s c w cnt) (hn : cnt ≤ 16) (ht : (seen = false ∧ t = 3212836864) ∨ (seen = true ∧ t = zFb (s 5) ∧ zPos (zFb (s 5)))) (hx : zB9 100 x) : ∀ y : Nat, y ≤ w → rSy s c w seen y (0, x) = (zSN (fun y => zSN (fun b => (if zGt (zG1 wov lot shd c w b y) t then 1 else 0) + (if zGt (zG2 wov lot shd c w b y) t then 1 else 0)) c) y, zIt (fun y s => zIt (fun b s => zWgS wov lot shd c w y b s) c s) y x) ∧ zB9 100 (zIt (fun y s => zIt (fun b s => zWgS wov lot shd c w y b s) c s) y x)
  | 0, _ => ⟨rfl, hx⟩
  | y + 1, hy => by
    obtain ⟨i1, i2⟩ := q_sy hQ hW hL hn ht hx y (by omega)
    have k := q_sb (n := zSN (fun y => zSN (fun b => (if zGt (zG1 wov lot shd c w b y) t then 1 else 0) + (if zGt (zG2 wov lot shd c w b y) t then 1 else 0)) c) y) hQ hW hL hn ht (by omega : y < w) i2 c (Nat.le_refl _)
    refine ⟨?_, k.2⟩
    show rSb s c w seen y c (rSy s c w seen y (0, x)) = _
    rw [i1, k.1]
    rfl
theorem q_worst {col len lef sbt wov lot s : Nat → Int32} {shd : Nat → UInt32} {c w cnt : Nat} (hQ : zQQ col len lef sbt shd s) (hW : zWW wov s c w) (hL : zLL lot s c w cnt) (hn : cnt ≤ 16) : zBo (zWg wov lot shd c w) = (rSy s c w false w (0, FP.fconst0)).2.toInt32 := by
  have k := q_sy (seen := false) (t := 3212836864) hQ hW hL hn (Or.inl ⟨rfl, rfl⟩) (zB9_0 100) w (Nat.le_refl _)
  rw [k.1]
  exact zB9_bo (by decide) k.2
theorem q_gaps {col len lef sbt wov lot s : Nat → Int32} {shd : Nat → UInt32} {c w cnt : Nat} (hQ : zQQ col len lef sbt shd s) (hW : zWW wov s c w) (hL : zLL lot s c w cnt) (hn : cnt ≤ 16) : zGa wov lot shd c w 3212836864 = (rSy s c w false w (0, FP.fconst0)).1 := by
  rw [(q_sy (seen := false) (t := 3212836864) hQ hW hL hn (Or.inl ⟨rfl, rfl⟩) (zB9_0 100) w (Nat.le_refl _)).1]
  rfl
theorem q_seen {col len lef sbt wov lot s : Nat → Int32} {shd : Nat → UInt32} {c w cnt : Nat} (hQ : zQQ col len lef sbt shd s) (hW : zWW wov s c w) (hL : zLL lot s c w cnt) (hn : cnt ≤ 16) (h5 : rShv (s 5)) : zGa wov lot shd c w (zFb (s 5)) = (rSy s c w true w (0, FP.fconst0)).1 := by
  rw [(q_sy (seen := true) (t := zFb (s 5)) hQ hW hL hn (Or.inr ⟨rfl, rfl, (fy_fin h5).pos⟩) (zB9_0 100) w (Nat.le_refl _)).1]
  rfl
/-- means -/
theorem q_mb {col len lef sbt wov lot s : Nat → Int32} {shd : Nat → UInt32} {c w cnt y N : Nat} {v : Int32} {x : UInt32} (hQ : zQQ col len lef sbt shd s) (hW : zWW wov s c w) (hL : zLL lot s c w cnt) (hn : cnt ≤ 16) (hy : y < w) (hN : N ≤ 100000) (hx : zB9 N x) : ∀ b : Nat, b ≤ c → zIt (fun b s => if zAt wov (nI b) (nI y) = v then FP.fadd s (zSh shd (zAt lot (nI b) (nI y))) else s) b x = rMb s c w v y b x ∧ zB9 (N + 100 * b) (rMb s c w v y b x)
  | 0, _ => ⟨rfl, by rw [Nat.mul_zero, Nat.add_zero]; exact hx⟩
  | b + 1, hb => by
    obtain ⟨i1, i2⟩ := q_mb (v := v) hQ hW hL hn hy hN hx b (by omega)
    have h1 := hW.1
    have h2 := hW.2.1
    have e : zIt (fun b s => if zAt wov (nI b) (nI y) = v then FP.fadd s (zSh shd (zAt lot (nI b) (nI y))) else s) (b + 1) x = rMb s c w v y (b + 1) x := by
      show (if zAt wov (nI b) (nI y) = v then FP.fadd (zIt _ b x) (zSh shd (zAt lot (nI b) (nI y))) else zIt _ b x) = (if rW s y b = v then FP.fadd (rMb s c w v y b x) (zFb (s (rIx (rY s y b) 3))) else rMb s c w v y b x)
      rw [i1, (hW.row hy).at (by omega), q_sh hQ hL h1 h2 hn hy (by omega)]
    refine ⟨e, ?_⟩
    show zB9 _ (if rW s y b = v then FP.fadd (rMb s c w v y b x) (zFb (s (rIx (rY s y b) 3))) else rMb s c w v y b x)
    split
    · have := zB9_add i2 (zB9_shade (q_fs hQ hL hn hy (by omega : b < c))) (by omega) (by omega)
      rw [show N + 100 * (b + 1) = N + 100 * b + 100 by omega]
      exact this
    · exact zB9_mono i2 (by omega)
theorem q_my {col len lef sbt wov lot s : Nat → Int32} {shd : Nat → UInt32} {c w cnt : Nat} {v : Int32} (hQ : zQQ col len lef sbt shd s) (hW : zWW wov s c w) (hL : zLL lot s c w cnt) (hn : cnt ≤ 16) : ∀ y : Nat, y ≤ w → zIt (fun y s => zIt (fun b s => if zAt wov (nI b) (nI y) = v then FP.fadd s (zSh shd (zAt lot (nI b) (nI y))) else s) c s) y FP.fconst0 = rMy s c w v y FP.fconst0 ∧ zB9 (2000 * y) (rMy s c w v y FP.fconst0)
  | 0, _ => ⟨rfl, zB9_0 _⟩
  | y + 1, hy => by
    have h1 := hW.1
    have h2 := hW.2.1
    obtain ⟨i1, i2⟩ := q_my (v := v) hQ hW hL hn y (by omega)
    have k := q_mb (v := v) hQ hW hL hn (by omega : y < w) (by omega) i2 c (Nat.le_refl _)
    refine ⟨?_, ?_⟩
    · show zIt _ c (zIt _ y FP.fconst0) = _
      rw [i1]
      exact k.1
    · refine zB9_mono k.2 ?_
      omega
theorem q_mean {col len lef sbt wov lot s : Nat → Int32} {shd : Nat → UInt32} {c w cnt : Nat} {v : Int32} (hQ : zQQ col len lef sbt shd s) (hW : zWW wov s c w) (hL : zLL lot s c w cnt) (hn : cnt ≤ 16) : zBo (zMean wov lot shd c w v) = (rMe s c w v).toInt32 := by
  have h1 := hW.1
  have h2 := hW.2.1
  obtain ⟨i1, i2⟩ := q_my (v := v) hQ hW hL hn w (Nat.le_refl _)
  have e : zMn wov c w v = zSN (fun y => zCt (fun b => rW s y b == v) c) w := zSN_cg fun y hy => zCt_cg fun b hb => by rw [(hW.row hy).at hb]
  have hm : zSN (fun y => zCt (fun b => rW s y b == v) c) w ≤ w * 20 := zSN_le (fun k => Nat.le_trans (zCt_le _ _) h1) w
  unfold zMean rMe
  rw [e]
  by_cases q : zSN (fun y => zCt (fun b => rW s y b == v) c) w = 0
  · rw [if_pos q, if_pos q]
    exact zB9_bo (by decide) (zB9_0 0)
  · rw [if_neg q, if_neg q]
    unfold zMs
    rw [i1]
    exact zB9_bo (A := 32000) (by decide) (zB9_div (zB9_mono i2 (by omega)) (by decide) (by decide) (Nat.pos_of_ne_zero q) (by omega))
/-- contrasts -/
theorem q_cb {col len lef sbt wov lot s : Nat → Int32} {shd : Nat → UInt32} {c w cnt y : Nat} (hQ : zQQ col len lef sbt shd s) (hW : zWW wov s c w) (hL : zLL lot s c w cnt) (hn : cnt ≤ 16) (hy : y < w) : ∀ b : Nat, b + 1 ≤ c → zCsu lot shd b (nI y) = rCb s y b FP.fconst0 ∧ zB9 (100 * b) (rCb s y b FP.fconst0) := by
  intro b
  induction b with
  | zero =>
    intro _
    have e1 : zCsu lot shd 0 (nI y) = FP.fconst0 := rfl
    have e2 : rCb s y 0 FP.fconst0 = FP.fconst0 := rfl
    rw [e1, e2]
    exact ⟨rfl, zB9_0 _⟩
  | succ b ih =>
    intro hb
    have h1 := hW.1
    have h2 := hW.2.1
    obtain ⟨i1, i2⟩ := ih (by omega)
    refine ⟨?_, ?_⟩
    · show FP.fadd (zCsu lot shd b (nI y)) (zDf (zSh shd (zAt lot (nI b) (nI y))) (zSh shd (zAt lot (nI b + 1) (nI y)))) = FP.fadd (rCb s y b FP.fconst0) (rAp s (rY s y b) (rY s y (b + 1)))
      rw [i1, nI_1, q_sh hQ hL h1 h2 hn hy (by omega), q_sh hQ hL h1 h2 hn hy (by omega)]
      rfl
    · show zB9 _ (FP.fadd (rCb s y b FP.fconst0) (rAp s (rY s y b) (rY s y (b + 1))))
      rw [show 100 * (b + 1) = 100 * b + 100 by omega]
      exact zB9_add i2 (q_ap hQ hL hn hy (by omega) hy (by omega)) (by omega) (by omega)
theorem q_con {col len lef sbt wov lot s : Nat → Int32} {shd : Nat → UInt32} {c w cnt y : Nat} (hQ : zQQ col len lef sbt shd s) (hW : zWW wov s c w) (hL : zLL lot s c w cnt) (hn : cnt ≤ 16) (hc : 1 ≤ c) (hy : y < w) : zBo (zCon lot shd c (nI y)) = (rCn s c y).toInt32 := by
  have h1 := hW.1
  obtain ⟨i1, i2⟩ := q_cb hQ hW hL hn hy (c - 1) (by omega)
  unfold zCon rCn
  by_cases q : c = 1
  · rw [if_pos (by omega), if_pos q]
    exact zB9_bo (by decide) (zB9_0 0)
  · rw [if_neg (by omega), if_neg q, i1]
    exact zB9_bo (A := 1900) (by decide) (zB9_div (zB9_mono i2 (by omega)) (by decide) (by decide) (by omega) (by omega))
