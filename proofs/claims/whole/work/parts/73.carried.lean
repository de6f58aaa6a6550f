/-! commands are carried out alike -/
def zRel (S : zS) (s : Nat → Int32) : Prop := zRe S.1 S.2.1 S.2.2.1 S.2.2.2.1 S.2.2.2.2.1 S.2.2.2.2.2.1 S.2.2.2.2.2.2.1 S.2.2.2.2.2.2.2.1 S.2.2.2.2.2.2.2.2.1 S.2.2.2.2.2.2.2.2.2.1 S.2.2.2.2.2.2.2.2.2.2.1 S.2.2.2.2.2.2.2.2.2.2.2.1 S.2.2.2.2.2.2.2.2.2.2.2.2.1 S.2.2.2.2.2.2.2.2.2.2.2.2.2.1 S.2.2.2.2.2.2.2.2.2.2.2.2.2.2.1 S.2.2.2.2.2.2.2.2.2.2.2.2.2.2.2 s
theorem zRel_t {c r w lim : Nat} {tol : Int32} {cart wov lot sew mis : Nat → Int32} {cnt : Nat} {col len lef sbt : Nat → Int32} {shd : Nat → UInt32} {s : Nat → Int32} : zRel (c, r, w, lim, tol, cart, wov, lot, sew, mis, cnt, col, len, lef, sbt, shd) s = zRe c r w lim tol cart wov lot sew mis cnt col len lef sbt shd s := rfl
theorem zCd_4 {c r w lim : Nat} {tol : Int32} {cart wov lot sew mis : Nat → Int32} {cnt : Nat} {col len lef sbt : Nat → Int32} {shd : Nat → UInt32} {num : Nat → Int32} : zCd num 4 (c, r, w, lim, tol, cart, wov, lot, sew, mis, cnt, col, len, lef, sbt, shd) = (c, r, w - zNu num 0, lim, tol, cart, wov, lot, zFg wov sew c (w - zNu num 0) lim, mis, cnt, col, len, zUw lot c w (zNu num 0) lef, sbt, shd) := rfl
theorem zCd_7 {c r w lim : Nat} {tol : Int32} {cart wov lot sew mis : Nat → Int32} {cnt : Nat} {col len lef sbt : Nat → Int32} {shd : Nat → UInt32} {num : Nat → Int32} : zCd num 7 (c, r, w, lim, tol, cart, wov, lot, sew, mis, cnt, col, len, lef, sbt, shd) = (c, r, w, zNu num 0, tol, cart, wov, lot, zFg wov sew c w (zNu num 0), mis, cnt, col, len, lef, sbt, shd) := rfl
theorem zFr_d {x a b : Nat} (hx : x < 2 ^ 31) (ha : a < 2 ^ 31) (hb : b < 2 ^ 31) : zFr (nI x) (nI a) (nI b) = decide (x ≤ a ∧ a ≤ b) := by
  rw [Bool.eq_iff_iff, zFr_e hx hb, decide_eq_true_eq]
  constructor
  · rintro ⟨n, h1, h2, e⟩
    have := m_eq ha (by omega) e
    omega
  · rintro ⟨h1, h2⟩
    exact ⟨a, h1, h2, rfl⟩
theorem zNu_e {num : Nat → Int32} (h : zNmOk num) (i : Nat) : num i = nI (zNu num i) ∧ zNu num i ≤ 999 := by
  obtain ⟨n, hn, e⟩ := h i
  have e2 : zNu num i = n := by
    unfold zNu
    rw [e, nI_clamp (by omega)]
  rw [e2]
  exact ⟨e, hn⟩
theorem zGn_e {num g : Nat → Int32} (h : zNmOk num) {i : Nat} (hg : num i = g i) : g i = nI (zNu num i) ∧ gN g i = zNu num i := by
  obtain ⟨h1, h2⟩ := zNu_e h i
  have e : g i = nI (zNu num i) := by rw [← hg]; exact h1
  refine ⟨e, ?_⟩
  unfold gN
  rw [e, nI_clamp (by omega)]
theorem zBo_i2f {n : Nat} (hn : n ≤ 999) : zBo (FP.i2f (nI n)) = (FP.i2f (nI n)).toInt32 := by
  by_cases h0 : n = 0
  · subst h0
    decide +kernel
  · refine zB9_bo (A := n) (by omega) ⟨fp_i2f n (by omega), ?_⟩
    exact Nat.le_of_eq (zmag_i2f (by omega) (by omega))
/-- what a command leaves -/
def zCk (num : Nat → Int32) (j : Nat) (S : zS) (R : Int32 × zD7) : Prop := (zCq num j S = 0 ∧ R.1 = 0 ∧ zRel (zCd num j S) R.2.1) ∨ (¬ zCq num j S = 0 ∧ ¬ R.1 = 0 ∧ zRel S R.2.1)
theorem nI_n1 : ¬ nI 1 = 0 := by decide
theorem nI_n2 : ¬ nI 2 = 0 := by decide
theorem k_cmd_0 {c r w lim : Nat} {tol : Int32} {cart wov lot sew mis : Nat → Int32} {cnt : Nat} {col len lef sbt : Nat → Int32} {shd : Nat → UInt32} {num g : Nat → Int32} {q : zD7} (h : zRe c r w lim tol cart wov lot sew mis cnt col len lef sbt shd q.1) (hnm : zNmOk num) (hg : ∀ i, i < 2 → num i = g i) : zCk num 0 (c, r, w, lim, tol, cart, wov, lot, sew, mis, cnt, col, len, lef, sbt, shd) (rDo c r w cnt lim (nI (zKc 0)) g q) := by
  generalize hR : rDo c r w cnt lim (nI (zKc 0)) g q = R
  unfold rDo at hR
  rw [if_pos (by decide +kernel)] at hR
  obtain ⟨g0, n0⟩ := zGn_e hnm (hg 0 (by decide))
  obtain ⟨g1, n1⟩ := zGn_e hnm (hg 1 (by decide))
  have b0 := (zNu_e hnm 0).2
  have b1 := (zNu_e hnm 1).2
  have hq : zCq num 0 (c, r, w, lim, tol, cart, wov, lot, sew, mis, cnt, col, len, lef, sbt, shd) = (if zFr (nI 1) (nI (zNu num 0)) (nI 20) && zFr (nI 1) (nI (zNu num 1)) (nI 16) then 0 else 2) := by rw [nI_one]; rfl
  rw [g0, g1, n0, n1] at hR
  unfold zCk
  rw [hq]
  by_cases z : (zFr (nI 1) (nI (zNu num 0)) (nI 20) && zFr (nI 1) (nI (zNu num 1)) (nI 16)) = true
  · rw [if_pos z] at hR ⊢
    subst hR
    rw [Bool.and_eq_true, zFr_d (by decide) (by omega) (by decide), zFr_d (by decide) (by omega) (by decide), decide_eq_true_eq, decide_eq_true_eq] at z
    exact Or.inl ⟨rfl, nI_0, k_begin h z.1 z.2⟩
  · rw [if_neg z] at hR ⊢
    subst hR
    exact Or.inr ⟨by decide, by first | exact nI_n1 | exact nI_n2, h⟩
theorem k_cmd_1 {c r w lim : Nat} {tol : Int32} {cart wov lot sew mis : Nat → Int32} {cnt : Nat} {col len lef sbt : Nat → Int32} {shd : Nat → UInt32} {num g : Nat → Int32} {q : zD7} (h : zRe c r w lim tol cart wov lot sew mis cnt col len lef sbt shd q.1) (hnm : zNmOk num) (hg : ∀ i, i < 5 → num i = g i) : zCk num 1 (c, r, w, lim, tol, cart, wov, lot, sew, mis, cnt, col, len, lef, sbt, shd) (rDo c r w cnt lim (nI (zKc 1)) g q) := by
  obtain ⟨m0, m1, m2, m3, m4, hc1, hc20, hr1, hr16, hw, hn, hl⟩ := h.1
  generalize hR : rDo c r w cnt lim (nI (zKc 1)) g q = R
  unfold rDo at hR
  rw [if_neg (by decide +kernel), if_neg (by decide +kernel), if_pos (by decide +kernel)] at hR
  obtain ⟨g0, n0⟩ := zGn_e hnm (hg 0 (by decide))
  obtain ⟨g1, n1⟩ := zGn_e hnm (hg 1 (by decide))
  obtain ⟨g2, n2⟩ := zGn_e hnm (hg 2 (by decide))
  obtain ⟨g3, n3⟩ := zGn_e hnm (hg 3 (by decide))
  obtain ⟨g4, n4⟩ := zGn_e hnm (hg 4 (by decide))
  have b0 := (zNu_e hnm 0).2
  have b1 := (zNu_e hnm 1).2
  have b2 := (zNu_e hnm 2).2
  have b3 := (zNu_e hnm 3).2
  have b4 := (zNu_e hnm 4).2
  have hq : zCq num 1 (c, r, w, lim, tol, cart, wov, lot, sew, mis, cnt, col, len, lef, sbt, shd) = (if (zIn (nI (zNu num 0)) (nI c) && zIn (nI (zNu num 1)) (nI r)) && (zIn (nI (zNu num 2)) (nI c) && zIn (nI (zNu num 3)) (nI r)) then (if (nI (zNu num 2)) < (nI (zNu num 0)) then 2 else if (nI (zNu num 3)) < (nI (zNu num 1)) then 2 else if zFr (nI 0) (nI (zNu num 4)) (nI 7) then 0 else 2) else 1) := by
    rw [← zFr0_in (by omega : c < 2 ^ 31), ← zFr0_in (by omega : r < 2 ^ 31), ← zFr0_in (by omega : c < 2 ^ 31), ← zFr0_in (by omega : r < 2 ^ 31), nI_0]
    rfl
  rw [g0, g1, g2, g3, g4, n0, n1, n2, n3] at hR
  unfold zCk
  rw [hq]
  by_cases z : ((zIn (nI (zNu num 0)) (nI c) && zIn (nI (zNu num 1)) (nI r)) && (zIn (nI (zNu num 2)) (nI c) && zIn (nI (zNu num 3)) (nI r))) = true
  · rw [if_pos z] at hR ⊢
    rw [Bool.and_eq_true, Bool.and_eq_true, Bool.and_eq_true, zIn_n (by omega) (by omega), zIn_n (by omega) (by omega), zIn_n (by omega) (by omega), zIn_n (by omega) (by omega), decide_eq_true_eq, decide_eq_true_eq, decide_eq_true_eq, decide_eq_true_eq] at z
    by_cases z1 : nI (zNu num 2) < nI (zNu num 0)
    · rw [if_pos (Or.inl z1)] at hR
      rw [if_pos z1]
      subst hR
      exact Or.inr ⟨by decide, by first | exact nI_n1 | exact nI_n2, h⟩
    · rw [if_neg z1]
      by_cases z2 : nI (zNu num 3) < nI (zNu num 1)
      · rw [if_pos (Or.inr (Or.inl z2))] at hR
        rw [if_pos z2]
        subst hR
        exact Or.inr ⟨by decide, by first | exact nI_n1 | exact nI_n2, h⟩
      · rw [if_neg z2]
        by_cases z3 : zFr (nI 0) (nI (zNu num 4)) (nI 7) = true
        · rw [if_neg (fun k => by
            rcases k with k | k | k
            · exact z1 k
            · exact z2 k
            · rw [z3] at k; exact absurd k (by decide))] at hR
          rw [if_pos z3]
          subst hR
          rw [zFr_d (by decide) (by omega) (by decide), decide_eq_true_eq] at z3
          have z1' := m_nlt (by omega) (by omega) z1
          have z2' := m_nlt (by omega) (by omega) z2
          exact Or.inl ⟨rfl, nI_0, (k_fill h (v := zNu num 4) (by omega) z1' z.2.1 z2' z.2.2).1⟩
        · rw [if_pos (Or.inr (Or.inr (by simpa using z3)))] at hR
          rw [if_neg z3]
          subst hR
          exact Or.inr ⟨by decide, by first | exact nI_n1 | exact nI_n2, h⟩
  · rw [if_neg z] at hR ⊢
    subst hR
    exact Or.inr ⟨by decide, by first | exact nI_n1 | exact nI_n2, h⟩
theorem k_cmd_2 {c r w lim : Nat} {tol : Int32} {cart wov lot sew mis : Nat → Int32} {cnt : Nat} {col len lef sbt : Nat → Int32} {shd : Nat → UInt32} {num g : Nat → Int32} {q : zD7} (h : zRe c r w lim tol cart wov lot sew mis cnt col len lef sbt shd q.1) (hnm : zNmOk num) (hg : ∀ i, i < 3 → num i = g i) : zCk num 2 (c, r, w, lim, tol, cart, wov, lot, sew, mis, cnt, col, len, lef, sbt, shd) (rDo c r w cnt lim (nI (zKc 2)) g q) := by
  obtain ⟨m0, m1, m2, m3, m4, hc1, hc20, hr1, hr16, hw, hn, hl⟩ := h.1
  generalize hR : rDo c r w cnt lim (nI (zKc 2)) g q = R
  unfold rDo at hR
  rw [if_neg (by decide +kernel), if_neg (by decide +kernel), if_neg (by decide +kernel), if_pos (by decide +kernel)] at hR
  obtain ⟨g0, n0⟩ := zGn_e hnm (hg 0 (by decide))
  obtain ⟨g1, n1⟩ := zGn_e hnm (hg 1 (by decide))
  obtain ⟨g2, n2⟩ := zGn_e hnm (hg 2 (by decide))
  have b0 := (zNu_e hnm 0).2
  have b1 := (zNu_e hnm 1).2
  have b2 := (zNu_e hnm 2).2
  have hq : zCq num 2 (c, r, w, lim, tol, cart, wov, lot, sew, mis, cnt, col, len, lef, sbt, shd) = (if zFr (nI 0) (nI (zNu num 0)) (nI 7) && (zFr (nI 1) (nI (zNu num 1)) (nI 999) && rShd (zBo (FP.i2f (nI (zNu num 2))))) then (if nI 16 ≤ nI cnt then 3 else 0) else 2) := by
    unfold rShd
    rw [nI_0, nI_one]
    rfl
  rw [g0, g1, g2, ← zBo_i2f b2] at hR
  unfold zCk
  rw [hq]
  by_cases z : (zFr (nI 0) (nI (zNu num 0)) (nI 7) && (zFr (nI 1) (nI (zNu num 1)) (nI 999) && rShd (zBo (FP.i2f (nI (zNu num 2)))))) = true
  · rw [if_pos z] at hR ⊢
    by_cases z1 : cnt = 16
    · rw [if_pos z1] at hR
      rw [if_pos (nI_le (by omega) (by omega))]
      subst hR
      exact Or.inr ⟨by decide, by first | exact nI_n1 | exact nI_n2, h⟩
    · rw [if_neg z1] at hR
      rw [if_neg (nI_ge (by omega) (by omega))]
      subst hR
      rw [Bool.and_eq_true, Bool.and_eq_true] at z
      exact Or.inl ⟨rfl, nI_0, k_add h (by omega) b1 (rShd_v.mp z.2.2)⟩
  · rw [if_neg z] at hR ⊢
    subst hR
    exact Or.inr ⟨by decide, by first | exact nI_n1 | exact nI_n2, h⟩
theorem k_cmd_3 {c r w lim : Nat} {tol : Int32} {cart wov lot sew mis : Nat → Int32} {cnt : Nat} {col len lef sbt : Nat → Int32} {shd : Nat → UInt32} {num g : Nat → Int32} {q : zD7} (h : zRe c r w lim tol cart wov lot sew mis cnt col len lef sbt shd q.1) (hnm : zNmOk num) (hg : ∀ i, i < 1 → num i = g i) : zCk num 3 (c, r, w, lim, tol, cart, wov, lot, sew, mis, cnt, col, len, lef, sbt, shd) (rDo c r w cnt lim (nI (zKc 3)) g q) := by
  generalize hR : rDo c r w cnt lim (nI (zKc 3)) g q = R
  unfold rDo at hR
  rw [if_neg (by decide +kernel), if_neg (by decide +kernel), if_neg (by decide +kernel), if_neg (by decide +kernel), if_pos (by decide +kernel)] at hR
  obtain ⟨g0, n0⟩ := zGn_e hnm (hg 0 (by decide))
  have hq : zCq num 3 (c, r, w, lim, tol, cart, wov, lot, sew, mis, cnt, col, len, lef, sbt, shd) = (if zFr (nI 1) (nI (zNu num 0)) (nI 16) then 0 else 2) := by
    rw [nI_one]
    rfl
  rw [g0, n0] at hR
  unfold zCk
  rw [hq]
  by_cases z : zFr (nI 1) (nI (zNu num 0)) (nI 16) = true
  · rw [if_pos z] at hR ⊢
    subst hR
    exact Or.inl ⟨rfl, nI_0, (k_weave (zNu num 0) w wov lot lef mis q.1 q.2.1 h).2.2⟩
  · rw [if_neg z] at hR ⊢
    subst hR
    exact Or.inr ⟨by decide, by first | exact nI_n1 | exact nI_n2, h⟩
set_option maxRecDepth 100000 in
theorem k_cmd_4 {c r w lim : Nat} {tol : Int32} {cart wov lot sew mis : Nat → Int32} {cnt : Nat} {col len lef sbt : Nat → Int32} {shd : Nat → UInt32} {num g : Nat → Int32} {q : zD7} (h : zRe c r w lim tol cart wov lot sew mis cnt col len lef sbt shd q.1) (hnm : zNmOk num) (hg : ∀ i, i < 1 → num i = g i) : zCk num 4 (c, r, w, lim, tol, cart, wov, lot, sew, mis, cnt, col, len, lef, sbt, shd) (rDo c r w cnt lim (nI (zKc 4)) g q) := by
  obtain ⟨m0, m1, m2, m3, m4, hc1, hc20, hr1, hr16, hw, hn, hl⟩ := h.1
  generalize hR : rDo c r w cnt lim (nI (zKc 4)) g q = R
  unfold rDo at hR
  rw [if_neg (by decide +kernel), if_neg (by decide +kernel), if_neg (by decide +kernel), if_neg (by decide +kernel), if_neg (by decide +kernel), if_pos (by decide +kernel)] at hR
  obtain ⟨g0, n0⟩ := zGn_e hnm (hg 0 (by decide))
  have b0 := (zNu_e hnm 0).2
  have hq : zCq num 4 (c, r, w, lim, tol, cart, wov, lot, sew, mis, cnt, col, len, lef, sbt, shd) = (if zFr (nI 1) (nI (zNu num 0)) (nI 16) then (if nI w < nI (zNu num 0) then 3 else 0) else 2) := by
    rw [nI_one]
    rfl
  rw [g0, n0] at hR
  unfold zCk
  rw [hq]
  by_cases z : zFr (nI 1) (nI (zNu num 0)) (nI 16) = true
  · rw [if_pos z] at hR ⊢
    by_cases z1 : w < zNu num 0
    · rw [if_pos z1] at hR
      rw [if_pos (nI_lt z1 (by omega))]
      subst hR
      exact Or.inr ⟨by decide, by first | exact nI_n1 | exact nI_n2, h⟩
    · rw [if_neg z1] at hR
      rw [if_neg (nI_nlt (by omega) (by omega))]
      have e1 : R.1 = nI 0 := by rw [← hR]
      have e2 : R.2.1 = rFg (upd (rUw q.1 c (w - zNu num 0) (zNu num 0) q.1) 2 (nI (w - zNu num 0))) (rFd (upd (rUw q.1 c (w - zNu num 0) (zNu num 0) q.1) 2 (nI (w - zNu num 0))) (w - zNu num 0) lim (c - 1) (0, q.2.2.2.1, q.2.2.2.2.1, q.2.2.2.2.2.1)).2.1 (rFd (upd (rUw q.1 c (w - zNu num 0) (zNu num 0) q.1) 2 (nI (w - zNu num 0))) (w - zNu num 0) lim (c - 1) (0, q.2.2.2.1, q.2.2.2.2.1, q.2.2.2.2.2.1)).2.2.1 (rFd (upd (rUw q.1 c (w - zNu num 0) (zNu num 0) q.1) 2 (nI (w - zNu num 0))) (w - zNu num 0) lim (c - 1) (0, q.2.2.2.1, q.2.2.2.2.1, q.2.2.2.2.2.1)).1 := by rw [← hR]
      have kk := k_unweave h (n := zNu num 0) (by omega) q.2.2.2.1 q.2.2.2.2.1 q.2.2.2.2.2.1
      rw [← e2] at kk
      exact Or.inl ⟨rfl, e1.trans nI_0, by rw [zCd_4, zRel_t]; exact kk⟩
  · rw [if_neg z] at hR ⊢
    subst hR
    exact Or.inr ⟨by decide, by first | exact nI_n1 | exact nI_n2, h⟩
theorem k_cmd_5 {c r w lim : Nat} {tol : Int32} {cart wov lot sew mis : Nat → Int32} {cnt : Nat} {col len lef sbt : Nat → Int32} {shd : Nat → UInt32} {num g : Nat → Int32} {q : zD7} (h : zRe c r w lim tol cart wov lot sew mis cnt col len lef sbt shd q.1) (hnm : zNmOk num) (hg : ∀ i, i < 2 → num i = g i) : zCk num 5 (c, r, w, lim, tol, cart, wov, lot, sew, mis, cnt, col, len, lef, sbt, shd) (rDo c r w cnt lim (nI (zKc 5)) g q) := by
  obtain ⟨m0, m1, m2, m3, m4, hc1, hc20, hr1, hr16, hw, hn, hl⟩ := h.1
  generalize hR : rDo c r w cnt lim (nI (zKc 5)) g q = R
  unfold rDo at hR
  rw [if_neg (by decide +kernel), if_pos (by decide +kernel)] at hR
  obtain ⟨g0, n0⟩ := zGn_e hnm (hg 0 (by decide))
  obtain ⟨g1, n1⟩ := zGn_e hnm (hg 1 (by decide))
  have b0 := (zNu_e hnm 0).2
  have b1 := (zNu_e hnm 1).2
  have hq : zCq num 5 (c, r, w, lim, tol, cart, wov, lot, sew, mis, cnt, col, len, lef, sbt, shd) = (if zIn (nI (zNu num 0)) (nI c) then (if zFr (nI 0) (nI (zNu num 1)) (nI 7) then 0 else 2) else 1) := by
    rw [← zFr0_in (by omega : c < 2 ^ 31), nI_0]
    rfl
  rw [g0, g1, n0] at hR
  unfold zCk
  rw [hq]
  by_cases z : zIn (nI (zNu num 0)) (nI c) = true
  · rw [if_pos z] at hR ⊢
    rw [zIn_n (by omega) (by omega), decide_eq_true_eq] at z
    by_cases z1 : zFr (nI 0) (nI (zNu num 1)) (nI 7) = true
    · rw [if_pos z1] at hR ⊢
      subst hR
      rw [zFr_d (by decide) (by omega) (by decide), decide_eq_true_eq] at z1
      have e1 : num 1 = nI (zNu num 1) := (zNu_e hnm 1).1
      exact Or.inl ⟨rfl, nI_0, k_plant h z (by omega)⟩
    · rw [if_neg z1] at hR ⊢
      subst hR
      exact Or.inr ⟨by decide, by first | exact nI_n1 | exact nI_n2, h⟩
  · rw [if_neg z] at hR ⊢
    subst hR
    exact Or.inr ⟨by decide, by first | exact nI_n1 | exact nI_n2, h⟩
theorem k_cmd_6 {c r w lim : Nat} {tol : Int32} {cart wov lot sew mis : Nat → Int32} {cnt : Nat} {col len lef sbt : Nat → Int32} {shd : Nat → UInt32} {num g : Nat → Int32} {q : zD7} (h : zRe c r w lim tol cart wov lot sew mis cnt col len lef sbt shd q.1) (hnm : zNmOk num) (hg : ∀ i, i < 1 → num i = g i) : zCk num 6 (c, r, w, lim, tol, cart, wov, lot, sew, mis, cnt, col, len, lef, sbt, shd) (rDo c r w cnt lim (nI (zKc 6)) g q) := by
  have h0 := h
  obtain ⟨hM, h1, ⟨h5, h5v⟩, hC, hW, hL, hS, hMi, hQ, hN, hs, h6⟩ := h
  obtain ⟨m0, m1, m2, m3, m4, hc1, hc20, hr1, hr16, hw, hn, hl⟩ := hM
  generalize hR : rDo c r w cnt lim (nI (zKc 6)) g q = R
  unfold rDo at hR
  rw [if_neg (by decide +kernel), if_neg (by decide +kernel), if_neg (by decide +kernel), if_neg (by decide +kernel), if_neg (by decide +kernel), if_neg (by decide +kernel), if_pos (by decide +kernel)] at hR
  obtain ⟨g0, n0⟩ := zGn_e hnm (hg 0 (by decide))
  have b0 := (zNu_e hnm 0).2
  have hq : zCq num 6 (c, r, w, lim, tol, cart, wov, lot, sew, mis, cnt, col, len, lef, sbt, shd) = (if zSp wov c w lim (nI (zNu num 0)) = -1 then 1 else if zAt sew (zSp wov c w lim (nI (zNu num 0)) / nI 16) (zSp wov c w lim (nI (zNu num 0)) - zSp wov c w lim (nI (zNu num 0)) / nI 16 * nI 16) == 1 then 3 else 0) := rfl
  rw [g0, n0] at hR
  unfold zCk
  rw [hq]
  obtain ⟨a1, a2⟩ := rFd_a (lm := lim) hW hc1 q.2.2.2.1 q.2.2.2.2.1 q.2.2.2.2.2.1
  have hlen : (zSL (zSlP wov c w lim) c w).length < 2 ^ 30 := by
    rw [zSL_len]
    have := zSN_le (f := fun b => zCt (zSlP wov c w lim b) w) (m := 16) (fun k => Nat.le_trans (zCt_le _ _) (by omega)) c
    omega
  rw [zIn_n (by omega) (by rw [a1]; omega)] at hR
  by_cases z : zNu num 0 < (rFd q.1 w lim (c - 1) (0, q.2.2.2.1, q.2.2.2.2.1, q.2.2.2.2.2.1)).1
  · rw [if_pos (decide_eq_true z)] at hR
    have z' := z
    rw [a1] at z'
    obtain ⟨b, y, p1, -, p3, p4, p5⟩ := zSL_at z'
    obtain ⟨s1, s2, s3, s4, s5, s6, s7⟩ := k_place hW hS (by omega) p1
    obtain ⟨q1, q2, -⟩ := a2 _ _ p1
    have ex := rSx_n q1 q2 s6 s7
    rw [if_neg s2, s4, s3, s5]
    rw [ex] at hR
    by_cases z1 : (q.1 (1051 + 16 * b + y) == nI 1) = true
    · rw [if_pos z1] at hR ⊢
      subst hR
      exact Or.inr ⟨by decide, by first | exact nI_n1 | exact nI_n2, h0⟩
    · rw [if_neg z1] at hR ⊢
      subst hR
      refine Or.inl ⟨rfl, nI_0, ?_⟩
      have k := (k_sew h0 q.2.2.2.1 q.2.2.2.2.1 q.2.2.2.2.2.1 z).1
      rw [ex] at k
      exact k
  · rw [if_neg (by rw [decide_eq_false z]; decide)] at hR
    rw [a1] at z
    rw [if_pos (k_noplace hc20 hW.2.1 (by omega) (by omega))]
    subst hR
    exact Or.inr ⟨by decide, by first | exact nI_n1 | exact nI_n2, h0⟩
set_option maxRecDepth 100000 in
theorem k_cmd_7 {c r w lim : Nat} {tol : Int32} {cart wov lot sew mis : Nat → Int32} {cnt : Nat} {col len lef sbt : Nat → Int32} {shd : Nat → UInt32} {num g : Nat → Int32} {q : zD7} (h : zRe c r w lim tol cart wov lot sew mis cnt col len lef sbt shd q.1) (hnm : zNmOk num) (hg : ∀ i, i < 1 → num i = g i) : zCk num 7 (c, r, w, lim, tol, cart, wov, lot, sew, mis, cnt, col, len, lef, sbt, shd) (rDo c r w cnt lim (nI (zKc 7)) g q) := by
  generalize hR : rDo c r w cnt lim (nI (zKc 7)) g q = R
  unfold rDo at hR
  rw [if_neg (by decide +kernel), if_neg (by decide +kernel), if_neg (by decide +kernel), if_neg (by decide +kernel), if_neg (by decide +kernel), if_neg (by decide +kernel), if_neg (by decide +kernel)] at hR
  obtain ⟨g0, n0⟩ := zGn_e hnm (hg 0 (by decide))
  have b0 := (zNu_e hnm 0).2
  have hq : zCq num 7 (c, r, w, lim, tol, cart, wov, lot, sew, mis, cnt, col, len, lef, sbt, shd) = (if zFr (nI 1) (nI (zNu num 0)) (nI 16) then 0 else 2) := by
    rw [nI_one]
    rfl
  rw [g0, n0] at hR
  unfold zCk
  rw [hq]
  by_cases z : zFr (nI 1) (nI (zNu num 0)) (nI 16) = true
  · rw [if_pos z] at hR ⊢
    rw [zFr_d (by decide) (by omega) (by decide), decide_eq_true_eq] at z
    have e1 : R.1 = nI 0 := by rw [← hR]
    have e2 : R.2.1 = rFg (upd q.1 4 (nI (zNu num 0))) (rFd (upd q.1 4 (nI (zNu num 0))) w (zNu num 0) (c - 1) (0, q.2.2.2.1, q.2.2.2.2.1, q.2.2.2.2.2.1)).2.1 (rFd (upd q.1 4 (nI (zNu num 0))) w (zNu num 0) (c - 1) (0, q.2.2.2.1, q.2.2.2.2.1, q.2.2.2.2.2.1)).2.2.1 (rFd (upd q.1 4 (nI (zNu num 0))) w (zNu num 0) (c - 1) (0, q.2.2.2.1, q.2.2.2.2.1, q.2.2.2.2.2.1)).1 := by rw [← hR]
    have kk := k_limit h z.1 z.2 q.2.2.2.1 q.2.2.2.2.1 q.2.2.2.2.2.1
    rw [← e2] at kk
    exact Or.inl ⟨rfl, e1.trans nI_0, by rw [zCd_7, zRel_t]; exact kk⟩
  · rw [if_neg z] at hR ⊢
    subst hR
    exact Or.inr ⟨by decide, by first | exact nI_n1 | exact nI_n2, h⟩
theorem k_cmd {S : zS} {num g : Nat → Int32} {q : zD7} {j : Nat} (hj : j < 8) (h : zRel S q.1) (hnm : zNmOk num) (hg : ∀ i, i < zWq j → num i = g i) : zCk num j S (rDd (nI (zKc j)) g q) := by
  obtain ⟨c, r, w, lim, tol, cart, wov, lot, sew, mis, cnt, col, len, lef, sbt, shd⟩ := S
  have h' : zRe c r w lim tol cart wov lot sew mis cnt col len lef sbt shd q.1 := h
  obtain ⟨m0, m1, m2, m3, m4, hc1, hc20, hr1, hr16, hw, hn, hl⟩ := h'.1
  unfold rDd sd
  rw [m0, m1, m2, m3, m4, nI_clamp (by omega), nI_clamp (by omega), nI_clamp (by omega), nI_clamp (by omega), nI_clamp (by omega)]
  rcases (show j = 0 ∨ j = 1 ∨ j = 2 ∨ j = 3 ∨ j = 4 ∨ j = 5 ∨ j = 6 ∨ j = 7 by omega) with k | k | k | k | k | k | k | k <;> subst k
  · exact k_cmd_0 h' hnm hg
  · exact k_cmd_1 h' hnm hg
  · exact k_cmd_2 h' hnm hg
  · exact k_cmd_3 h' hnm hg
  · exact k_cmd_4 h' hnm hg
  · exact k_cmd_5 h' hnm hg
  · exact k_cmd_6 h' hnm hg
  · exact k_cmd_7 h' hnm hg
/-- a run of commands -/
theorem k_run {txt : Nat → Int32} {tln : Nat} (h150 : tln ≤ 150) : ∀ (d d' pos wj m : Nat) (S : zS) (num g : Nat → Int32) (v : Int32) (q : zD7), pos ≤ tln → tln - pos ≤ d → tln - pos < d' → zNmOk num → zRel S q.1 → (rRc txt tln d' (m, q, zPs txt tln pos, v, g)).1 = m + (zRcc txt tln d (S, num, wj, pos, -1)).1 ∧ zRel (zRcc txt tln d (S, num, wj, pos, -1)).2.1 (rRc txt tln d' (m, q, zPs txt tln pos, v, g)).2.1.1
  | 0, d', pos, wj, m, S, num, g, v, q, hp, h1, h2, hnm, h => by
    have hq := (zPs_le (txt := txt) (typed := tln) hp).1
    rw [rRc_e (by show tln ≤ zPs txt tln pos; omega)]
    exact ⟨rfl, h⟩
  | d + 1, d', pos, wj, m, S, num, g, v, q, hp, h1, h2, hnm, h => by
    obtain ⟨d', rfl⟩ : ∃ k, d' = k + 1 := ⟨d' - 1, by omega⟩
    have hq := zPs_le (txt := txt) (typed := tln) hp
    have e1 : zRcc txt tln (d + 1) (S, num, wj, pos, -1) = if (zNx txt tln (num, wj, pos, -1)).1 then (if zCq (zNx txt tln (num, wj, pos, -1)).2.1 (zNx txt tln (num, wj, pos, -1)).2.2.1 S = 0 then ((zRcc txt tln d (zCd (zNx txt tln (num, wj, pos, -1)).2.1 (zNx txt tln (num, wj, pos, -1)).2.2.1 S, (zNx txt tln (num, wj, pos, -1)).2)).1 + 1, (zRcc txt tln d (zCd (zNx txt tln (num, wj, pos, -1)).2.1 (zNx txt tln (num, wj, pos, -1)).2.2.1 S, (zNx txt tln (num, wj, pos, -1)).2)).2) else (0, S, (zNx txt tln (num, wj, pos, -1)).2)) else (0, S, (zNx txt tln (num, wj, pos, -1)).2) := rfl
    by_cases hlt : zPs txt tln pos < tln
    · have e2 : rRc txt tln (d' + 1) (m, q, zPs txt tln pos, v, g) = (if (rRd txt tln (zPs txt tln pos) g).1 = -1 then
        (if (rDd (rRd txt tln (zPs txt tln pos) g).2.2.1 (rRd txt tln (zPs txt tln pos) g).2.2.2 q).1 = 0 then rRc txt tln d' (m + 1, (rDd (rRd txt tln (zPs txt tln pos) g).2.2.1 (rRd txt tln (zPs txt tln pos) g).2.2.2 q).2, zPs txt tln (rRd txt tln (zPs txt tln pos) g).2.1, (rRd txt tln (zPs txt tln pos) g).2.2)
         else (m, (rDd (rRd txt tln (zPs txt tln pos) g).2.2.1 (rRd txt tln (zPs txt tln pos) g).2.2.2 q).2, zPs txt tln (rRd txt tln (zPs txt tln pos) g).2.1, (rRd txt tln (zPs txt tln pos) g).2.2))
       else (m, q, zPs txt tln (rRd txt tln (zPs txt tln pos) g).2.1, (rRd txt tln (zPs txt tln pos) g).2.2)) := if_pos hlt
      rw [e1, e2]
      rcases k_read (wj := wj) num g h150 hp hlt with ⟨r1, r2, r3, r4, r5, r6, r7⟩ | ⟨r1, x, r2, r3, r4⟩
      · rw [if_pos r1, if_pos r2]
        have hpos := rRd_pos (g := g) (by omega : zPs txt tln pos ≤ tln) h150 r2
        have hnm' := zNx_nm (byt := txt) (tln := tln) (s := (num, wj, pos, -1)) hnm
        have hc := k_cmd (q := q) r5 h hnm' r7
        rw [← r4] at hc
        rw [r3] at hpos ⊢
        generalize zNx txt tln (num, wj, pos, -1) = A at r6 hpos hnm' hc ⊢
        generalize rDd (rRd txt tln (zPs txt tln pos) g).2.2.1 (rRd txt tln (zPs txt tln pos) g).2.2.2 q = R at hc ⊢
        generalize (rRd txt tln (zPs txt tln pos) g).2.2 = Z
        obtain ⟨ab, an, aj, ap, af⟩ := A
        obtain ⟨zv, zg⟩ := Z
        obtain ⟨rc, rq⟩ := R
        have r6' : af = -1 := r6
        subst r6'
        have hpos' : zPs txt tln pos < ap ∧ ap ≤ tln := hpos
        rcases hc with ⟨c1, c2, c3⟩ | ⟨c1, c2, c3⟩
        · rw [if_pos c1, if_pos c2]
          have ih := k_run (txt := txt) h150 d d' ap aj (m + 1) (zCd an aj S) an zg zv rq hpos'.2 (by omega) (by omega) hnm' c3
          refine ⟨?_, ih.2⟩
          rw [ih.1, Nat.add_assoc, Nat.add_comm 1]
        · rw [if_neg c1, if_neg c2]
          exact ⟨rfl, c3⟩
      · rw [if_neg (by rw [r3]; exact nI_m1' (by omega)), if_neg (by rw [r1]; decide)]
        exact ⟨rfl, h⟩
    · rw [rRc_e (by show tln ≤ zPs txt tln pos; omega), e1, zNx_end (by omega), if_neg (show ¬ (false, num, wj, zPs txt tln pos, (-1 : Int32)).1 = true from Bool.false_ne_true)]
      exact ⟨rfl, h⟩
