/-! the text, read by both sides -/
theorem zTb_cg {byt txt : Nat → Int32} {tln : Nat} (h : ∀ k, k < tln → byt k = txt k) (p : Nat) : zTb byt tln p = zTb txt tln p := by
  unfold zTb
  by_cases q : p < tln
  · rw [if_pos q, if_pos q, h p q]
  · rw [if_neg q, if_neg q]
theorem zSk_cg {byt txt : Nat → Int32} {tln : Nat} (h : ∀ k, k < tln → byt k = txt k) : ∀ d p : Nat, zSk byt tln d p = zSk txt tln d p
  | 0, _ => rfl
  | d + 1, p => by
    show (if zTb byt tln p = nI 32 then zSk byt tln d (p + 1) else p) = (if zTb txt tln p = nI 32 then zSk txt tln d (p + 1) else p)
    rw [zTb_cg h, zSk_cg h d (p + 1)]
theorem zPs_cg {byt txt : Nat → Int32} {tln : Nat} (h : ∀ k, k < tln → byt k = txt k) (p : Nat) : zPs byt tln p = zPs txt tln p := zSk_cg h _ _
theorem zLw_cg {byt txt : Nat → Int32} {tln : Nat} (h : ∀ k, k < tln → byt k = txt k) : ∀ d p : Nat, zLw byt tln d p = zLw txt tln d p
  | 0, _ => rfl
  | d + 1, p => by
    show (if zFr (nI 97) (zTb byt tln p) (nI 122) then zLw byt tln d (p + 1) else p) = (if zFr (nI 97) (zTb txt tln p) (nI 122) then zLw txt tln d (p + 1) else p)
    rw [zTb_cg h, zLw_cg h d (p + 1)]
theorem zFr_e {a b : Nat} {v : Int32} (ha : a < 2 ^ 31) (hb : b < 2 ^ 31) : zFr (nI a) v (nI b) = true ↔ ∃ n, a ≤ n ∧ n ≤ b ∧ v = nI n := by
  unfold zFr
  rw [Bool.and_eq_true, Bool.not_eq_true', Bool.not_eq_true', decide_eq_false_iff_not, decide_eq_false_iff_not]
  constructor
  · rintro ⟨h1, h2⟩
    obtain ⟨n, hn, rfl⟩ := nI_of (x := v) (fun q => h1 (Int32.lt_of_lt_of_le q (nI_pos' ha)))
    exact ⟨n, m_nlt (by omega) (by omega) h1, m_nlt (by omega) (by omega) h2, rfl⟩
  · rintro ⟨n, h1, h2, rfl⟩
    exact ⟨nI_nlt h1 (by omega), nI_nlt h2 (by omega)⟩
theorem zTb_lu {txt : Nat → Int32} {tln p n : Nat} (hn : n < 2 ^ 31) (h : zTb txt tln p = nI n) : p < tln ∧ txt p = nI n := by
  unfold zTb at h
  by_cases q : p < tln
  · rw [if_pos q] at h
    exact ⟨q, h⟩
  · rw [if_neg q] at h
    exact absurd h.symm (nI_m1' hn)
theorem zLw_le (txt : Nat → Int32) (tln : Nat) : ∀ d p : Nat, p ≤ zLw txt tln d p ∧ zLw txt tln d p ≤ p + d ∧ ∀ q, p ≤ q → q < zLw txt tln d p → zFr (nI 97) (zTb txt tln q) (nI 122) = true
  | 0, p => ⟨Nat.le_refl _, Nat.le_refl _, fun q h1 h2 => absurd h1 (by have : zLw txt tln 0 p = p := rfl; omega)⟩
  | d + 1, p => by
    have e : zLw txt tln (d + 1) p = if zFr (nI 97) (zTb txt tln p) (nI 122) then zLw txt tln d (p + 1) else p := rfl
    rw [e]
    by_cases q : zFr (nI 97) (zTb txt tln p) (nI 122) = true
    · rw [if_pos q]
      obtain ⟨i1, i2, i3⟩ := zLw_le txt tln d (p + 1)
      refine ⟨by omega, by omega, fun k h1 h2 => ?_⟩
      by_cases z : k = p
      · rw [z]; exact q
      · exact i3 k (by omega) h2
    · rw [if_neg q]
      exact ⟨Nat.le_refl _, by omega, fun k h1 h2 => absurd h1 (by omega)⟩
/-- a letter's number -/
def zDt (txt : Nat → Int32) (tln q : Nat) : Nat := (zTb txt tln q).toNatClampNeg - 96
theorem zDt_n {txt : Nat → Int32} {tln q : Nat} (h : zFr (nI 97) (zTb txt tln q) (nI 122) = true) : 1 ≤ zDt txt tln q ∧ zDt txt tln q ≤ 26 ∧ zTb txt tln q = nI (96 + zDt txt tln q) ∧ txt q = nI (96 + zDt txt tln q) := by
  obtain ⟨n, h1, h2, e⟩ := (zFr_e (by decide) (by decide)).mp h
  have e2 : zDt txt tln q = n - 96 := by
    unfold zDt
    rw [e, nI_clamp (by omega)]
  rw [e2, show 96 + (n - 96) = n by omega]
  exact ⟨by omega, by omega, e, (zTb_lu (by omega) e).2⟩
/-- the word as a number -/
def zHn (D : Nat → Nat) (s : Nat) : Nat → Nat → Nat → Nat
  | 0, _, v => v
  | k + 1, p, v => zHn D s k (p + 1) (if p - s < 5 then 32 * v + D p else 0)
theorem rWl_hn {txt : Nat → Int32} {tln s : Nat} : ∀ d p v : Nat, rWl txt tln s d p (nI v) = (zLw txt tln d p, nI (zHn (zDt txt tln) s (zLw txt tln d p - p) p v))
  | 0, p, v => by
    have e : zLw txt tln 0 p = p := rfl
    rw [e, Nat.sub_self]
    rfl
  | d + 1, p, v => by
    have e : zLw txt tln (d + 1) p = if zFr (nI 97) (zTb txt tln p) (nI 122) then zLw txt tln d (p + 1) else p := rfl
    show (if zFr (nI 97) (zTb txt tln p) (nI 122) then rWl txt tln s d (p + 1) (if p - s < 5 then nI 32 * nI v + txt p - nI 96 else nI 0) else (p, nI v)) = _
    rw [e]
    by_cases q : zFr (nI 97) (zTb txt tln p) (nI 122) = true
    · rw [if_pos q, if_pos q]
      have i := zLw_le txt tln d (p + 1)
      have ev : (if p - s < 5 then nI 32 * nI v + txt p - nI 96 else nI 0) = nI (if p - s < 5 then 32 * v + zDt txt tln p else 0) := by
        by_cases z : p - s < 5
        · rw [if_pos z, if_pos z, (zDt_n q).2.2.2, pk_mul, nI_add, pk_sub (by omega)]
          exact congrArg nI (by omega)
        · rw [if_neg z, if_neg z]
      rw [ev, rWl_hn d (p + 1)]
      obtain ⟨k, hk⟩ : ∃ k, zLw txt tln d (p + 1) - p = k + 1 := ⟨zLw txt tln d (p + 1) - p - 1, by omega⟩
      rw [hk, show zLw txt tln d (p + 1) - (p + 1) = k by omega]
      rfl
    · rw [if_neg q, if_neg q, Nat.sub_self]
      rfl
def zKc (j : Nat) : Nat := [3554952, 206220, 12788, 24282821, 702607, 635184, 19639, 12891444].getD j 0
theorem zAF_i {p : Nat → Bool} : ∀ (d a : Nat), zAF p a d = true ↔ ∀ k, a ≤ k → k < a + d → p k = true
  | 0, a => ⟨fun _ k h1 h2 => absurd h1 (by omega), fun _ => rfl⟩
  | d + 1, a => by
    have e : zAF p a (d + 1) = if p a then zAF p (a + 1) d else false := rfl
    rw [e]
    by_cases q : p a = true
    · rw [if_pos q, zAF_i d (a + 1)]
      constructor
      · intro h k h1 h2
        by_cases z : k = a
        · rw [z]; exact q
        · exact h k (by omega) (by omega)
      · intro h k h1 h2
        exact h k (by omega) (by omega)
    · rw [if_neg q]
      exact ⟨fun h => absurd h (by decide), fun h => absurd (h a (by omega) (by omega)) q⟩
theorem zMk_i {txt : Nat → Int32} {tln s j k x : Nat} (h : zFr (nI 97) (zTb txt tln (s + k)) (nI 122) = true) (hx : (zSb.getD j []).getD k 0 = nI x) (hx2 : x < 200) : zMk txt tln s j k = true ↔ zDt txt tln (s + k) + 96 = x := by
  obtain ⟨h1, h2, h3, -⟩ := zDt_n h
  unfold zMk
  rw [decide_eq_true_eq, hx, h3]
  constructor
  · intro q
    have := m_eq (by omega) (by omega) q
    omega
  · intro q
    exact congrArg nI (by omega)
theorem zWd_0 {txt : Nat → Int32} {tln s e L : Nat} (hL : e - s = L) (hl : L < 6) (hq : ∀ q, s ≤ q → q < s + L → zFr (nI 97) (zTb txt tln q) (nI 122) = true) : zMw txt tln s e 0 = decide (zHn (zDt txt tln) s L s 0 = 3554952) := by
  unfold zMw
  rw [hL, show zSl.getD 0 0 = 5 from rfl]
  have dg : ∀ k, k < L → 1 ≤ zDt txt tln (s + k) ∧ zDt txt tln (s + k) ≤ 26 := fun k hk => ⟨(zDt_n (hq (s + k) (by omega) (by omega))).1, (zDt_n (hq (s + k) (by omega) (by omega))).2.1⟩
  have un : ∀ k, k < L → True := fun _ _ => trivial
  rcases (show L = 0 ∨ L = 1 ∨ L = 2 ∨ L = 3 ∨ L = 4 ∨ L = 5 by omega) with h | h | h | h | h | h
  · subst h
    have hh : zHn (zDt txt tln) s 0 s 0 = 0 := by
      rfl
    rw [hh]
    rw [decide_eq_false (by decide : ¬ 5 = 0), Bool.false_and, decide_eq_false (by omega)]
  · subst h
    have d0 := dg 0 (by decide)
    have hh : zHn (zDt txt tln) s 1 s 0 = (32 * 0 + zDt txt tln (s)) := by
      simp only [zHn]
      rw [if_pos (by omega : s - s < 5)]
    rw [show s + 0 = s from rfl] at d0
    rw [hh]
    rw [decide_eq_false (by decide : ¬ 5 = 1), Bool.false_and, decide_eq_false (by omega)]
  · subst h
    have d0 := dg 0 (by decide)
    have d1 := dg 1 (by decide)
    have hh : zHn (zDt txt tln) s 2 s 0 = (32 * (32 * 0 + zDt txt tln (s)) + zDt txt tln (s + 1)) := by
      simp only [zHn]
      rw [if_pos (by omega : s - s < 5), if_pos (by omega : s + 1 - s < 5)]
    rw [show s + 0 = s from rfl] at d0
    rw [hh]
    rw [decide_eq_false (by decide : ¬ 5 = 2), Bool.false_and, decide_eq_false (by omega)]
  · subst h
    have d0 := dg 0 (by decide)
    have d1 := dg 1 (by decide)
    have d2 := dg 2 (by decide)
    have hh : zHn (zDt txt tln) s 3 s 0 = (32 * (32 * (32 * 0 + zDt txt tln (s)) + zDt txt tln (s + 1)) + zDt txt tln (s + 1 + 1)) := by
      simp only [zHn]
      rw [if_pos (by omega : s - s < 5), if_pos (by omega : s + 1 - s < 5), if_pos (by omega : s + 1 + 1 - s < 5)]
    rw [show s + 2 = s + 1 + 1 from rfl] at d2
    rw [show s + 0 = s from rfl] at d0
    rw [hh]
    rw [decide_eq_false (by decide : ¬ 5 = 3), Bool.false_and, decide_eq_false (by omega)]
  · subst h
    have d0 := dg 0 (by decide)
    have d1 := dg 1 (by decide)
    have d2 := dg 2 (by decide)
    have d3 := dg 3 (by decide)
    have hh : zHn (zDt txt tln) s 4 s 0 = (32 * (32 * (32 * (32 * 0 + zDt txt tln (s)) + zDt txt tln (s + 1)) + zDt txt tln (s + 1 + 1)) + zDt txt tln (s + 1 + 1 + 1)) := by
      simp only [zHn]
      rw [if_pos (by omega : s - s < 5), if_pos (by omega : s + 1 - s < 5), if_pos (by omega : s + 1 + 1 - s < 5), if_pos (by omega : s + 1 + 1 + 1 - s < 5)]
    rw [show s + 2 = s + 1 + 1 from rfl] at d2
    rw [show s + 3 = s + 1 + 1 + 1 from rfl] at d3
    rw [show s + 0 = s from rfl] at d0
    rw [hh]
    rw [decide_eq_false (by decide : ¬ 5 = 4), Bool.false_and, decide_eq_false (by omega)]
  · subst h
    have d0 := dg 0 (by decide)
    have d1 := dg 1 (by decide)
    have d2 := dg 2 (by decide)
    have d3 := dg 3 (by decide)
    have d4 := dg 4 (by decide)
    have hh : zHn (zDt txt tln) s 5 s 0 = (32 * (32 * (32 * (32 * (32 * 0 + zDt txt tln (s)) + zDt txt tln (s + 1)) + zDt txt tln (s + 1 + 1)) + zDt txt tln (s + 1 + 1 + 1)) + zDt txt tln (s + 1 + 1 + 1 + 1)) := by
      simp only [zHn]
      rw [if_pos (by omega : s - s < 5), if_pos (by omega : s + 1 - s < 5), if_pos (by omega : s + 1 + 1 - s < 5), if_pos (by omega : s + 1 + 1 + 1 - s < 5), if_pos (by omega : s + 1 + 1 + 1 + 1 - s < 5)]
    rw [show s + 2 = s + 1 + 1 from rfl] at d2
    rw [show s + 3 = s + 1 + 1 + 1 from rfl] at d3
    rw [show s + 4 = s + 1 + 1 + 1 + 1 from rfl] at d4
    rw [show s + 0 = s from rfl] at d0
    rw [hh]
    rw [decide_eq_true rfl, Bool.true_and, Bool.eq_iff_iff, zAF_i, decide_eq_true_eq]
    have m0 := zMk_i (txt := txt) (tln := tln) (s := s) (j := 0) (k := 0) (x := 99) (hq _ (by omega) (by omega)) rfl (by decide)
    have m1 := zMk_i (txt := txt) (tln := tln) (s := s) (j := 0) (k := 1) (x := 108) (hq _ (by omega) (by omega)) rfl (by decide)
    have m2 := zMk_i (txt := txt) (tln := tln) (s := s) (j := 0) (k := 2) (x := 111) (hq _ (by omega) (by omega)) rfl (by decide)
    have m3 := zMk_i (txt := txt) (tln := tln) (s := s) (j := 0) (k := 3) (x := 116) (hq _ (by omega) (by omega)) rfl (by decide)
    have m4 := zMk_i (txt := txt) (tln := tln) (s := s) (j := 0) (k := 4) (x := 104) (hq _ (by omega) (by omega)) rfl (by decide)
    rw [show s + 0 = s from rfl] at m0
    rw [show s + 2 = s + 1 + 1 from rfl] at m2
    rw [show s + 3 = s + 1 + 1 + 1 from rfl] at m3
    rw [show s + 4 = s + 1 + 1 + 1 + 1 from rfl] at m4
    constructor
    · intro q
      have q0 := m0.mp (q 0 (by decide) (by decide))
      have q1 := m1.mp (q 1 (by decide) (by decide))
      have q2 := m2.mp (q 2 (by decide) (by decide))
      have q3 := m3.mp (q 3 (by decide) (by decide))
      have q4 := m4.mp (q 4 (by decide) (by decide))
      omega
    · intro q k h1 h2
      rcases (show k = 0 ∨ k = 1 ∨ k = 2 ∨ k = 3 ∨ k = 4 by omega) with h | h | h | h | h <;> subst h
      · exact m0.mpr (by omega)
      · exact m1.mpr (by omega)
      · exact m2.mpr (by omega)
      · exact m3.mpr (by omega)
      · exact m4.mpr (by omega)
theorem zWd_1 {txt : Nat → Int32} {tln s e L : Nat} (hL : e - s = L) (hl : L < 6) (hq : ∀ q, s ≤ q → q < s + L → zFr (nI 97) (zTb txt tln q) (nI 122) = true) : zMw txt tln s e 1 = decide (zHn (zDt txt tln) s L s 0 = 206220) := by
  unfold zMw
  rw [hL, show zSl.getD 1 0 = 4 from rfl]
  have dg : ∀ k, k < L → 1 ≤ zDt txt tln (s + k) ∧ zDt txt tln (s + k) ≤ 26 := fun k hk => ⟨(zDt_n (hq (s + k) (by omega) (by omega))).1, (zDt_n (hq (s + k) (by omega) (by omega))).2.1⟩
  have un : ∀ k, k < L → True := fun _ _ => trivial
  rcases (show L = 0 ∨ L = 1 ∨ L = 2 ∨ L = 3 ∨ L = 4 ∨ L = 5 by omega) with h | h | h | h | h | h
  · subst h
    have hh : zHn (zDt txt tln) s 0 s 0 = 0 := by
      rfl
    rw [hh]
    rw [decide_eq_false (by decide : ¬ 4 = 0), Bool.false_and, decide_eq_false (by omega)]
  · subst h
    have d0 := dg 0 (by decide)
    have hh : zHn (zDt txt tln) s 1 s 0 = (32 * 0 + zDt txt tln (s)) := by
      simp only [zHn]
      rw [if_pos (by omega : s - s < 5)]
    rw [show s + 0 = s from rfl] at d0
    rw [hh]
    rw [decide_eq_false (by decide : ¬ 4 = 1), Bool.false_and, decide_eq_false (by omega)]
  · subst h
    have d0 := dg 0 (by decide)
    have d1 := dg 1 (by decide)
    have hh : zHn (zDt txt tln) s 2 s 0 = (32 * (32 * 0 + zDt txt tln (s)) + zDt txt tln (s + 1)) := by
      simp only [zHn]
      rw [if_pos (by omega : s - s < 5), if_pos (by omega : s + 1 - s < 5)]
    rw [show s + 0 = s from rfl] at d0
    rw [hh]
    rw [decide_eq_false (by decide : ¬ 4 = 2), Bool.false_and, decide_eq_false (by omega)]
  · subst h
    have d0 := dg 0 (by decide)
    have d1 := dg 1 (by decide)
    have d2 := dg 2 (by decide)
    have hh : zHn (zDt txt tln) s 3 s 0 = (32 * (32 * (32 * 0 + zDt txt tln (s)) + zDt txt tln (s + 1)) + zDt txt tln (s + 1 + 1)) := by
      simp only [zHn]
      rw [if_pos (by omega : s - s < 5), if_pos (by omega : s + 1 - s < 5), if_pos (by omega : s + 1 + 1 - s < 5)]
    rw [show s + 2 = s + 1 + 1 from rfl] at d2
    rw [show s + 0 = s from rfl] at d0
    rw [hh]
    rw [decide_eq_false (by decide : ¬ 4 = 3), Bool.false_and, decide_eq_false (by omega)]
  · subst h
    have d0 := dg 0 (by decide)
    have d1 := dg 1 (by decide)
    have d2 := dg 2 (by decide)
    have d3 := dg 3 (by decide)
    have hh : zHn (zDt txt tln) s 4 s 0 = (32 * (32 * (32 * (32 * 0 + zDt txt tln (s)) + zDt txt tln (s + 1)) + zDt txt tln (s + 1 + 1)) + zDt txt tln (s + 1 + 1 + 1)) := by
      simp only [zHn]
      rw [if_pos (by omega : s - s < 5), if_pos (by omega : s + 1 - s < 5), if_pos (by omega : s + 1 + 1 - s < 5), if_pos (by omega : s + 1 + 1 + 1 - s < 5)]
    rw [show s + 2 = s + 1 + 1 from rfl] at d2
    rw [show s + 3 = s + 1 + 1 + 1 from rfl] at d3
    rw [show s + 0 = s from rfl] at d0
    rw [hh]
    rw [decide_eq_true rfl, Bool.true_and, Bool.eq_iff_iff, zAF_i, decide_eq_true_eq]
    have m0 := zMk_i (txt := txt) (tln := tln) (s := s) (j := 1) (k := 0) (x := 102) (hq _ (by omega) (by omega)) rfl (by decide)
    have m1 := zMk_i (txt := txt) (tln := tln) (s := s) (j := 1) (k := 1) (x := 105) (hq _ (by omega) (by omega)) rfl (by decide)
    have m2 := zMk_i (txt := txt) (tln := tln) (s := s) (j := 1) (k := 2) (x := 108) (hq _ (by omega) (by omega)) rfl (by decide)
    have m3 := zMk_i (txt := txt) (tln := tln) (s := s) (j := 1) (k := 3) (x := 108) (hq _ (by omega) (by omega)) rfl (by decide)
    rw [show s + 0 = s from rfl] at m0
    rw [show s + 2 = s + 1 + 1 from rfl] at m2
    rw [show s + 3 = s + 1 + 1 + 1 from rfl] at m3
    constructor
    · intro q
      have q0 := m0.mp (q 0 (by decide) (by decide))
      have q1 := m1.mp (q 1 (by decide) (by decide))
      have q2 := m2.mp (q 2 (by decide) (by decide))
      have q3 := m3.mp (q 3 (by decide) (by decide))
      omega
    · intro q k h1 h2
      rcases (show k = 0 ∨ k = 1 ∨ k = 2 ∨ k = 3 by omega) with h | h | h | h <;> subst h
      · exact m0.mpr (by omega)
      · exact m1.mpr (by omega)
      · exact m2.mpr (by omega)
      · exact m3.mpr (by omega)
  · subst h
    have d0 := dg 0 (by decide)
    have d1 := dg 1 (by decide)
    have d2 := dg 2 (by decide)
    have d3 := dg 3 (by decide)
    have d4 := dg 4 (by decide)
    have hh : zHn (zDt txt tln) s 5 s 0 = (32 * (32 * (32 * (32 * (32 * 0 + zDt txt tln (s)) + zDt txt tln (s + 1)) + zDt txt tln (s + 1 + 1)) + zDt txt tln (s + 1 + 1 + 1)) + zDt txt tln (s + 1 + 1 + 1 + 1)) := by
      simp only [zHn]
      rw [if_pos (by omega : s - s < 5), if_pos (by omega : s + 1 - s < 5), if_pos (by omega : s + 1 + 1 - s < 5), if_pos (by omega : s + 1 + 1 + 1 - s < 5), if_pos (by omega : s + 1 + 1 + 1 + 1 - s < 5)]
    rw [show s + 2 = s + 1 + 1 from rfl] at d2
    rw [show s + 3 = s + 1 + 1 + 1 from rfl] at d3
    rw [show s + 4 = s + 1 + 1 + 1 + 1 from rfl] at d4
    rw [show s + 0 = s from rfl] at d0
    rw [hh]
    rw [decide_eq_false (by decide : ¬ 4 = 5), Bool.false_and, decide_eq_false (by omega)]
theorem zWd_2 {txt : Nat → Int32} {tln s e L : Nat} (hL : e - s = L) (hl : L < 6) (hq : ∀ q, s ≤ q → q < s + L → zFr (nI 97) (zTb txt tln q) (nI 122) = true) : zMw txt tln s e 2 = decide (zHn (zDt txt tln) s L s 0 = 12788) := by
  unfold zMw
  rw [hL, show zSl.getD 2 0 = 3 from rfl]
  have dg : ∀ k, k < L → 1 ≤ zDt txt tln (s + k) ∧ zDt txt tln (s + k) ≤ 26 := fun k hk => ⟨(zDt_n (hq (s + k) (by omega) (by omega))).1, (zDt_n (hq (s + k) (by omega) (by omega))).2.1⟩
  have un : ∀ k, k < L → True := fun _ _ => trivial
  rcases (show L = 0 ∨ L = 1 ∨ L = 2 ∨ L = 3 ∨ L = 4 ∨ L = 5 by omega) with h | h | h | h | h | h
  · subst h
    have hh : zHn (zDt txt tln) s 0 s 0 = 0 := by
      rfl
    rw [hh]
    rw [decide_eq_false (by decide : ¬ 3 = 0), Bool.false_and, decide_eq_false (by omega)]
  · subst h
    have d0 := dg 0 (by decide)
    have hh : zHn (zDt txt tln) s 1 s 0 = (32 * 0 + zDt txt tln (s)) := by
      simp only [zHn]
      rw [if_pos (by omega : s - s < 5)]
    rw [show s + 0 = s from rfl] at d0
    rw [hh]
    rw [decide_eq_false (by decide : ¬ 3 = 1), Bool.false_and, decide_eq_false (by omega)]
  · subst h
    have d0 := dg 0 (by decide)
    have d1 := dg 1 (by decide)
    have hh : zHn (zDt txt tln) s 2 s 0 = (32 * (32 * 0 + zDt txt tln (s)) + zDt txt tln (s + 1)) := by
      simp only [zHn]
      rw [if_pos (by omega : s - s < 5), if_pos (by omega : s + 1 - s < 5)]
    rw [show s + 0 = s from rfl] at d0
    rw [hh]
    rw [decide_eq_false (by decide : ¬ 3 = 2), Bool.false_and, decide_eq_false (by omega)]
  · subst h
    have d0 := dg 0 (by decide)
    have d1 := dg 1 (by decide)
    have d2 := dg 2 (by decide)
    have hh : zHn (zDt txt tln) s 3 s 0 = (32 * (32 * (32 * 0 + zDt txt tln (s)) + zDt txt tln (s + 1)) + zDt txt tln (s + 1 + 1)) := by
      simp only [zHn]
      rw [if_pos (by omega : s - s < 5), if_pos (by omega : s + 1 - s < 5), if_pos (by omega : s + 1 + 1 - s < 5)]
    rw [show s + 2 = s + 1 + 1 from rfl] at d2
    rw [show s + 0 = s from rfl] at d0
    rw [hh]
    rw [decide_eq_true rfl, Bool.true_and, Bool.eq_iff_iff, zAF_i, decide_eq_true_eq]
    have m0 := zMk_i (txt := txt) (tln := tln) (s := s) (j := 2) (k := 0) (x := 108) (hq _ (by omega) (by omega)) rfl (by decide)
    have m1 := zMk_i (txt := txt) (tln := tln) (s := s) (j := 2) (k := 1) (x := 111) (hq _ (by omega) (by omega)) rfl (by decide)
    have m2 := zMk_i (txt := txt) (tln := tln) (s := s) (j := 2) (k := 2) (x := 116) (hq _ (by omega) (by omega)) rfl (by decide)
    rw [show s + 0 = s from rfl] at m0
    rw [show s + 2 = s + 1 + 1 from rfl] at m2
    constructor
    · intro q
      have q0 := m0.mp (q 0 (by decide) (by decide))
      have q1 := m1.mp (q 1 (by decide) (by decide))
      have q2 := m2.mp (q 2 (by decide) (by decide))
      omega
    · intro q k h1 h2
      rcases (show k = 0 ∨ k = 1 ∨ k = 2 by omega) with h | h | h <;> subst h
      · exact m0.mpr (by omega)
      · exact m1.mpr (by omega)
      · exact m2.mpr (by omega)
  · subst h
    have d0 := dg 0 (by decide)
    have d1 := dg 1 (by decide)
    have d2 := dg 2 (by decide)
    have d3 := dg 3 (by decide)
    have hh : zHn (zDt txt tln) s 4 s 0 = (32 * (32 * (32 * (32 * 0 + zDt txt tln (s)) + zDt txt tln (s + 1)) + zDt txt tln (s + 1 + 1)) + zDt txt tln (s + 1 + 1 + 1)) := by
      simp only [zHn]
      rw [if_pos (by omega : s - s < 5), if_pos (by omega : s + 1 - s < 5), if_pos (by omega : s + 1 + 1 - s < 5), if_pos (by omega : s + 1 + 1 + 1 - s < 5)]
    rw [show s + 2 = s + 1 + 1 from rfl] at d2
    rw [show s + 3 = s + 1 + 1 + 1 from rfl] at d3
    rw [show s + 0 = s from rfl] at d0
    rw [hh]
    rw [decide_eq_false (by decide : ¬ 3 = 4), Bool.false_and, decide_eq_false (by omega)]
  · subst h
    have d0 := dg 0 (by decide)
    have d1 := dg 1 (by decide)
    have d2 := dg 2 (by decide)
    have d3 := dg 3 (by decide)
    have d4 := dg 4 (by decide)
    have hh : zHn (zDt txt tln) s 5 s 0 = (32 * (32 * (32 * (32 * (32 * 0 + zDt txt tln (s)) + zDt txt tln (s + 1)) + zDt txt tln (s + 1 + 1)) + zDt txt tln (s + 1 + 1 + 1)) + zDt txt tln (s + 1 + 1 + 1 + 1)) := by
      simp only [zHn]
      rw [if_pos (by omega : s - s < 5), if_pos (by omega : s + 1 - s < 5), if_pos (by omega : s + 1 + 1 - s < 5), if_pos (by omega : s + 1 + 1 + 1 - s < 5), if_pos (by omega : s + 1 + 1 + 1 + 1 - s < 5)]
    rw [show s + 2 = s + 1 + 1 from rfl] at d2
    rw [show s + 3 = s + 1 + 1 + 1 from rfl] at d3
    rw [show s + 4 = s + 1 + 1 + 1 + 1 from rfl] at d4
    rw [show s + 0 = s from rfl] at d0
    rw [hh]
    rw [decide_eq_false (by decide : ¬ 3 = 5), Bool.false_and, decide_eq_false (by omega)]
theorem zWd_3 {txt : Nat → Int32} {tln s e L : Nat} (hL : e - s = L) (hl : L < 6) (hq : ∀ q, s ≤ q → q < s + L → zFr (nI 97) (zTb txt tln q) (nI 122) = true) : zMw txt tln s e 3 = decide (zHn (zDt txt tln) s L s 0 = 24282821) := by
  unfold zMw
  rw [hL, show zSl.getD 3 0 = 5 from rfl]
  have dg : ∀ k, k < L → 1 ≤ zDt txt tln (s + k) ∧ zDt txt tln (s + k) ≤ 26 := fun k hk => ⟨(zDt_n (hq (s + k) (by omega) (by omega))).1, (zDt_n (hq (s + k) (by omega) (by omega))).2.1⟩
  have un : ∀ k, k < L → True := fun _ _ => trivial
  rcases (show L = 0 ∨ L = 1 ∨ L = 2 ∨ L = 3 ∨ L = 4 ∨ L = 5 by omega) with h | h | h | h | h | h
  · subst h
    have hh : zHn (zDt txt tln) s 0 s 0 = 0 := by
      rfl
    rw [hh]
    rw [decide_eq_false (by decide : ¬ 5 = 0), Bool.false_and, decide_eq_false (by omega)]
  · subst h
    have d0 := dg 0 (by decide)
    have hh : zHn (zDt txt tln) s 1 s 0 = (32 * 0 + zDt txt tln (s)) := by
      simp only [zHn]
      rw [if_pos (by omega : s - s < 5)]
    rw [show s + 0 = s from rfl] at d0
    rw [hh]
    rw [decide_eq_false (by decide : ¬ 5 = 1), Bool.false_and, decide_eq_false (by omega)]
  · subst h
    have d0 := dg 0 (by decide)
    have d1 := dg 1 (by decide)
    have hh : zHn (zDt txt tln) s 2 s 0 = (32 * (32 * 0 + zDt txt tln (s)) + zDt txt tln (s + 1)) := by
      simp only [zHn]
      rw [if_pos (by omega : s - s < 5), if_pos (by omega : s + 1 - s < 5)]
    rw [show s + 0 = s from rfl] at d0
    rw [hh]
    rw [decide_eq_false (by decide : ¬ 5 = 2), Bool.false_and, decide_eq_false (by omega)]
  · subst h
    have d0 := dg 0 (by decide)
    have d1 := dg 1 (by decide)
    have d2 := dg 2 (by decide)
    have hh : zHn (zDt txt tln) s 3 s 0 = (32 * (32 * (32 * 0 + zDt txt tln (s)) + zDt txt tln (s + 1)) + zDt txt tln (s + 1 + 1)) := by
      simp only [zHn]
      rw [if_pos (by omega : s - s < 5), if_pos (by omega : s + 1 - s < 5), if_pos (by omega : s + 1 + 1 - s < 5)]
    rw [show s + 2 = s + 1 + 1 from rfl] at d2
    rw [show s + 0 = s from rfl] at d0
    rw [hh]
    rw [decide_eq_false (by decide : ¬ 5 = 3), Bool.false_and, decide_eq_false (by omega)]
  · subst h
    have d0 := dg 0 (by decide)
    have d1 := dg 1 (by decide)
    have d2 := dg 2 (by decide)
    have d3 := dg 3 (by decide)
    have hh : zHn (zDt txt tln) s 4 s 0 = (32 * (32 * (32 * (32 * 0 + zDt txt tln (s)) + zDt txt tln (s + 1)) + zDt txt tln (s + 1 + 1)) + zDt txt tln (s + 1 + 1 + 1)) := by
      simp only [zHn]
      rw [if_pos (by omega : s - s < 5), if_pos (by omega : s + 1 - s < 5), if_pos (by omega : s + 1 + 1 - s < 5), if_pos (by omega : s + 1 + 1 + 1 - s < 5)]
    rw [show s + 2 = s + 1 + 1 from rfl] at d2
    rw [show s + 3 = s + 1 + 1 + 1 from rfl] at d3
    rw [show s + 0 = s from rfl] at d0
    rw [hh]
    rw [decide_eq_false (by decide : ¬ 5 = 4), Bool.false_and, decide_eq_false (by omega)]
  · subst h
    have d0 := dg 0 (by decide)
    have d1 := dg 1 (by decide)
    have d2 := dg 2 (by decide)
    have d3 := dg 3 (by decide)
    have d4 := dg 4 (by decide)
    have hh : zHn (zDt txt tln) s 5 s 0 = (32 * (32 * (32 * (32 * (32 * 0 + zDt txt tln (s)) + zDt txt tln (s + 1)) + zDt txt tln (s + 1 + 1)) + zDt txt tln (s + 1 + 1 + 1)) + zDt txt tln (s + 1 + 1 + 1 + 1)) := by
      simp only [zHn]
      rw [if_pos (by omega : s - s < 5), if_pos (by omega : s + 1 - s < 5), if_pos (by omega : s + 1 + 1 - s < 5), if_pos (by omega : s + 1 + 1 + 1 - s < 5), if_pos (by omega : s + 1 + 1 + 1 + 1 - s < 5)]
    rw [show s + 2 = s + 1 + 1 from rfl] at d2
    rw [show s + 3 = s + 1 + 1 + 1 from rfl] at d3
    rw [show s + 4 = s + 1 + 1 + 1 + 1 from rfl] at d4
    rw [show s + 0 = s from rfl] at d0
    rw [hh]
    rw [decide_eq_true rfl, Bool.true_and, Bool.eq_iff_iff, zAF_i, decide_eq_true_eq]
    have m0 := zMk_i (txt := txt) (tln := tln) (s := s) (j := 3) (k := 0) (x := 119) (hq _ (by omega) (by omega)) rfl (by decide)
    have m1 := zMk_i (txt := txt) (tln := tln) (s := s) (j := 3) (k := 1) (x := 101) (hq _ (by omega) (by omega)) rfl (by decide)
    have m2 := zMk_i (txt := txt) (tln := tln) (s := s) (j := 3) (k := 2) (x := 97) (hq _ (by omega) (by omega)) rfl (by decide)
    have m3 := zMk_i (txt := txt) (tln := tln) (s := s) (j := 3) (k := 3) (x := 118) (hq _ (by omega) (by omega)) rfl (by decide)
    have m4 := zMk_i (txt := txt) (tln := tln) (s := s) (j := 3) (k := 4) (x := 101) (hq _ (by omega) (by omega)) rfl (by decide)
    rw [show s + 0 = s from rfl] at m0
    rw [show s + 2 = s + 1 + 1 from rfl] at m2
    rw [show s + 3 = s + 1 + 1 + 1 from rfl] at m3
    rw [show s + 4 = s + 1 + 1 + 1 + 1 from rfl] at m4
    constructor
    · intro q
      have q0 := m0.mp (q 0 (by decide) (by decide))
      have q1 := m1.mp (q 1 (by decide) (by decide))
      have q2 := m2.mp (q 2 (by decide) (by decide))
      have q3 := m3.mp (q 3 (by decide) (by decide))
      have q4 := m4.mp (q 4 (by decide) (by decide))
      omega
    · intro q k h1 h2
      rcases (show k = 0 ∨ k = 1 ∨ k = 2 ∨ k = 3 ∨ k = 4 by omega) with h | h | h | h | h <;> subst h
      · exact m0.mpr (by omega)
      · exact m1.mpr (by omega)
      · exact m2.mpr (by omega)
      · exact m3.mpr (by omega)
      · exact m4.mpr (by omega)
theorem zWd_4 {txt : Nat → Int32} {tln s e L : Nat} (hL : e - s = L) (hl : L < 6) (hq : ∀ q, s ≤ q → q < s + L → zFr (nI 97) (zTb txt tln q) (nI 122) = true) : zMw txt tln s e 4 = decide (zHn (zDt txt tln) s L s 0 = 702607) := by
  unfold zMw
  rw [hL, show zSl.getD 4 0 = 4 from rfl]
  have dg : ∀ k, k < L → 1 ≤ zDt txt tln (s + k) ∧ zDt txt tln (s + k) ≤ 26 := fun k hk => ⟨(zDt_n (hq (s + k) (by omega) (by omega))).1, (zDt_n (hq (s + k) (by omega) (by omega))).2.1⟩
  have un : ∀ k, k < L → True := fun _ _ => trivial
  rcases (show L = 0 ∨ L = 1 ∨ L = 2 ∨ L = 3 ∨ L = 4 ∨ L = 5 by omega) with h | h | h | h | h | h
  · subst h
    have hh : zHn (zDt txt tln) s 0 s 0 = 0 := by
      rfl
    rw [hh]
    rw [decide_eq_false (by decide : ¬ 4 = 0), Bool.false_and, decide_eq_false (by omega)]
  · subst h
    have d0 := dg 0 (by decide)
    have hh : zHn (zDt txt tln) s 1 s 0 = (32 * 0 + zDt txt tln (s)) := by
      simp only [zHn]
      rw [if_pos (by omega : s - s < 5)]
    rw [show s + 0 = s from rfl] at d0
    rw [hh]
    rw [decide_eq_false (by decide : ¬ 4 = 1), Bool.false_and, decide_eq_false (by omega)]
  · subst h
    have d0 := dg 0 (by decide)
    have d1 := dg 1 (by decide)
    have hh : zHn (zDt txt tln) s 2 s 0 = (32 * (32 * 0 + zDt txt tln (s)) + zDt txt tln (s + 1)) := by
      simp only [zHn]
      rw [if_pos (by omega : s - s < 5), if_pos (by omega : s + 1 - s < 5)]
    rw [show s + 0 = s from rfl] at d0
    rw [hh]
    rw [decide_eq_false (by decide : ¬ 4 = 2), Bool.false_and, decide_eq_false (by omega)]
  · subst h
    have d0 := dg 0 (by decide)
    have d1 := dg 1 (by decide)
    have d2 := dg 2 (by decide)
    have hh : zHn (zDt txt tln) s 3 s 0 = (32 * (32 * (32 * 0 + zDt txt tln (s)) + zDt txt tln (s + 1)) + zDt txt tln (s + 1 + 1)) := by
      simp only [zHn]
      rw [if_pos (by omega : s - s < 5), if_pos (by omega : s + 1 - s < 5), if_pos (by omega : s + 1 + 1 - s < 5)]
    rw [show s + 2 = s + 1 + 1 from rfl] at d2
    rw [show s + 0 = s from rfl] at d0
    rw [hh]
    rw [decide_eq_false (by decide : ¬ 4 = 3), Bool.false_and, decide_eq_false (by omega)]
  · subst h
    have d0 := dg 0 (by decide)
    have d1 := dg 1 (by decide)
    have d2 := dg 2 (by decide)
    have d3 := dg 3 (by decide)
    have hh : zHn (zDt txt tln) s 4 s 0 = (32 * (32 * (32 * (32 * 0 + zDt txt tln (s)) + zDt txt tln (s + 1)) + zDt txt tln (s + 1 + 1)) + zDt txt tln (s + 1 + 1 + 1)) := by
      simp only [zHn]
      rw [if_pos (by omega : s - s < 5), if_pos (by omega : s + 1 - s < 5), if_pos (by omega : s + 1 + 1 - s < 5), if_pos (by omega : s + 1 + 1 + 1 - s < 5)]
    rw [show s + 2 = s + 1 + 1 from rfl] at d2
    rw [show s + 3 = s + 1 + 1 + 1 from rfl] at d3
    rw [show s + 0 = s from rfl] at d0
    rw [hh]
    rw [decide_eq_true rfl, Bool.true_and, Bool.eq_iff_iff, zAF_i, decide_eq_true_eq]
    have m0 := zMk_i (txt := txt) (tln := tln) (s := s) (j := 4) (k := 0) (x := 117) (hq _ (by omega) (by omega)) rfl (by decide)
    have m1 := zMk_i (txt := txt) (tln := tln) (s := s) (j := 4) (k := 1) (x := 110) (hq _ (by omega) (by omega)) rfl (by decide)
    have m2 := zMk_i (txt := txt) (tln := tln) (s := s) (j := 4) (k := 2) (x := 100) (hq _ (by omega) (by omega)) rfl (by decide)
    have m3 := zMk_i (txt := txt) (tln := tln) (s := s) (j := 4) (k := 3) (x := 111) (hq _ (by omega) (by omega)) rfl (by decide)
    rw [show s + 0 = s from rfl] at m0
    rw [show s + 2 = s + 1 + 1 from rfl] at m2
    rw [show s + 3 = s + 1 + 1 + 1 from rfl] at m3
    constructor
    · intro q
      have q0 := m0.mp (q 0 (by decide) (by decide))
      have q1 := m1.mp (q 1 (by decide) (by decide))
      have q2 := m2.mp (q 2 (by decide) (by decide))
      have q3 := m3.mp (q 3 (by decide) (by decide))
      omega
    · intro q k h1 h2
      rcases (show k = 0 ∨ k = 1 ∨ k = 2 ∨ k = 3 by omega) with h | h | h | h <;> subst h
      · exact m0.mpr (by omega)
      · exact m1.mpr (by omega)
      · exact m2.mpr (by omega)
      · exact m3.mpr (by omega)
  · subst h
    have d0 := dg 0 (by decide)
    have d1 := dg 1 (by decide)
    have d2 := dg 2 (by decide)
    have d3 := dg 3 (by decide)
    have d4 := dg 4 (by decide)
    have hh : zHn (zDt txt tln) s 5 s 0 = (32 * (32 * (32 * (32 * (32 * 0 + zDt txt tln (s)) + zDt txt tln (s + 1)) + zDt txt tln (s + 1 + 1)) + zDt txt tln (s + 1 + 1 + 1)) + zDt txt tln (s + 1 + 1 + 1 + 1)) := by
      simp only [zHn]
      rw [if_pos (by omega : s - s < 5), if_pos (by omega : s + 1 - s < 5), if_pos (by omega : s + 1 + 1 - s < 5), if_pos (by omega : s + 1 + 1 + 1 - s < 5), if_pos (by omega : s + 1 + 1 + 1 + 1 - s < 5)]
    rw [show s + 2 = s + 1 + 1 from rfl] at d2
    rw [show s + 3 = s + 1 + 1 + 1 from rfl] at d3
    rw [show s + 4 = s + 1 + 1 + 1 + 1 from rfl] at d4
    rw [show s + 0 = s from rfl] at d0
    rw [hh]
    rw [decide_eq_false (by decide : ¬ 4 = 5), Bool.false_and, decide_eq_false (by omega)]
theorem zWd_5 {txt : Nat → Int32} {tln s e L : Nat} (hL : e - s = L) (hl : L < 6) (hq : ∀ q, s ≤ q → q < s + L → zFr (nI 97) (zTb txt tln q) (nI 122) = true) : zMw txt tln s e 5 = decide (zHn (zDt txt tln) s L s 0 = 635184) := by
  unfold zMw
  rw [hL, show zSl.getD 5 0 = 4 from rfl]
  have dg : ∀ k, k < L → 1 ≤ zDt txt tln (s + k) ∧ zDt txt tln (s + k) ≤ 26 := fun k hk => ⟨(zDt_n (hq (s + k) (by omega) (by omega))).1, (zDt_n (hq (s + k) (by omega) (by omega))).2.1⟩
  have un : ∀ k, k < L → True := fun _ _ => trivial
  rcases (show L = 0 ∨ L = 1 ∨ L = 2 ∨ L = 3 ∨ L = 4 ∨ L = 5 by omega) with h | h | h | h | h | h
  · subst h
    have hh : zHn (zDt txt tln) s 0 s 0 = 0 := by
      rfl
    rw [hh]
    rw [decide_eq_false (by decide : ¬ 4 = 0), Bool.false_and, decide_eq_false (by omega)]
  · subst h
    have d0 := dg 0 (by decide)
    have hh : zHn (zDt txt tln) s 1 s 0 = (32 * 0 + zDt txt tln (s)) := by
      simp only [zHn]
      rw [if_pos (by omega : s - s < 5)]
    rw [show s + 0 = s from rfl] at d0
    rw [hh]
    rw [decide_eq_false (by decide : ¬ 4 = 1), Bool.false_and, decide_eq_false (by omega)]
  · subst h
    have d0 := dg 0 (by decide)
    have d1 := dg 1 (by decide)
    have hh : zHn (zDt txt tln) s 2 s 0 = (32 * (32 * 0 + zDt txt tln (s)) + zDt txt tln (s + 1)) := by
      simp only [zHn]
      rw [if_pos (by omega : s - s < 5), if_pos (by omega : s + 1 - s < 5)]
    rw [show s + 0 = s from rfl] at d0
    rw [hh]
    rw [decide_eq_false (by decide : ¬ 4 = 2), Bool.false_and, decide_eq_false (by omega)]
  · subst h
    have d0 := dg 0 (by decide)
    have d1 := dg 1 (by decide)
    have d2 := dg 2 (by decide)
    have hh : zHn (zDt txt tln) s 3 s 0 = (32 * (32 * (32 * 0 + zDt txt tln (s)) + zDt txt tln (s + 1)) + zDt txt tln (s + 1 + 1)) := by
      simp only [zHn]
      rw [if_pos (by omega : s - s < 5), if_pos (by omega : s + 1 - s < 5), if_pos (by omega : s + 1 + 1 - s < 5)]
    rw [show s + 2 = s + 1 + 1 from rfl] at d2
    rw [show s + 0 = s from rfl] at d0
    rw [hh]
    rw [decide_eq_false (by decide : ¬ 4 = 3), Bool.false_and, decide_eq_false (by omega)]
  · subst h
    have d0 := dg 0 (by decide)
    have d1 := dg 1 (by decide)
    have d2 := dg 2 (by decide)
    have d3 := dg 3 (by decide)
    have hh : zHn (zDt txt tln) s 4 s 0 = (32 * (32 * (32 * (32 * 0 + zDt txt tln (s)) + zDt txt tln (s + 1)) + zDt txt tln (s + 1 + 1)) + zDt txt tln (s + 1 + 1 + 1)) := by
      simp only [zHn]
      rw [if_pos (by omega : s - s < 5), if_pos (by omega : s + 1 - s < 5), if_pos (by omega : s + 1 + 1 - s < 5), if_pos (by omega : s + 1 + 1 + 1 - s < 5)]
    rw [show s + 2 = s + 1 + 1 from rfl] at d2
    rw [show s + 3 = s + 1 + 1 + 1 from rfl] at d3
    rw [show s + 0 = s from rfl] at d0
    rw [hh]
    rw [decide_eq_true rfl, Bool.true_and, Bool.eq_iff_iff, zAF_i, decide_eq_true_eq]
    have m0 := zMk_i (txt := txt) (tln := tln) (s := s) (j := 5) (k := 0) (x := 115) (hq _ (by omega) (by omega)) rfl (by decide)
    have m1 := zMk_i (txt := txt) (tln := tln) (s := s) (j := 5) (k := 1) (x := 108) (hq _ (by omega) (by omega)) rfl (by decide)
    have m2 := zMk_i (txt := txt) (tln := tln) (s := s) (j := 5) (k := 2) (x := 105) (hq _ (by omega) (by omega)) rfl (by decide)
    have m3 := zMk_i (txt := txt) (tln := tln) (s := s) (j := 5) (k := 3) (x := 112) (hq _ (by omega) (by omega)) rfl (by decide)
    rw [show s + 0 = s from rfl] at m0
    rw [show s + 2 = s + 1 + 1 from rfl] at m2
    rw [show s + 3 = s + 1 + 1 + 1 from rfl] at m3
    constructor
    · intro q
      have q0 := m0.mp (q 0 (by decide) (by decide))
      have q1 := m1.mp (q 1 (by decide) (by decide))
      have q2 := m2.mp (q 2 (by decide) (by decide))
      have q3 := m3.mp (q 3 (by decide) (by decide))
      omega
    · intro q k h1 h2
      rcases (show k = 0 ∨ k = 1 ∨ k = 2 ∨ k = 3 by omega) with h | h | h | h <;> subst h
      · exact m0.mpr (by omega)
      · exact m1.mpr (by omega)
      · exact m2.mpr (by omega)
      · exact m3.mpr (by omega)
  · subst h
    have d0 := dg 0 (by decide)
    have d1 := dg 1 (by decide)
    have d2 := dg 2 (by decide)
    have d3 := dg 3 (by decide)
    have d4 := dg 4 (by decide)
    have hh : zHn (zDt txt tln) s 5 s 0 = (32 * (32 * (32 * (32 * (32 * 0 + zDt txt tln (s)) + zDt txt tln (s + 1)) + zDt txt tln (s + 1 + 1)) + zDt txt tln (s + 1 + 1 + 1)) + zDt txt tln (s + 1 + 1 + 1 + 1)) := by
      simp only [zHn]
      rw [if_pos (by omega : s - s < 5), if_pos (by omega : s + 1 - s < 5), if_pos (by omega : s + 1 + 1 - s < 5), if_pos (by omega : s + 1 + 1 + 1 - s < 5), if_pos (by omega : s + 1 + 1 + 1 + 1 - s < 5)]
    rw [show s + 2 = s + 1 + 1 from rfl] at d2
    rw [show s + 3 = s + 1 + 1 + 1 from rfl] at d3
    rw [show s + 4 = s + 1 + 1 + 1 + 1 from rfl] at d4
    rw [show s + 0 = s from rfl] at d0
    rw [hh]
    rw [decide_eq_false (by decide : ¬ 4 = 5), Bool.false_and, decide_eq_false (by omega)]
theorem zWd_6 {txt : Nat → Int32} {tln s e L : Nat} (hL : e - s = L) (hl : L < 6) (hq : ∀ q, s ≤ q → q < s + L → zFr (nI 97) (zTb txt tln q) (nI 122) = true) : zMw txt tln s e 6 = decide (zHn (zDt txt tln) s L s 0 = 19639) := by
  unfold zMw
  rw [hL, show zSl.getD 6 0 = 3 from rfl]
  have dg : ∀ k, k < L → 1 ≤ zDt txt tln (s + k) ∧ zDt txt tln (s + k) ≤ 26 := fun k hk => ⟨(zDt_n (hq (s + k) (by omega) (by omega))).1, (zDt_n (hq (s + k) (by omega) (by omega))).2.1⟩
  have un : ∀ k, k < L → True := fun _ _ => trivial
  rcases (show L = 0 ∨ L = 1 ∨ L = 2 ∨ L = 3 ∨ L = 4 ∨ L = 5 by omega) with h | h | h | h | h | h
  · subst h
    have hh : zHn (zDt txt tln) s 0 s 0 = 0 := by
      rfl
    rw [hh]
    rw [decide_eq_false (by decide : ¬ 3 = 0), Bool.false_and, decide_eq_false (by omega)]
  · subst h
    have d0 := dg 0 (by decide)
    have hh : zHn (zDt txt tln) s 1 s 0 = (32 * 0 + zDt txt tln (s)) := by
      simp only [zHn]
      rw [if_pos (by omega : s - s < 5)]
    rw [show s + 0 = s from rfl] at d0
    rw [hh]
    rw [decide_eq_false (by decide : ¬ 3 = 1), Bool.false_and, decide_eq_false (by omega)]
  · subst h
    have d0 := dg 0 (by decide)
    have d1 := dg 1 (by decide)
    have hh : zHn (zDt txt tln) s 2 s 0 = (32 * (32 * 0 + zDt txt tln (s)) + zDt txt tln (s + 1)) := by
      simp only [zHn]
      rw [if_pos (by omega : s - s < 5), if_pos (by omega : s + 1 - s < 5)]
    rw [show s + 0 = s from rfl] at d0
    rw [hh]
    rw [decide_eq_false (by decide : ¬ 3 = 2), Bool.false_and, decide_eq_false (by omega)]
  · subst h
    have d0 := dg 0 (by decide)
    have d1 := dg 1 (by decide)
    have d2 := dg 2 (by decide)
    have hh : zHn (zDt txt tln) s 3 s 0 = (32 * (32 * (32 * 0 + zDt txt tln (s)) + zDt txt tln (s + 1)) + zDt txt tln (s + 1 + 1)) := by
      simp only [zHn]
      rw [if_pos (by omega : s - s < 5), if_pos (by omega : s + 1 - s < 5), if_pos (by omega : s + 1 + 1 - s < 5)]
    rw [show s + 2 = s + 1 + 1 from rfl] at d2
    rw [show s + 0 = s from rfl] at d0
    rw [hh]
    rw [decide_eq_true rfl, Bool.true_and, Bool.eq_iff_iff, zAF_i, decide_eq_true_eq]
    have m0 := zMk_i (txt := txt) (tln := tln) (s := s) (j := 6) (k := 0) (x := 115) (hq _ (by omega) (by omega)) rfl (by decide)
    have m1 := zMk_i (txt := txt) (tln := tln) (s := s) (j := 6) (k := 1) (x := 101) (hq _ (by omega) (by omega)) rfl (by decide)
    have m2 := zMk_i (txt := txt) (tln := tln) (s := s) (j := 6) (k := 2) (x := 119) (hq _ (by omega) (by omega)) rfl (by decide)
    rw [show s + 0 = s from rfl] at m0
    rw [show s + 2 = s + 1 + 1 from rfl] at m2
    constructor
    · intro q
      have q0 := m0.mp (q 0 (by decide) (by decide))
      have q1 := m1.mp (q 1 (by decide) (by decide))
      have q2 := m2.mp (q 2 (by decide) (by decide))
      omega
    · intro q k h1 h2
      rcases (show k = 0 ∨ k = 1 ∨ k = 2 by omega) with h | h | h <;> subst h
      · exact m0.mpr (by omega)
      · exact m1.mpr (by omega)
      · exact m2.mpr (by omega)
  · subst h
    have d0 := dg 0 (by decide)
    have d1 := dg 1 (by decide)
    have d2 := dg 2 (by decide)
    have d3 := dg 3 (by decide)
    have hh : zHn (zDt txt tln) s 4 s 0 = (32 * (32 * (32 * (32 * 0 + zDt txt tln (s)) + zDt txt tln (s + 1)) + zDt txt tln (s + 1 + 1)) + zDt txt tln (s + 1 + 1 + 1)) := by
      simp only [zHn]
      rw [if_pos (by omega : s - s < 5), if_pos (by omega : s + 1 - s < 5), if_pos (by omega : s + 1 + 1 - s < 5), if_pos (by omega : s + 1 + 1 + 1 - s < 5)]
    rw [show s + 2 = s + 1 + 1 from rfl] at d2
    rw [show s + 3 = s + 1 + 1 + 1 from rfl] at d3
    rw [show s + 0 = s from rfl] at d0
    rw [hh]
    rw [decide_eq_false (by decide : ¬ 3 = 4), Bool.false_and, decide_eq_false (by omega)]
  · subst h
    have d0 := dg 0 (by decide)
    have d1 := dg 1 (by decide)
    have d2 := dg 2 (by decide)
    have d3 := dg 3 (by decide)
    have d4 := dg 4 (by decide)
    have hh : zHn (zDt txt tln) s 5 s 0 = (32 * (32 * (32 * (32 * (32 * 0 + zDt txt tln (s)) + zDt txt tln (s + 1)) + zDt txt tln (s + 1 + 1)) + zDt txt tln (s + 1 + 1 + 1)) + zDt txt tln (s + 1 + 1 + 1 + 1)) := by
      simp only [zHn]
      rw [if_pos (by omega : s - s < 5), if_pos (by omega : s + 1 - s < 5), if_pos (by omega : s + 1 + 1 - s < 5), if_pos (by omega : s + 1 + 1 + 1 - s < 5), if_pos (by omega : s + 1 + 1 + 1 + 1 - s < 5)]
    rw [show s + 2 = s + 1 + 1 from rfl] at d2
    rw [show s + 3 = s + 1 + 1 + 1 from rfl] at d3
    rw [show s + 4 = s + 1 + 1 + 1 + 1 from rfl] at d4
    rw [show s + 0 = s from rfl] at d0
    rw [hh]
    rw [decide_eq_false (by decide : ¬ 3 = 5), Bool.false_and, decide_eq_false (by omega)]
theorem zWd_7 {txt : Nat → Int32} {tln s e L : Nat} (hL : e - s = L) (hl : L < 6) (hq : ∀ q, s ≤ q → q < s + L → zFr (nI 97) (zTb txt tln q) (nI 122) = true) : zMw txt tln s e 7 = decide (zHn (zDt txt tln) s L s 0 = 12891444) := by
  unfold zMw
  rw [hL, show zSl.getD 7 0 = 5 from rfl]
  have dg : ∀ k, k < L → 1 ≤ zDt txt tln (s + k) ∧ zDt txt tln (s + k) ≤ 26 := fun k hk => ⟨(zDt_n (hq (s + k) (by omega) (by omega))).1, (zDt_n (hq (s + k) (by omega) (by omega))).2.1⟩
  have un : ∀ k, k < L → True := fun _ _ => trivial
  rcases (show L = 0 ∨ L = 1 ∨ L = 2 ∨ L = 3 ∨ L = 4 ∨ L = 5 by omega) with h | h | h | h | h | h
  · subst h
    have hh : zHn (zDt txt tln) s 0 s 0 = 0 := by
      rfl
    rw [hh]
    rw [decide_eq_false (by decide : ¬ 5 = 0), Bool.false_and, decide_eq_false (by omega)]
  · subst h
    have d0 := dg 0 (by decide)
    have hh : zHn (zDt txt tln) s 1 s 0 = (32 * 0 + zDt txt tln (s)) := by
      simp only [zHn]
      rw [if_pos (by omega : s - s < 5)]
    rw [show s + 0 = s from rfl] at d0
    rw [hh]
    rw [decide_eq_false (by decide : ¬ 5 = 1), Bool.false_and, decide_eq_false (by omega)]
  · subst h
    have d0 := dg 0 (by decide)
    have d1 := dg 1 (by decide)
    have hh : zHn (zDt txt tln) s 2 s 0 = (32 * (32 * 0 + zDt txt tln (s)) + zDt txt tln (s + 1)) := by
      simp only [zHn]
      rw [if_pos (by omega : s - s < 5), if_pos (by omega : s + 1 - s < 5)]
    rw [show s + 0 = s from rfl] at d0
    rw [hh]
    rw [decide_eq_false (by decide : ¬ 5 = 2), Bool.false_and, decide_eq_false (by omega)]
  · subst h
    have d0 := dg 0 (by decide)
    have d1 := dg 1 (by decide)
    have d2 := dg 2 (by decide)
    have hh : zHn (zDt txt tln) s 3 s 0 = (32 * (32 * (32 * 0 + zDt txt tln (s)) + zDt txt tln (s + 1)) + zDt txt tln (s + 1 + 1)) := by
      simp only [zHn]
      rw [if_pos (by omega : s - s < 5), if_pos (by omega : s + 1 - s < 5), if_pos (by omega : s + 1 + 1 - s < 5)]
    rw [show s + 2 = s + 1 + 1 from rfl] at d2
    rw [show s + 0 = s from rfl] at d0
    rw [hh]
    rw [decide_eq_false (by decide : ¬ 5 = 3), Bool.false_and, decide_eq_false (by omega)]
  · subst h
    have d0 := dg 0 (by decide)
    have d1 := dg 1 (by decide)
    have d2 := dg 2 (by decide)
    have d3 := dg 3 (by decide)
    have hh : zHn (zDt txt tln) s 4 s 0 = (32 * (32 * (32 * (32 * 0 + zDt txt tln (s)) + zDt txt tln (s + 1)) + zDt txt tln (s + 1 + 1)) + zDt txt tln (s + 1 + 1 + 1)) := by
      simp only [zHn]
      rw [if_pos (by omega : s - s < 5), if_pos (by omega : s + 1 - s < 5), if_pos (by omega : s + 1 + 1 - s < 5), if_pos (by omega : s + 1 + 1 + 1 - s < 5)]
    rw [show s + 2 = s + 1 + 1 from rfl] at d2
    rw [show s + 3 = s + 1 + 1 + 1 from rfl] at d3
    rw [show s + 0 = s from rfl] at d0
    rw [hh]
    rw [decide_eq_false (by decide : ¬ 5 = 4), Bool.false_and, decide_eq_false (by omega)]
  · subst h
    have d0 := dg 0 (by decide)
    have d1 := dg 1 (by decide)
    have d2 := dg 2 (by decide)
    have d3 := dg 3 (by decide)
    have d4 := dg 4 (by decide)
    have hh : zHn (zDt txt tln) s 5 s 0 = (32 * (32 * (32 * (32 * (32 * 0 + zDt txt tln (s)) + zDt txt tln (s + 1)) + zDt txt tln (s + 1 + 1)) + zDt txt tln (s + 1 + 1 + 1)) + zDt txt tln (s + 1 + 1 + 1 + 1)) := by
      simp only [zHn]
      rw [if_pos (by omega : s - s < 5), if_pos (by omega : s + 1 - s < 5), if_pos (by omega : s + 1 + 1 - s < 5), if_pos (by omega : s + 1 + 1 + 1 - s < 5), if_pos (by omega : s + 1 + 1 + 1 + 1 - s < 5)]
    rw [show s + 2 = s + 1 + 1 from rfl] at d2
    rw [show s + 3 = s + 1 + 1 + 1 from rfl] at d3
    rw [show s + 4 = s + 1 + 1 + 1 + 1 from rfl] at d4
    rw [show s + 0 = s from rfl] at d0
    rw [hh]
    rw [decide_eq_true rfl, Bool.true_and, Bool.eq_iff_iff, zAF_i, decide_eq_true_eq]
    have m0 := zMk_i (txt := txt) (tln := tln) (s := s) (j := 7) (k := 0) (x := 108) (hq _ (by omega) (by omega)) rfl (by decide)
    have m1 := zMk_i (txt := txt) (tln := tln) (s := s) (j := 7) (k := 1) (x := 105) (hq _ (by omega) (by omega)) rfl (by decide)
    have m2 := zMk_i (txt := txt) (tln := tln) (s := s) (j := 7) (k := 2) (x := 109) (hq _ (by omega) (by omega)) rfl (by decide)
    have m3 := zMk_i (txt := txt) (tln := tln) (s := s) (j := 7) (k := 3) (x := 105) (hq _ (by omega) (by omega)) rfl (by decide)
    have m4 := zMk_i (txt := txt) (tln := tln) (s := s) (j := 7) (k := 4) (x := 116) (hq _ (by omega) (by omega)) rfl (by decide)
    rw [show s + 0 = s from rfl] at m0
    rw [show s + 2 = s + 1 + 1 from rfl] at m2
    rw [show s + 3 = s + 1 + 1 + 1 from rfl] at m3
    rw [show s + 4 = s + 1 + 1 + 1 + 1 from rfl] at m4
    constructor
    · intro q
      have q0 := m0.mp (q 0 (by decide) (by decide))
      have q1 := m1.mp (q 1 (by decide) (by decide))
      have q2 := m2.mp (q 2 (by decide) (by decide))
      have q3 := m3.mp (q 3 (by decide) (by decide))
      have q4 := m4.mp (q 4 (by decide) (by decide))
      omega
    · intro q k h1 h2
      rcases (show k = 0 ∨ k = 1 ∨ k = 2 ∨ k = 3 ∨ k = 4 by omega) with h | h | h | h | h <;> subst h
      · exact m0.mpr (by omega)
      · exact m1.mpr (by omega)
      · exact m2.mpr (by omega)
      · exact m3.mpr (by omega)
      · exact m4.mpr (by omega)
