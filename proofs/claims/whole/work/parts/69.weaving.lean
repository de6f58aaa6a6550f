/-! weaving -/
def zWs8 (col lef s : Nat → Int32) (n : Nat → Nat) : Prop := ∀ k, k < 16 → col k = s (7 + 4 * k) ∧ lef k = nI (n k) ∧ s (7 + 4 * k + 2) = nI (n k) ∧ n k ≤ 999
def zYl (n : Nat → Nat) (col : Nat → Int32) (v : Int32) (cnt : Nat) : Nat := zSN (fun k => if col k = v then n k else 0) cnt
theorem zYl_pos {n : Nat → Nat} {col : Nat → Int32} {v : Int32} : ∀ {cnt : Nat}, 0 < zYl n col v cnt → ∃ k, k < cnt ∧ col k = v ∧ 0 < n k
  | 0, h => absurd h (by show ¬ 0 < 0; omega)
  | cnt + 1, h => by
    have h2 : 0 < zYl n col v cnt + (if col cnt = v then n cnt else 0) := h
    by_cases q : col cnt = v ∧ 0 < n cnt
    · exact ⟨cnt, by omega, q.1, q.2⟩
    · have e : (if col cnt = v then n cnt else 0) = 0 := by
        by_cases z : col cnt = v
        · rw [if_pos z]
          exact Nat.eq_zero_of_not_pos fun k => q ⟨z, k⟩
        · rw [if_neg z]
      rw [e, Nat.add_zero] at h2
      obtain ⟨k, k1, k2⟩ := zYl_pos h2
      exact ⟨k, by omega, k2⟩
theorem k_first {s : Nat → Int32} {n : Nat → Nat} {v : Int32} {col lef : Nat → Int32} (h : zWs8 col lef s n) : ∀ (d a : Nat), a + d ≤ 16 → (∃ k, a ≤ k ∧ k < a + d ∧ col k = v ∧ 0 < n k) → ∃ k, a ≤ k ∧ k < a + d ∧ col k = v ∧ 0 < n k ∧ rIu s v a d = nI k ∧ zIu col lef v a d = nI k
  | 0, _, _, ⟨_, h1, h2, _⟩ => absurd h1 (by omega)
  | d + 1, a, hd, ⟨k, h1, h2, h3, h4⟩ => by
    obtain ⟨c1, c2, c3, c4⟩ := h a (by omega)
    have e1 : rIu s v a (d + 1) = if s (7 + 4 * a) = v ∧ 0 < s (7 + 4 * a + 2) then nI a else rIu s v (a + 1) d := rfl
    have e2 : zIu col lef v a (d + 1) = if zAtN 16 col (nI a) = v ∧ 0 < zAtN 16 lef (nI a) then nI a else zIu col lef v (a + 1) d := rfl
    rw [e1, e2, zAtN_in (by omega) (by decide), zAtN_in (by omega) (by decide), ← c1, c3, c2]
    by_cases q : col a = v ∧ 0 < n a
    · have q2 : col a = v ∧ 0 < nI (n a) := ⟨q.1, by rw [← nI_0]; exact nI_lt q.2 (by omega)⟩
      rw [if_pos q2, if_pos q2]
      exact ⟨a, by omega, by omega, q.1, q.2, rfl, rfl⟩
    · have q2 : ¬ (col a = v ∧ 0 < nI (n a)) := fun z => q ⟨z.1, m_z_gt_t (by omega) z.2⟩
      rw [if_neg q2, if_neg q2]
      have hne : ¬ k = a := fun z => q ⟨z ▸ h3, z ▸ h4⟩
      obtain ⟨k', p1, p2, p3⟩ := k_first h d (a + 1) (by omega) ⟨k, by omega, by omega, h3, h4⟩
      exact ⟨k', by omega, by omega, p3⟩
theorem zYl_dec {n n' : Nat → Nat} {col : Nat → Int32} {v v' : Int32} {k : Nat} (hk : col k = v) (h1 : n' k + 1 = n k) (h2 : ∀ j, ¬ j = k → n' j = n j) : ∀ cnt : Nat, zYl n' col v' cnt + (if k < cnt ∧ v' = v then 1 else 0) = zYl n col v' cnt
  | 0 => by rw [if_neg (by omega)]; rfl
  | cnt + 1 => by
    have ih := zYl_dec (v' := v') hk h1 h2 cnt
    show zYl n' col v' cnt + (if col cnt = v' then n' cnt else 0) + _ = zYl n col v' cnt + (if col cnt = v' then n cnt else 0)
    by_cases q : cnt = k
    · subst q
      rw [if_neg (by omega : ¬ (cnt < cnt ∧ v' = v))] at ih
      by_cases z : v' = v
      · subst z
        rw [if_pos hk, if_pos hk, if_pos (⟨Nat.lt_succ_self _, rfl⟩ : cnt < cnt + 1 ∧ v' = v')]
        omega
      · have c1 : ¬ col cnt = v' := fun y => z (by rw [← y, hk])
        rw [if_neg c1, if_neg c1, if_neg (show ¬ (cnt < cnt + 1 ∧ v' = v) from fun y => z y.2)]
        omega
    · rw [h2 cnt q]
      by_cases z : k < cnt ∧ v' = v
      · rw [if_pos z] at ih
        rw [if_pos (show k < cnt + 1 ∧ v' = v from ⟨by omega, z.2⟩)]
        omega
      · rw [if_neg z] at ih
        rw [if_neg (show ¬ (k < cnt + 1 ∧ v' = v) from fun y => z ⟨by omega, y.2⟩)]
        omega
/-- a unit is taken on both sides -/
theorem k_take {col lef s : Nat → Int32} {n : Nat → Nat} {v : Int32} {cnt : Nat} (h : zWs8 col lef s n) (hn : cnt ≤ 16) (hU : 0 < zYl n col v cnt) : ∃ k n', k < cnt ∧ rIu s v 0 cnt = nI k ∧ zIu col lef v 0 cnt = nI k ∧ rTk s v cnt = upd s (7 + 4 * k + 2) (nI (n' k)) ∧ zTk col lef v cnt = upd lef k (nI (n' k)) ∧ zWs8 col (upd lef k (nI (n' k))) (upd s (7 + 4 * k + 2) (nI (n' k))) n' ∧ n' k + 1 = n k ∧ (∀ j, ¬ j = k → n' j = n j) ∧ ∀ v', zYl n' col v' cnt + (if v' = v then 1 else 0) = zYl n col v' cnt := by
  obtain ⟨k0, q1, q2, q3⟩ := zYl_pos hU
  obtain ⟨k, p1, p2, p3, p4, p5, p6⟩ := k_first (v := v) h cnt 0 (by omega) ⟨k0, by omega, by omega, q2, q3⟩
  have hk : k < cnt := by omega
  obtain ⟨c1, c2, c3, c4⟩ := h k (by omega)
  refine ⟨k, fun j => if j = k then n k - 1 else n j, hk, p5, p6, ?_, ?_, ?_, ?_, ?_, ?_⟩
  · unfold rTk
    rw [p5, rIx_n (by omega), c3, pk_sub (by omega)]
    show _ = upd s _ (nI (if k = k then n k - 1 else n k))
    rw [if_pos rfl]
  · unfold zTk
    rw [p6, zAtN_in (by omega) (by decide), zPutN_n (by omega) (by decide), c2, ← nI_one, pk_sub (by omega)]
    show _ = upd lef _ (nI (if k = k then n k - 1 else n k))
    rw [if_pos rfl]
  · intro j hj
    obtain ⟨d1, d2, d3, d4⟩ := h j hj
    show _ ∧ _ = nI (if j = k then n k - 1 else n j) ∧ _ = nI (if j = k then n k - 1 else n j) ∧ (if j = k then n k - 1 else n j) ≤ 999
    by_cases q : j = k
    · subst q
      rw [upd_ne (by omega), upd_eq, upd_eq, if_pos rfl]
      show _ ∧ nI (if j = j then n j - 1 else n j) = _ ∧ nI (if j = j then n j - 1 else n j) = _ ∧ _
      rw [if_pos rfl]
      exact ⟨d1, rfl, rfl, by omega⟩
    · rw [upd_ne (by omega), upd_ne q, upd_ne (by omega), if_neg q]
      exact ⟨d1, d2, d3, d4⟩
  · show (if k = k then n k - 1 else n k) + 1 = n k
    rw [if_pos rfl]
    omega
  · intro j hj
    exact if_neg hj
  · intro v'
    have := zYl_dec (n' := fun j => if j = k then n k - 1 else n j) (n := n) (v' := v') p3 (by
      show (if k = k then n k - 1 else n k) + 1 = n k
      rw [if_pos rfl]
      omega) (fun j hj => if_neg hj) cnt
    rw [← this]
    by_cases z : v' = v
    · rw [if_pos z, if_pos ⟨hk, z⟩]
    · rw [if_neg z, if_neg (fun y => z y.2)]
theorem zWs8.off {col lef s : Nat → Int32} {n : Nat → Nat} (h : zWs8 col lef s n) {j : Nat} {x : Int32} (hj : 71 ≤ j) : zWs8 col lef (upd s j x) n := fun k hk => by
  rw [upd_ne (by omega), upd_ne (by omega)]
  exact h k hk
/-- one cell -/
theorem k_cell {wv col lf lo t L : Nat → Int32} {n : Nat → Nat} {w cnt b v : Nat} (h : zWs8 col lf t n) (hn : cnt ≤ 16) (hb : b < 20) (hw : w < 16) (hv : v < 8) (hL : L b = nI v) (ha : zAt wv (nI b) (nI w) = nI v) (hs : zSt wv (nI b) (nI w) = rBeg L b) (hU : (if rBeg L b then 1 else 0) + 1 ≤ zYl n col (nI v) cnt) : ∃ n' lf' k, k < cnt ∧ zWkB wv col w cnt b (lf, lo) = (lf', upd lo (20 * w + b) (nI k)) ∧ zWs8 col lf' (rWst L w cnt b t) n' ∧ (∀ j, n' j + (if j = k then 1 else 0) ≤ n j) ∧ (∀ v', v' < 8 → zYl n' col (nI v') cnt + (if v' = v then (if rBeg L b then 1 else 0) + 1 else 0) = zYl n col (nI v') cnt) ∧ rWst L w cnt b t (411 + 20 * w + b) = nI v ∧ rWst L w cnt b t (731 + 20 * w + b) = nI k ∧ rWst L w cnt b t (71 + b) = -1 ∧ ∀ j, (∀ i, i < 16 → ¬ j = 7 + 4 * i + 2) → ¬ j = 411 + 20 * w + b → ¬ j = 731 + 20 * w + b → ¬ j = 71 + b → rWst L w cnt b t j = t j := by
  have vv : ∀ v', v' < 8 → (nI v' = nI v ↔ v' = v) := fun v' hv' => ⟨fun z => m_eq (by omega) (by omega) z, fun z => by rw [z]⟩
  unfold zWkB rWst
  rw [ha, hs, hL]
  cases hbg : rBeg L b with
  | true =>
    rw [hbg, if_pos rfl] at hU
    obtain ⟨k1, n1, a1, a2, a3, a4, a5, a6, a7, a8, a9⟩ := k_take (v := nI v) h hn (by omega)
    have u1 := a9 (nI v)
    rw [if_pos rfl] at u1
    have g6 := a6.off (j := 411 + 20 * w + b) (x := nI v) (by omega)
    obtain ⟨k2, n2, b1, b2, b3, b4, b5, b6, b7, b8, b9⟩ := k_take (v := nI v) g6 hn (by omega)
    simp only [if_true]
    rw [a2, if_neg (nI_pos (by omega)), a4, a5, b2, b3, b4, b5, zPutG_n hb hw]
    refine ⟨n2, _, k2, b1, rfl, (b6.off (by omega)).off (by omega), fun j => ?_, fun v' hv' => ?_, ?_, ?_, upd_eq, fun j j1 j2 j3 j4 => ?_⟩
    · have x1 : n1 j ≤ n j := by
        by_cases z : j = k1
        · rw [z]; omega
        · rw [a8 j z]; exact Nat.le_refl _
      by_cases z : j = k2
      · rw [if_pos z, z] 
        rw [z] at x1
        omega
      · rw [if_neg z, b8 j z]
        omega
    · have x1 := a9 (nI v')
      have x2 := b9 (nI v')
      simp only [vv v' hv'] at x1 x2
      by_cases z : v' = v
      · rw [if_pos z] at x1 x2 ⊢
        omega
      · rw [if_neg z] at x1 x2 ⊢
        omega
    · rw [upd_ne (by omega), upd_ne (by omega), upd_ne (by omega), upd_eq]
    · rw [upd_ne (by omega), upd_eq]
    · rw [upd_ne j4, upd_ne j3, upd_ne (j1 k2 (by omega)), upd_ne j2, upd_ne (j1 k1 (by omega))]
  | false =>
    rw [hbg, if_neg (by decide)] at hU
    have g6 := h.off (j := 411 + 20 * w + b) (x := nI v) (by omega)
    obtain ⟨k2, n2, b1, b2, b3, b4, b5, b6, b7, b8, b9⟩ := k_take (v := nI v) g6 hn (by omega)
    simp only [if_false, Bool.false_eq_true]
    rw [b2, b3, b4, b5, zPutG_n hb hw]
    refine ⟨n2, _, k2, b1, rfl, (b6.off (by omega)).off (by omega), fun j => ?_, fun v' hv' => ?_, ?_, ?_, upd_eq, fun j j1 j2 j3 j4 => ?_⟩
    · by_cases z : j = k2
      · rw [if_pos z, z]
        omega
      · rw [if_neg z, b8 j z]
        omega
    · have x2 := b9 (nI v')
      simp only [vv v' hv'] at x2
      by_cases z : v' = v
      · rw [if_pos z] at x2 ⊢
        omega
      · rw [if_neg z] at x2 ⊢
        omega
    · rw [upd_ne (by omega), upd_ne (by omega), upd_ne (by omega), upd_eq]
    · rw [upd_ne (by omega), upd_eq]
    · rw [upd_ne j4, upd_ne j3, upd_ne (j1 k2 (by omega)), upd_ne j2]
/-- a row's cells -/
def zIb (col lef0 lot s L : Nat → Int32) (c w cnt b : Nat) (P : (Nat → Int32) × (Nat → Int32)) (t : Nat → Int32) (n0 n : Nat → Nat) : Prop :=
  zWs8 col P.1 t n ∧ (∀ v, v < 8 → zC2 (fun b => L b == nI v) b (c - b) + zC2 (fun b => L b == nI v && rBeg L b) b (c - b) ≤ zYl n col (nI v) cnt) ∧
  (∀ k, k < 16 → n k + zCt (fun b => t (731 + 20 * w + b) == nI k) b ≤ n0 k) ∧
  (∀ b', b' < b → t (411 + 20 * w + b') = L b' ∧ P.2 (20 * w + b') = t (731 + 20 * w + b') ∧ (∃ j, j < cnt ∧ t (731 + 20 * w + b') = nI j) ∧ t (71 + b') = -1) ∧
  (∀ j, (∀ i, i < 16 → ¬ j = 7 + 4 * i + 2) → ¬ (411 + 20 * w ≤ j ∧ j < 411 + 20 * w + b) → ¬ (731 + 20 * w ≤ j ∧ j < 731 + 20 * w + b) → ¬ (71 ≤ j ∧ j < 71 + b) → t j = s j) ∧
  (∀ j, ¬ (20 * w ≤ j ∧ j < 20 * w + b) → P.2 j = lot j)
theorem k_cells {wv col lef lot s L : Nat → Int32} {n0 : Nat → Nat} {c w cnt : Nat} (hc : c ≤ 20) (hw : w < 16) (hn : cnt ≤ 16) (h : zWs8 col lef s n0) (hR : zRL wv w c L) (hv : ∀ b, b < c → ∃ v, v < 8 ∧ L b = nI v) (hU : ∀ v, v < 8 → zCt (fun b => L b == nI v) c + zCt (fun b => L b == nI v && rBeg L b) c ≤ zYl n0 col (nI v) cnt) : ∀ b : Nat, b ≤ c → ∃ n, zIb col lef lot s L c w cnt b (zIt (zWkB wv col w cnt) b (lef, lot)) (zIt (rWst L w cnt) b s) n0 n
  | 0, _ => ⟨n0, h, fun v hv => by rw [Nat.sub_zero, ← zC2_0, ← zC2_0]; exact hU v hv, fun k _ => Nat.le_refl _, fun b' hb => absurd hb (by omega), fun j _ _ _ _ => rfl, fun j _ => rfl⟩
  | b + 1, hb => by
    obtain ⟨n, i1, i2, i3, i4, i5, i6⟩ := k_cells (lot := lot) hc hw hn h hR hv hU b (by omega)
    obtain ⟨v, v8, hLb⟩ := hv b (by omega)
    show ∃ n, zIb col lef lot s L c w cnt (b + 1) (zWkB wv col w cnt b (zIt (zWkB wv col w cnt) b (lef, lot))) (rWst L w cnt b (zIt (rWst L w cnt) b s)) n0 n
    generalize zIt (zWkB wv col w cnt) b (lef, lot) = P at i1 i2 i3 i4 i5 i6 ⊢
    generalize zIt (rWst L w cnt) b s = t at i1 i2 i3 i4 i5 i6 ⊢
    obtain ⟨lf, lo⟩ := P
    have hcb : c - b = (c - (b + 1)) + 1 := by omega
    have st : ∀ p : Nat → Bool, zC2 p b (c - b) = (if p b then 1 else 0) + zC2 p (b + 1) (c - (b + 1)) := fun p => by rw [hcb]; rfl
    have need : (if rBeg L b then 1 else 0) + 1 ≤ zYl n col (nI v) cnt := by
      have q := i2 v v8
      rw [st, st, hLb, beq_self_eq_true, if_pos rfl, Bool.true_and] at q
      omega
    obtain ⟨n', lf', k, k1, k2, k3, k4, k5, k6, k7, k8, k9⟩ := k_cell (lo := lo) (L := L) i1 hn (by omega : b < 20) hw v8 hLb (by rw [hR.at (by omega), hLb]) (hR.st (by omega)) need
    rw [k2]
    refine ⟨n', k3, fun v' hv' => ?_, fun j hj => ?_, fun b' hb' => ?_, fun j j1 j2 j3 j4 => ?_, fun j hj => ?_⟩
    · have q := i2 v' hv'
      rw [st, st, hLb, ← k5 v' hv'] at q
      by_cases z : v' = v
      · subst z
        rw [beq_self_eq_true, if_pos rfl, Bool.true_and, if_pos rfl] at q
        omega
      · rw [beq_eq_false_iff_ne.mpr (fun y => z (m_eq (by omega) (by omega) y).symm), Bool.false_and, if_neg z, if_neg (by decide)] at q
        omega
    · have q := i3 j hj
      have q2 := k4 j
      have e : zCt (fun b => rWst L w cnt b t (731 + 20 * w + b) == nI j) 0 = 0 := rfl
      have ec : zCt (fun b' => rWst L w cnt b t (731 + 20 * w + b') == nI j) b = zCt (fun b' => t (731 + 20 * w + b') == nI j) b := zCt_cg fun b' hb' => by
        rw [k9 _ (fun i hi => by omega) (by omega) (by omega) (by omega)]
      show n' j + (zCt (fun b' => rWst L w cnt b t (731 + 20 * w + b') == nI j) b + (if rWst L w cnt b t (731 + 20 * w + b) == nI j then 1 else 0)) ≤ n0 j
      rw [ec, k7]
      by_cases z : j = k
      · rw [if_pos z] at q2
        rw [z, beq_self_eq_true, if_pos rfl]
        rw [z] at q q2
        omega
      · rw [if_neg z] at q2
        rw [beq_eq_false_iff_ne.mpr (fun y => z (m_eq (by omega) (by omega) y).symm), if_neg (by decide)]
        omega
    · by_cases z : b' = b
      · subst z
        rw [k6, k7, k8, hLb]
        exact ⟨rfl, upd_eq, ⟨k, k1, rfl⟩, rfl⟩
      · obtain ⟨q1, q2, q3, q4⟩ := i4 b' (by omega)
        rw [k9 _ (fun i hi => by omega) (by omega) (by omega) (by omega), k9 _ (fun i hi => by omega) (by omega) (by omega) (by omega), k9 _ (fun i hi => by omega) (by omega) (by omega) (by omega)]
        refine ⟨q1, ?_, q3, q4⟩
        show upd lo (20 * w + b) (nI k) (20 * w + b') = _
        rw [upd_ne (by omega)]
        exact q2
    · rw [k9 j j1 (by omega) (by omega) (by omega)]
      exact i5 j j1 (by omega) (by omega) (by omega)
    · show upd lo (20 * w + b) (nI k) j = _
      rw [upd_ne (by omega)]
      exact i6 j (by omega)
