/-! lots and colors -/
/-- the cells of all lots together are those of all colors -/
theorem pLot_sum {wov lot col : Nat → Int32} {c w cnt : Nat} (h : pWo wov lot col c w cnt) (hc : c ≤ 20) (hw : w ≤ 16) (hn : cnt ≤ 16) : zSN (fun l => zCi lot (nI l) c w) cnt = c * w := by
  unfold zCi
  rw [zSN_swap, zSN_cg (g := fun _ => c) fun y hy => ?_, zSN_const]
  unfold zCe
  rw [zSN_ct, zSN_cg (g := fun _ => 1) fun b hb => ?_, zSN_const, Nat.one_mul]
  obtain ⟨e, hj, -⟩ := h.lot hc hw hn hy hb
  rw [e, zCt_one (k := pG lot y b) cnt fun j hj q => (m_eq (by omega) (by omega) (eq_of_beq q)).symm, if_pos ⟨hj, by simp⟩]
theorem pCol_sum {f : Nat → Int32} {c r : Nat} (h : pCa f c r) (hc : c ≤ 20) (hr : r ≤ 16) : zSN (fun v => zCi f (nI v) c r) 8 = c * r := by
  unfold zCi
  rw [zSN_swap, zSN_cg (g := fun _ => c) fun y hy => pCe_sum h hc hr hy, zSN_const]
theorem pNeed_sum {f : Nat → Int32} {c r w : Nat} (h : pCa f c r) (hc : c ≤ 20) (hr : r ≤ 16) (hw : w ≤ r) : zSN (fun v => zUc f (nI v) c w (r - w)) 8 = zSN (fun j => c + zRu f (nI (w + j)) c) (r - w) := by
  unfold zUc
  rw [zSN_swap]
  refine zSN_cg fun j hj => ?_
  unfold zUn
  rw [zSN_add, pCe_sum h hc hr (by omega), pRo_sum h hc hr (by omega)]
/-- what is left of a color -/
def pLe (q n : Nat → Nat) (v cnt : Nat) : Nat := zSN (fun l => if q l = v then n l else 0) cnt
theorem pLf_e {col lef : Nat → Int32} {q n : Nat → Nat} {v cnt : Nat} (hn : cnt ≤ 16) (hv : v < 8) (h : ∀ k, k < cnt → col k = nI (q k) ∧ q k < 8 ∧ lef k = nI (n k)) : zLf col lef (nI v) cnt = nI (pLe q n v cnt) := by
  unfold zLf pLe
  rw [← zSm_nI]
  refine zSm_cg fun k hk => ?_
  obtain ⟨e1, e2, e3⟩ := h k hk
  rw [zAtN_in (by omega) (by decide), zAtN_in (by omega) (by decide), e1, e3]
  by_cases z : q k = v
  · rw [z, if_pos rfl, if_pos rfl]
  · rw [if_neg fun y => z (m_eq (by omega) (by omega) y), if_neg z, nI_0]
theorem pCo_e {col : Nat → Int32} {q : Nat → Nat} {v cnt : Nat} (hn : cnt ≤ 16) (hv : v < 8) (h : ∀ k, k < cnt → col k = nI (q k) ∧ q k < 8) : zCo col (nI v) cnt = zCt (fun l => q l == v) cnt := by
  unfold zCo
  refine zCt_cg fun k hk => ?_
  obtain ⟨e1, e2⟩ := h k hk
  rw [zAtN_in (by omega) (by decide), e1, nI_beq (by omega) (by omega)]
theorem pLe_le {q n : Nat → Nat} {v cnt : Nat} (hn : cnt ≤ 16) (h : ∀ k, k < cnt → n k ≤ 999) : pLe q n v cnt ≤ 16000 := by
  unfold pLe
  refine Nat.le_trans (zSN_mono (g := fun _ => 999) fun k hk => ?_) (by rw [zSN_const]; omega)
  split
  · exact h k hk
  · omega
theorem pCi_le (f : Nat → Int32) (v : Int32) {c w : Nat} (hc : c ≤ 20) (hw : w ≤ 16) : zCi f v c w ≤ 320 := by
  unfold zCi
  refine Nat.le_trans (zSN_mono (g := fun _ => c) fun y _ => zCe_le _ _ _ _) ?_
  rw [zSN_const]
  exact Nat.mul_le_mul hc hw
theorem pUc_le (f : Nat → Int32) (v : Int32) {c a d : Nat} (hc : c ≤ 20) (hd : d ≤ 16) : zUc f v c a d ≤ 640 := by
  unfold zUc zUn
  refine Nat.le_trans (zSN_mono (g := fun _ => 40) fun y _ => ?_) (by rw [zSN_const]; omega)
  have := zCe_le f v (nI (a + y)) c
  have := zRo_le f v (nI (a + y)) c
  omega
theorem pMissing {E L : Nat} (hE : E < 2 ^ 30) (hL : L < 2 ^ 30) : zMx0 (nI E - nI L) = nI (E - L) := by
  unfold zMx0
  by_cases h : L < E
  · rw [pk_sub (by omega), if_pos (by rw [← nI_0]; exact nI_lt (by omega) (by omega))]
  · rw [show E - L = 0 by omega, nI_0]
    by_cases e : E = L
    · subst e; rw [Int32.sub_self]; rfl
    · have := pk_sneg (a := E) (b := L) hL (by omega)
      rw [if_neg (fun z => by exact absurd (Int32.lt_trans z this) (by decide))]
theorem pMissing_0 {E L : Nat} : (E - L = 0) ↔ E ≤ L := by omega
/-- the lot in use has something left -/
theorem pIu {col lef : Nat → Int32} {v : Int32} {l cnt : Nat} {n : Nat → Nat} (hn : cnt ≤ 16) (h : ∀ k, k < cnt → lef k = nI (n k) ∧ n k ≤ 999) (hl : l < 16) : ∀ d a, a + d ≤ cnt → zIu col lef v a d = nI l → 0 < n l
  | 0, a, _, e => absurd e.symm fun q => nI_m1 (by omega) q
  | d + 1, a, hd, e => by
    unfold zIu at e
    split at e
    · rename_i q
      have := m_eq (by omega) (by omega) e
      subst this
      have q2 := q.2
      rw [zAtN_in (by omega) (by decide), (h a (by omega)).1] at q2
      exact m_z_gt_t (by have := (h a (by omega)).2; omega) q2
    · exact pIu hn h hl d (a + 1) (by omega) e
/-- how many rows the yarn allows -/
theorem pRy_all {cart : Nat → Int32} {v : Int32} {c : Nat} (hc : c ≤ 20) : ∀ d a L, a + d ≤ 16 → L < 2 ^ 20 → (zUc cart v c a d ≤ L → zRy cart v c a d (nI L) = d) ∧ (L < zUc cart v c a d → zRy cart v c a d (nI L) < d)
  | 0, a, L, _, _ => ⟨fun _ => rfl, fun h => absurd h (by show ¬ _ < 0; omega)⟩
  | d + 1, a, L, hd, hL => by
    have hu : zUc cart v c a (d + 1) = zUn cart v c a + zUc cart v c (a + 1) d := by
      unfold zUc
      rw [zSN_first]
      refine congrArg _ (zSN_cg fun j _ => ?_)
      rw [Nat.add_assoc, Nat.add_comm 1 j]
    have hn : zUn cart v c a ≤ 40 := by
      unfold zUn
      have := zCe_le cart v (nI a) c
      have := zRo_le cart v (nI a) c
      omega
    rw [hu]
    unfold zRy
    by_cases q : zUn cart v c a ≤ L
    · rw [pk_sub q, if_neg (nI_pos (by omega))]
      obtain ⟨h1, h2⟩ := pRy_all (cart := cart) (v := v) hc d (a + 1) (L - zUn cart v c a) (by omega) (by omega)
      exact ⟨fun z => by rw [h1 (by omega)], fun z => by have := h2 (by omega); omega⟩
    · rw [if_pos (pk_sneg (by omega) (by omega))]
      exact ⟨fun z => by omega, fun _ => by omega⟩
theorem zPr_min {f : Nat → Nat} {m : Nat} : ∀ n, (∀ v, v < n → f v = m) → zPr f n m = m
  | 0, _ => rfl
  | n + 1, h => by
    unfold zPr
    rw [zPr_min n fun v hv => h v (by omega), h n (by omega), Nat.min_self]
theorem zPr_lt {f : Nat → Nat} {m v : Nat} (hf : f v < m) : ∀ {n}, v < n → zPr f n m < m
  | 0, h => absurd h (by omega)
  | n + 1, h => by
    unfold zPr
    by_cases q : v = n
    · subst q; exact Nat.lt_of_le_of_lt (Nat.min_le_right _ _) hf
    · exact Nat.lt_of_le_of_lt (Nat.min_le_left _ _) (zPr_lt hf (by omega))
theorem zSN_z0 {f : Nat → Nat} : ∀ {n}, (zSN f n = 0 ↔ ∀ k, k < n → f k = 0)
  | 0 => ⟨fun _ k hk => absurd hk (by omega), fun _ => rfl⟩
  | n + 1 => by
    have ih := zSN_z0 (f := f) (n := n)
    show zSN f n + f n = 0 ↔ _
    constructor
    · intro h k hk
      by_cases q : k = n
      · subst q; omega
      · exact ih.mp (by omega) k (by omega)
    · intro h
      rw [ih.mpr fun k hk => h k (by omega), h n (by omega)]
theorem pPos {cart col lef : Nat → Int32} {q n : Nat → Nat} {c r w cnt : Nat} (hc : c ≤ 20) (hr : r ≤ 16) (hw : w ≤ r) (hn : cnt ≤ 16) (h : ∀ k, k < cnt → col k = nI (q k) ∧ q k < 8 ∧ lef k = nI (n k) ∧ n k ≤ 999) :
    (zSN (fun v => zUc cart (nI v) c w (r - w) - pLe q n v cnt) 8 = 0 → zPr (zRyF cart col lef c r w cnt) 8 (r - w) = r - w) ∧ (¬ zSN (fun v => zUc cart (nI v) c w (r - w) - pLe q n v cnt) 8 = 0 → zPr (zRyF cart col lef c r w cnt) 8 (r - w) < r - w) := by
  have hL : ∀ v, pLe q n v cnt ≤ 16000 := fun v => pLe_le hn fun k hk => (h k hk).2.2.2
  have hR : ∀ v, v < 8 → zRyF cart col lef c r w cnt v = zRy cart (nI v) c w (r - w) (nI (pLe q n v cnt)) := fun v hv => by
    unfold zRyF
    rw [pLf_e hn hv fun k hk => ⟨(h k hk).1, (h k hk).2.1, (h k hk).2.2.1⟩]
  constructor
  · intro z
    rw [zSN_z0] at z
    refine zPr_min 8 fun v hv => ?_
    rw [hR v hv]
    exact (pRy_all hc (r - w) w _ (by omega) (by have := hL v; omega)).1 (by have := z v hv; omega)
  · intro z
    have : ∃ v, v < 8 ∧ pLe q n v cnt < zUc cart (nI v) c w (r - w) := by
      refine Classical.byContradiction fun k => z (zSN_z0.mpr fun v hv => ?_)
      have : ¬ pLe q n v cnt < zUc cart (nI v) c w (r - w) := fun y => k ⟨v, hv, y⟩
      omega
    obtain ⟨v, hv, hlt⟩ := this
    refine zPr_lt (v := v) ?_ hv
    rw [hR v hv]
    exact (pRy_all hc (r - w) w _ (by omega) (by have := hL v; omega)).2 hlt
