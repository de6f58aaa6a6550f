/-! what holds of a loom between two calls (pCa: the cartoon's colors, pWo: woven cells, pLt: lots, pMi: mistakes, pSe: sewn slits) -/
def pCa (f : Nat → Int32) (c r : Nat) : Prop := ∀ y b, y < r → b < c → ∃ v, v < 8 ∧ f (20 * y + b) = nI v
def pWo (wov lot col : Nat → Int32) (c w cnt : Nat) : Prop := ∀ y b, y < w → b < c → ∃ v j, v < 8 ∧ j < cnt ∧ wov (20 * y + b) = nI v ∧ lot (20 * y + b) = nI j ∧ col j = nI v
def pLt (col len lef lot : Nat → Int32) (c w cnt : Nat) : Prop := ∃ n m : Nat → Nat, ∀ k, k < cnt → (∃ v, v < 8 ∧ col k = nI v) ∧ lef k = nI (n k) ∧ len k = nI (m k) ∧ m k ≤ 999 ∧ n k + zCi lot (nI k) c w ≤ m k
def pMi (mis : Nat → Int32) (c : Nat) : Prop := ∀ b, b < 20 → mis b = -1 ∨ (b < c ∧ ∃ v, v < 8 ∧ mis b = nI v)
def pSe (wov sew : Nat → Int32) (c w lim : Nat) : Prop := ∀ b y, b < 20 → y < 16 → sew (20 * y + b) = 0 ∨ (sew (20 * y + b) = 1 ∧ b < c ∧ y < w ∧ lim < zRl wov c w (nI b) y)
def pDm (c r w lim : Nat) (tol : Int32) (cnt : Nat) : Prop := 1 ≤ c ∧ c ≤ 20 ∧ 1 ≤ r ∧ r ≤ 16 ∧ w ≤ r ∧ 1 ≤ lim ∧ lim ≤ 16 ∧ cnt ≤ 16 ∧ tol = 1073741824
def pIv (c r w lim : Nat) (tol : Int32) (cart wov lot sew mis : Nat → Int32) (cnt : Nat) (col len lef sbt : Nat → Int32) (shd : Nat → UInt32) : Prop :=
  pDm c r w lim tol cnt ∧ pCa cart c r ∧ pWo wov lot col c w cnt ∧ pLt col len lef lot c w cnt ∧ pMi mis c ∧ pSe wov sew c w lim ∧ ∀ j, zFinS (shd j)
/-- a grid's number at row y, back column b -/
def pG (f : Nat → Int32) (y b : Nat) : Nat := (f (20 * y + b)).toNatClampNeg
theorem pG_of {f : Nat → Int32} {y b v : Nat} (h : f (20 * y + b) = nI v) (hv : v < 2 ^ 31) : pG f y b = v := by unfold pG; rw [h, nI_clamp hv]
theorem pCa.at {f : Nat → Int32} {c r y b : Nat} (h : pCa f c r) (hc : c ≤ 20) (hr : r ≤ 16) (hy : y < r) (hb : b < c) : zAt f (nI b) (nI y) = nI (pG f y b) ∧ pG f y b < 8 := by
  obtain ⟨v, hv, e⟩ := h y b hy hb
  rw [zAt_n (by omega) (by omega), e, pG_of e (by omega)]
  exact ⟨rfl, hv⟩
theorem pWo.ca {wov lot col : Nat → Int32} {c w cnt : Nat} (h : pWo wov lot col c w cnt) : pCa wov c w := fun y b hy hb => by
  obtain ⟨v, j, h1, -, h2, -⟩ := h y b hy hb
  exact ⟨v, h1, h2⟩
theorem pWo.lot {wov lot col : Nat → Int32} {c w cnt y b : Nat} (h : pWo wov lot col c w cnt) (hc : c ≤ 20) (hw : w ≤ 16) (hn : cnt ≤ 16) (hy : y < w) (hb : b < c) : zAt lot (nI b) (nI y) = nI (pG lot y b) ∧ pG lot y b < cnt ∧ col (pG lot y b) = nI (pG wov y b) := by
  obtain ⟨v, j, h1, h2, h3, h4, h5⟩ := h y b hy hb
  rw [zAt_n (by omega) (by omega), h4, pG_of h4 (by omega), pG_of h3 (by omega)]
  exact ⟨rfl, h2, h5⟩
theorem nI_beq {a b : Nat} (ha : a < 2 ^ 31) (hb : b < 2 ^ 31) : (nI a == nI b) = (a == b) := by
  by_cases h : a = b
  · subst h; simp
  · have : ¬ nI a = nI b := fun q => h (m_eq ha hb q)
    rw [beq_eq_false_iff_ne.mpr this, beq_eq_false_iff_ne.mpr h]
theorem zCt_rev (p : Nat → Bool) (c : Nat) : ∀ n, n ≤ c → zCt (fun x => p (c - 1 - x)) n + zCt p (c - n) = zCt p c
  | 0, _ => by show 0 + _ = _; rw [Nat.zero_add]; rfl
  | n + 1, h => by
    have ih := zCt_rev p c n (by omega)
    have e : c - n = (c - (n + 1)) + 1 := by omega
    rw [e] at ih
    show zCt _ n + (if p (c - 1 - n) then 1 else 0) + _ = _
    have e2 : c - 1 - n = c - (n + 1) := by omega
    rw [e2, ← ih]
    show _ = zCt _ n + (zCt p (c - (n + 1)) + (if p (c - (n + 1)) then 1 else 0))
    omega
theorem zCt_re (p : Nat → Bool) (c : Nat) : zCt (fun x => p (c - 1 - x)) c = zCt p c := by
  have := zCt_rev p c c (Nat.le_refl _)
  rw [Nat.sub_self] at this
  exact this
theorem zCt_mono {p q : Nat → Bool} : ∀ {n : Nat}, (∀ k, k < n → p k = true → q k = true) → zCt p n ≤ zCt q n
  | 0, _ => Nat.le_refl _
  | n + 1, h => by
    have ih := zCt_mono (n := n) fun k hk => h k (by omega)
    have h1 := h n (by omega)
    show zCt p n + (if p n then 1 else 0) ≤ zCt q n + (if q n then 1 else 0)
    cases hp : p n
    · simp; omega
    · rw [h1 hp]; simp; exact ih
/-- wrong cells of a row, from the front's column 0 on -/
def pOw (cart wov : Nat → Int32) (c y : Nat) : Nat → Nat := zCt (fun x => !(pG wov y (c - 1 - x) == pG cart y (c - 1 - x)))
theorem pOw_e {cart wov : Nat → Int32} {c r w y : Nat} (hC : pCa cart c r) (hW : pCa wov c w) (hc : c ≤ 20) (hr : r ≤ 16) (hw : w ≤ r) (hy : y < w) : zWc9 wov cart (nI y) c = pOw cart wov c y c := by
  unfold zWc9 pOw
  rw [zCt_re (fun b => !(pG wov y b == pG cart y b)) c]
  refine zCt_cg fun b hb => ?_
  unfold zWr
  rw [(hW.at hc (by omega) hy hb).1, (hC.at hc hr (show y < r by omega) hb).1, nI_beq (by have := (hW.at hc (by omega) hy hb).2; omega) (by have := (hC.at hc hr (show y < r by omega) hb).2; omega)]
theorem pNs_le (wov : Nat → Int32) (y : Int32) (c : Nat) : zNs wov y c ≤ zRu wov y c := zCt_mono fun k _ h => by
  rw [Bool.and_eq_true] at h
  exact h.1
theorem pNr_0 {wov : Nat → Int32} {v : Nat} (hv : v < 8) : ∀ (d a : Nat), a + d ≤ 20 → zNr wov (nI 0) (nI v) a d = true
  | 0, _, _ => rfl
  | d + 1, a, h => by
    unfold zNr
    rw [zAt_ym (by omega)]
    by_cases q : zAt wov (nI a) (nI 0) = nI v
    · rw [if_pos q, if_neg (fun k => nI_m1 (by omega) k.symm)]
      exact pNr_0 hv d (a + 1) (by omega)
    · rw [if_neg q]
theorem pNs_0 {wov : Nat → Int32} {c w : Nat} (hW : pCa wov c w) (hc : c ≤ 20) (hw : w ≤ 16) (h0 : 0 < w) : zNs wov (nI 0) c = zRu wov (nI 0) c := by
  unfold zNs zRu
  refine zCt_cg fun b hb => ?_
  obtain ⟨e, h⟩ := hW.at hc hw h0 hb
  rw [e, pNr_0 h _ _ (by omega), Bool.and_true]
theorem zSN_ct (p : Nat → Nat → Bool) (c : Nat) (n : Nat) : zSN (fun v => zCt (p v) c) n = zSN (fun b => zCt (fun v => p v b) n) c := by
  have e : zSN (fun v => zCt (p v) c) n = zSN (fun v => zSN (fun b => if p v b then 1 else 0) c) n := zSN_cg fun v _ => zCt_SN _ _
  rw [e, zSN_swap]
  exact zSN_cg fun b _ => (zCt_SN _ _).symm
theorem zCt_one {p : Nat → Bool} {k : Nat} : ∀ n, (∀ j, j < n → p j = true → j = k) → zCt p n = if k < n ∧ p k = true then 1 else 0
  | 0, _ => by rw [if_neg (by omega)]; rfl
  | n + 1, h => by
    show zCt p n + (if p n then 1 else 0) = _
    rw [zCt_one n fun j hj => h j (by omega)]
    by_cases q : n = k
    · subst q
      cases hp : p n <;> simp
    · have e : p n = false := by
        cases hp : p n
        · rfl
        · exact absurd (h n (by omega) hp) q
      rw [e]
      by_cases q2 : k < n ∧ p k = true
      · rw [if_pos q2, if_neg Bool.false_ne_true, if_pos ⟨by omega, q2.2⟩]
      · rw [if_neg q2, if_neg Bool.false_ne_true, if_neg fun z => q2 ⟨by omega, z.2⟩]
theorem zSN_const (a : Nat) : ∀ n, zSN (fun _ => a) n = a * n
  | 0 => rfl
  | n + 1 => by show zSN _ n + a = _; rw [zSN_const a n, Nat.mul_succ]
theorem zSN_mono {f g : Nat → Nat} : ∀ {n : Nat}, (∀ k, k < n → f k ≤ g k) → zSN f n ≤ zSN g n
  | 0, _ => Nat.le_refl _
  | n + 1, h => Nat.add_le_add (zSN_mono (n := n) fun k hk => h k (by omega)) (h n (by omega))
theorem zSN_ge {f : Nat → Nat} {k : Nat} : ∀ {n : Nat}, k < n → f k ≤ zSN f n
  | 0, h => absurd h (by omega)
  | n + 1, h => by
    show f k ≤ zSN f n + f n
    by_cases q : k = n
    · subst q; omega
    · have := zSN_ge (f := f) (n := n) (show k < n by omega); omega
theorem zCt_ge {p : Nat → Bool} {k n : Nat} (hk : k < n) (h : p k = true) : 1 ≤ zCt p n := by
  rw [zCt_SN]
  have := zSN_ge (f := fun y => if p y then 1 else 0) hk
  simp only [h, if_true] at this
  exact this
/-- every cell has one of the eight colors -/
theorem pCe_sum {f : Nat → Int32} {c r y : Nat} (h : pCa f c r) (hc : c ≤ 20) (hr : r ≤ 16) (hy : y < r) : zSN (fun v => zCe f (nI v) (nI y) c) 8 = c := by
  unfold zCe
  rw [zSN_ct]
  rw [zSN_cg (g := fun _ => 1) fun b hb => ?_, zSN_const, Nat.one_mul]
  obtain ⟨e, hv⟩ := h.at hc hr hy hb
  rw [e, zCt_one (k := pG f y b) 8 fun j hj q => (m_eq (by omega) (by omega) (eq_of_beq q)).symm, if_pos ⟨hv, by simp⟩]
theorem pRo_sum {f : Nat → Int32} {c r y : Nat} (h : pCa f c r) (hc : c ≤ 20) (hr : r ≤ 16) (hy : y < r) : zSN (fun v => zRo f (nI v) (nI y) c) 8 = zRu f (nI y) c := by
  unfold zRo zRu
  rw [zSN_ct, zCt_SN (fun b => zSt f (nI b) (nI y))]
  refine zSN_cg fun b hb => ?_
  obtain ⟨e, hv⟩ := h.at hc hr hy hb
  unfold zSt
  rw [e, zCt_one (k := pG f y b) 8 fun j hj q => (m_eq (by omega) (by omega) (eq_of_beq (by rw [Bool.and_eq_true] at q; exact q.1))).symm]
  have e2 : (nI (pG f y b) == zAt f (nI b - 1) (nI y)) = (zAt f (nI b - 1) (nI y) == nI (pG f y b)) := BEq.comm
  rw [e2]
  cases zAt f (nI b - 1) (nI y) == nI (pG f y b) <;> simp [hv]
/-- different lots of a row -/
theorem pLr_le (lot : Nat → Int32) (y : Int32) (c n : Nat) (hn : n ≤ 16) : zLr lot y c n ≤ c := by
  have h1 : zLr lot y c n ≤ zSN (fun l => zCe lot (nI l) y c) n := by
    unfold zLr
    rw [zCt_SN]
    refine zSN_mono fun l _ => ?_
    by_cases q : 0 < zCe lot (nI l) y c
    · rw [decide_eq_true q]; exact q
    · rw [decide_eq_false q]; exact Nat.zero_le _
  refine Nat.le_trans h1 ?_
  unfold zCe
  rw [zSN_ct]
  have h2 : zSN (fun b => zCt (fun v => zAt lot (nI b) y == nI v) n) c ≤ zSN (fun _ => 1) c := zSN_mono fun b _ => by
    have hz : ∀ j, zAt lot (nI b) y = nI j → j < n → zCt (fun v => zAt lot (nI b) y == nI v) n ≤ 1 := fun j hj hjn => by
      rw [hj, zCt_one (k := j) n fun i hi q => (m_eq (by omega) (by omega) (eq_of_beq q)).symm]
      split <;> omega
    by_cases q : ∃ j, zAt lot (nI b) y = nI j ∧ j < n
    · obtain ⟨j, h1, h2⟩ := q
      exact hz j h1 h2
    · rw [zCt_cg (Q := fun _ => false) fun v hv => ?_]
      · rw [zCt_SN]; simp [zSN_const]
      · rw [beq_eq_false_iff_ne]
        exact fun k => q ⟨v, k, hv⟩
  refine Nat.le_trans h2 ?_
  rw [zSN_const]
  omega
theorem pLr_ge {wov lot col : Nat → Int32} {c w cnt y : Nat} (h : pWo wov lot col c w cnt) (hc1 : 1 ≤ c) (hc : c ≤ 20) (hw : w ≤ 16) (hn : cnt ≤ 16) (hy : y < w) : 1 ≤ zLr lot (nI y) c cnt := by
  obtain ⟨e, hj, -⟩ := h.lot hc hw hn hy (show 0 < c by omega)
  refine zCt_ge hj (decide_eq_true ?_)
  exact zCt_ge (k := 0) (by omega) (by rw [e]; simp)
/-- the first row with wrong cells, as it is found from row 0 on -/
def pFs (own : Nat → Nat) : Nat → Int32
  | 0 => -1
  | n + 1 => if pFs own n < 0 ∧ 0 < own n then nI n else pFs own n
theorem pFs_ge {own : Nat → Nat} : ∀ n, n ≤ 2 ^ 30 → pFs own n = -1 ∨ ∃ k, k < n ∧ pFs own n = nI k
  | 0, _ => Or.inl rfl
  | n + 1, h => by
    unfold pFs
    split
    · exact Or.inr ⟨n, by omega, rfl⟩
    · rcases pFs_ge (own := own) n (by omega) with q | ⟨k, hk, q⟩
      · exact Or.inl q
      · exact Or.inr ⟨k, by omega, q⟩
theorem pFs_neg {own : Nat → Nat} : ∀ n, n ≤ 2 ^ 30 → (pFs own n = -1 ↔ ∀ k, k < n → own k = 0)
  | 0, _ => ⟨fun _ k hk => absurd hk (by omega), fun _ => rfl⟩
  | n + 1, h => by
    have ih := pFs_neg (own := own) n (by omega)
    unfold pFs
    constructor
    · intro q
      split at q
      · exact absurd q fun z => nI_m1 (by omega) z
      · rename_i hq
        have h1 := ih.mp q
        intro k hk
        by_cases e : k = n
        · subst e
          rw [q] at hq
          have : ¬ 0 < own k := fun z => hq ⟨by decide, z⟩
          omega
        · exact h1 k (by omega)
    · intro q
      rw [if_neg fun z => by have := q n (by omega); omega]
      exact ih.mpr fun k hk => q k (by omega)
theorem pFs_run {own : Nat → Nat} {a : Nat} (ha : a < 2 ^ 30) (h1 : 0 < own a) (h0 : ∀ k, k < a → own k = 0) : ∀ d, pFs own (a + 1 + d) = nI a
  | 0 => by
    unfold pFs
    rw [if_pos ⟨by rw [(pFs_neg a (by omega)).mpr h0]; decide, h1⟩]
  | d + 1 => by
    show (if pFs own (a + 1 + d) < 0 ∧ 0 < own (a + 1 + d) then nI (a + 1 + d) else pFs own (a + 1 + d)) = _
    rw [pFs_run ha h1 h0 d, if_neg fun z => nI_pos (by omega) z.1]
theorem pFw_e {wov cart : Nat → Int32} {c w : Nat} {own : Nat → Nat} (hw : w ≤ 16) (h : ∀ y, y < w → zWc9 wov cart (nI y) c = own y) : ∀ d a, a + d = w → (∀ k, k < a → own k = 0) → zFw wov cart c a d = pFs own w
  | 0, a, e, h0 => by
    rw [(pFs_neg w (by omega)).mpr fun k hk => h0 k (by omega)]
    rfl
  | d + 1, a, e, h0 => by
    unfold zFw
    rw [h a (by omega)]
    by_cases q : 0 < own a
    · rw [if_pos q, show w = a + 1 + d by omega, pFs_run (by omega) q h0]
    · rw [if_neg q, pFw_e hw h d (a + 1) (by omega) fun k hk => ?_]
      by_cases z : k = a
      · subst z; omega
      · exact h0 k (by omega)
/-- what a row of the answers of 'row' is -/
theorem pRuns {wov : Nat → Int32} {c w : Nat} (hW : pCa wov c w) (hc : c ≤ 20) (hw : w ≤ 16) : zSN (fun v => zSN (fun y => zRo wov (nI v) (nI y) c) w) 8 = zSN (fun y => zRu wov (nI y) c) w := by
  rw [zSN_swap]
  exact zSN_cg fun y hy => pRo_sum hW hc hw hy
