/-! rows are woven -/
theorem zAt_row {f g : Nat → Int32} {w y b : Nat} (h : ∀ j, j < 20 * w → f j = g j) (hw : w ≤ 16) (hy : y < w) (hb : b ≤ 20) : zAt f (nI b) (nI y) = zAt g (nI b) (nI y) := by
  by_cases q : b < 20
  · rw [zAt_n q (by omega), zAt_n q (by omega), h _ (by omega)]
  · rw [zAt_20 (by omega) (by omega), zAt_20 (by omega) (by omega)]
theorem zPa_row {f g : Nat → Int32} {c w w2 y b : Nat} (h : ∀ j, j < 20 * w → f j = g j) (hw : w ≤ 16) (hw2 : w ≤ w2) (hw3 : w2 ≤ 16) (hy : y < w) (hb : b < 20) : zPa f c w2 (nI b) (nI y) = zPa g c w (nI b) (nI y) := by
  unfold zPa
  rw [decide_eq_false (nI_ge (show y < w2 by omega) (by omega)), decide_eq_false (nI_ge hy (by omega)), nI_1, zAt_row h hw hy (by omega), zAt_row h hw hy (show b + 1 ≤ 20 by omega)]
theorem zPa_pre {f g : Nat → Int32} {c w w2 y b : Nat} (h : ∀ j, j < 20 * w → f j = g j) (hw : w ≤ 16) (hw2 : w ≤ w2) (hw3 : w2 ≤ 16) (hy : y < w) (hb : b < 20) : zPa f c w2 (nI b) (nI y - 1) = zPa g c w (nI b) (nI y - 1) := by
  cases y with
  | zero => rw [zPa_m hb, zPa_m hb]
  | succ y => rw [nI_pred]; exact zPa_row h hw hw2 hw3 (by omega) hb
theorem zRl_row {f g : Nat → Int32} {c w y b : Nat} (h : ∀ j, j < 20 * w → f j = g j) (hw : w ≤ 16) (hy : y < w) (hb : b < 20) : zRl f c w (nI b) y = zRl g c w (nI b) y := by
  unfold zRl
  rw [zPa_pre h hw (Nat.le_refl _) hw hy hb, zLn_cg _ _ fun k h1 h2 => zPa_row h hw (Nat.le_refl _) hw (show k < w by omega) hb]
theorem zRl_more {f g : Nat → Int32} {c w y b lim : Nat} (h : ∀ j, j < 20 * w → f j = g j) (hw : w + 1 ≤ 16) (hy : y < w) (hb : b < 20) (hl : lim < zRl g c w (nI b) y) : lim < zRl f c (w + 1) (nI b) y := by
  unfold zRl at hl ⊢
  rw [zPa_pre h (by omega) (by omega) hw hy hb]
  split at hl
  · omega
  · rename_i q
    rw [if_neg q, show w + 1 - y = (w - y) + 1 by omega]
    exact Nat.lt_of_lt_of_le hl (zLn_mono _ _ fun k h1 h2 => zPa_row h (by omega) (by omega) hw (show k < w by omega) hb)
theorem zCe_row {f g : Nat → Int32} {v : Int32} {c w y : Nat} (h : ∀ j, j < 20 * w → f j = g j) (hc : c ≤ 20) (hw : w ≤ 16) (hy : y < w) : zCe f v (nI y) c = zCe g v (nI y) c := by
  unfold zCe
  exact zCt_cg fun b hb => by rw [zAt_row h hw hy (by omega)]
theorem pLe_z {col : Nat → Int32} {q n : Nat → Nat} {v cnt : Nat} (hv : v < 8) (h : ∀ k, k < cnt → col k = nI (q k) ∧ q k < 8) : pLe q n v cnt = zYl n col (nI v) cnt := by
  unfold pLe zYl
  refine zSN_cg fun k hk => ?_
  obtain ⟨e1, e2⟩ := h k hk
  rw [e1]
  by_cases z : q k = v
  · rw [if_pos z, z, if_pos rfl]
  · rw [if_neg z, if_neg fun y => z (m_eq (by omega) (by omega) y)]
theorem zCt_up (p : Nat → Bool) {a : Nat} : ∀ d, zCt p a ≤ zCt p (a + d)
  | 0 => Nat.le_refl _
  | d + 1 => Nat.le_trans (zCt_up p d) (Nat.le_add_right _ _)
/-- lots: colors q, rests n -/
def pQn (col l : Nat → Int32) (q n : Nat → Nat) (cnt : Nat) : Prop := ∀ k, k < cnt → col k = nI (q k) ∧ q k < 8 ∧ l k = nI (n k) ∧ n k ≤ 999
theorem pFirst {col l : Nat → Int32} {q n : Nat → Nat} {v cnt : Nat} (h : pQn col l q n cnt) (hn : cnt ≤ 16) (hv : v < 8) : ∀ d a, a + d ≤ cnt → (∃ k, a ≤ k ∧ k < a + d ∧ q k = v ∧ 0 < n k) → ∃ k, k < a + d ∧ q k = v ∧ 0 < n k ∧ zIu col l (nI v) a d = nI k
  | 0, a, _, ⟨k, h1, h2, _⟩ => absurd h1 (by omega)
  | d + 1, a, hd, ⟨k, h1, h2, h3, h4⟩ => by
    obtain ⟨e1, e2, e3, e4⟩ := h a (by omega)
    unfold zIu
    rw [zAtN_in (by omega) (by decide), zAtN_in (by omega) (by decide), e1, e3]
    by_cases z : q a = v ∧ 0 < n a
    · rw [if_pos ⟨by rw [z.1], by rw [← nI_0]; exact nI_lt z.2 (by omega)⟩]
      exact ⟨a, by omega, z.1, z.2, rfl⟩
    · rw [if_neg fun y => z ⟨m_eq (by omega) (by omega) y.1, m_z_gt_t (by omega) y.2⟩]
      have hk : ¬ k = a := fun y => z ⟨y ▸ h3, y ▸ h4⟩
      obtain ⟨k2, j1, j2⟩ := pFirst h hn hv d (a + 1) (by omega) ⟨k, by omega, by omega, h3, h4⟩
      exact ⟨k2, by omega, j2⟩
theorem pTake {col l : Nat → Int32} {q n : Nat → Nat} {v cnt : Nat} (h : pQn col l q n cnt) (hn : cnt ≤ 16) (hv : v < 8) (hU : 0 < pLe q n v cnt) : ∃ k n', k < cnt ∧ q k = v ∧ zIu col l (nI v) 0 cnt = nI k ∧ pQn col (zTk col l (nI v) cnt) q n' cnt ∧ n' k + 1 = n k ∧ (∀ j, ¬ j = k → n' j = n j) ∧ ∀ v', v' < 8 → pLe q n' v' cnt + (if v' = v then 1 else 0) = pLe q n v' cnt := by
  have hq : ∀ k, k < cnt → col k = nI (q k) ∧ q k < 8 := fun k hk => ⟨(h k hk).1, (h k hk).2.1⟩
  rw [pLe_z hv hq] at hU
  obtain ⟨k0, z1, z2, z3⟩ := zYl_pos hU
  obtain ⟨a1, a2, a3, a4⟩ := h k0 z1
  obtain ⟨k, h1, h2, h3, h4⟩ := pFirst h hn hv cnt 0 (by omega) ⟨k0, by omega, by omega, m_eq (by omega) (by omega) (a1.symm.trans z2), z3⟩
  rw [Nat.zero_add] at h1
  obtain ⟨b1, b2, b3, b4⟩ := h k h1
  refine ⟨k, fun j => if j = k then n k - 1 else n j, h1, h2, h4, fun j hj => ?_, by simp only [↓reduceIte]; omega, fun j hj => by simp only [if_neg hj], fun v' hv' => ?_⟩
  · obtain ⟨c1, c2, c3, c4⟩ := h j hj
    refine ⟨c1, c2, ?_, by dsimp only; split <;> omega⟩
    unfold zTk
    rw [h4, zPutN_n (by omega) (by decide), zAtN_in (by omega) (by decide), b3]
    by_cases e : j = k
    · subst e
      simp only [↓reduceIte]
      rw [upd_eq, ← nI_one, pk_sub (by omega)]
    · simp only [if_neg e]
      rw [upd_ne e, c3]
  · rw [pLe_z hv' hq, pLe_z hv' hq]
    have := zYl_dec (n := n) (n' := fun j => if j = k then n k - 1 else n j) (col := col) (v := nI v) (v' := nI v') (k := k) (by rw [b1, h2]) (by simp only [↓reduceIte]; omega) (fun j hj => by simp only [if_neg hj]) cnt
    rw [← this]
    by_cases e : v' = v
    · rw [if_pos e, if_pos ⟨h1, by rw [e]⟩]
    · rw [if_neg e, if_neg fun z => e (m_eq (by omega) (by omega) z.2)]
/-- the cells of a row, one after the other -/
theorem pCells {wv col l0 o0 : Nat → Int32} {V q n0 : Nat → Nat} {c w cnt : Nat} (hc : c ≤ 20) (hw : w < 16) (hn : cnt ≤ 16) (hV : ∀ b, b < c → zAt wv (nI b) (nI w) = nI (V b) ∧ V b < 8) (hL : pQn col l0 q n0 cnt)
    (hU : ∀ v, v < 8 → zCt (fun b => V b == v) c + zCt (fun b => V b == v && zSt wv (nI b) (nI w)) c ≤ pLe q n0 v cnt) :
    ∀ b, b ≤ c → ∃ n K : Nat → Nat, pQn col (zIt (zWkB wv col w cnt) b (l0, o0)).1 q n cnt ∧ (∀ v, v < 8 → pLe q n v cnt + (zCt (fun b => V b == v) b + zCt (fun b => V b == v && zSt wv (nI b) (nI w)) b) = pLe q n0 v cnt) ∧ (∀ j, j < 20 * w → (zIt (zWkB wv col w cnt) b (l0, o0)).2 j = o0 j) ∧ (∀ x, x < b → (zIt (zWkB wv col w cnt) b (l0, o0)).2 (20 * w + x) = nI (K x) ∧ K x < cnt ∧ q (K x) = V x) ∧ ∀ k, k < cnt → n k + zCt (fun x => K x == k) b ≤ n0 k
  | 0, _ => ⟨n0, fun _ => 0, hL, fun v _ => rfl, fun _ _ => rfl, fun x hx => absurd hx (by omega), fun k _ => Nat.le_refl _⟩
  | b + 1, hb => by
    obtain ⟨n, K, h1, h2, h3, h4, h5⟩ := pCells hc hw hn hV hL hU b (by omega)
    obtain ⟨e, hv⟩ := hV b (by omega)
    show ∃ n K : Nat → Nat, pQn col (zWkB wv col w cnt b (zIt (zWkB wv col w cnt) b (l0, o0))).1 q n cnt ∧ _ ∧ (∀ j, j < 20 * w → (zWkB wv col w cnt b (zIt (zWkB wv col w cnt) b (l0, o0))).2 j = o0 j) ∧ (∀ x, x < b + 1 → (zWkB wv col w cnt b (zIt (zWkB wv col w cnt) b (l0, o0))).2 (20 * w + x) = nI (K x) ∧ K x < cnt ∧ q (K x) = V x) ∧ _
    generalize zIt (zWkB wv col w cnt) b (l0, o0) = s at h1 h3 h4 ⊢
    unfold zWkB
    dsimp only
    rw [e, zPutG_n (show b < 20 by omega) hw]
    -- how much is left of the color
    have hm : ∀ p : Nat → Bool, zCt p (b + 1) ≤ zCt p c := fun p => by
      obtain ⟨d, rfl⟩ : ∃ d, c = b + 1 + d := ⟨c - (b + 1), by omega⟩
      exact zCt_up p d
    have hU' := hU (V b) hv
    have hm1 := hm fun x => V x == V b
    have hm2 := hm fun x => V x == V b && zSt wv (nI x) (nI w)
    have e1 : zCt (fun x => V x == V b) (b + 1) = zCt (fun x => V x == V b) b + 1 := by
      show zCt _ b + (if V b == V b then 1 else 0) = _
      rw [beq_self_eq_true, if_pos rfl]
    have e2 : zCt (fun x => V x == V b && zSt wv (nI x) (nI w)) (b + 1) = zCt (fun x => V x == V b && zSt wv (nI x) (nI w)) b + (if zSt wv (nI b) (nI w) then 1 else 0) := by
      show zCt _ b + (if V b == V b && zSt wv (nI b) (nI w) then 1 else 0) = _
      rw [beq_self_eq_true, Bool.true_and]
    have h2' := h2 (V b) hv
    -- the unit of a run
    have hrun : ∃ n1, pQn col (if zSt wv (nI b) (nI w) then zTk col s.1 (nI (V b)) cnt else s.1) q n1 cnt ∧ (∀ k, n1 k ≤ n k) ∧ ∀ v', v' < 8 → pLe q n1 v' cnt + (if v' = V b ∧ zSt wv (nI b) (nI w) = true then 1 else 0) = pLe q n v' cnt := by
      by_cases hs : zSt wv (nI b) (nI w) = true
      · rw [if_pos hs] at e2 ⊢
        obtain ⟨k, n', t1, t2, t3, t4, t5, t6, t7⟩ := pTake h1 hn hv (by omega)
        refine ⟨n', t4, fun j => ?_, fun v' hv' => ?_⟩
        · by_cases z : j = k
          · subst z; omega
          · rw [t6 j z]; exact Nat.le_refl _
        · rw [← t7 v' hv']
          by_cases z : v' = V b
          · rw [if_pos z, if_pos ⟨z, hs⟩]
          · rw [if_neg z, if_neg fun y => z y.1]
      · rw [if_neg hs]
        exact ⟨n, h1, fun _ => Nat.le_refl _, fun v' _ => by rw [if_neg fun y => hs y.2]; rfl⟩
    obtain ⟨n1, r1, r2, r3⟩ := hrun
    have r3' := r3 (V b) hv
    obtain ⟨k, n', t1, t2, t3, t4, t5, t6, t7⟩ := pTake r1 hn hv (by
      by_cases hs : zSt wv (nI b) (nI w) = true
      · rw [if_pos ⟨rfl, hs⟩] at r3'; rw [if_pos hs] at e2; omega
      · rw [if_neg fun y => hs y.2] at r3'; omega)
    refine ⟨n', fun x => if x = b then k else K x, t4, fun v' hv' => ?_, fun j hj => ?_, fun x hx => ?_, fun j hj => ?_⟩
    · have a1 := t7 v' hv'
      have a2 := r3 v' hv'
      have a3 := h2 v' hv'
      show pLe q n' v' cnt + (zCt _ b + (if V b == v' then 1 else 0) + (zCt _ b + (if V b == v' && zSt wv (nI b) (nI w) then 1 else 0))) = _
      by_cases z : v' = V b
      · subst z
        rw [if_pos rfl] at a1
        rw [beq_self_eq_true, Bool.true_and, if_pos rfl]
        by_cases hs : zSt wv (nI b) (nI w) = true
        · rw [if_pos ⟨rfl, hs⟩] at a2; rw [if_pos hs]; omega
        · rw [if_neg fun y => hs y.2] at a2; rw [if_neg hs]; omega
      · rw [if_neg z] at a1
        rw [if_neg fun y => z y.1] at a2
        rw [beq_eq_false_iff_ne.mpr fun y => z y.symm, Bool.false_and, if_neg Bool.false_ne_true]
        omega
    · rw [upd_ne (by omega), h3 j hj]
    · by_cases z : x = b
      · subst z
        simp only [↓reduceIte]
        rw [upd_eq, t3]
        exact ⟨rfl, t1, t2⟩
      · simp only [if_neg z]
        rw [upd_ne (by omega)]
        exact h4 x (by omega)
    · have a1 := h5 j hj
      have a2 := r2 j
      show n' j + (zCt (fun x => (if x = b then k else K x) == j) b + (if (if b = b then k else K b) == j then 1 else 0)) ≤ _
      rw [zCt_cg (Q := fun x => K x == j) fun x hx => by rw [if_neg (show ¬ x = b by omega)], if_pos rfl]
      by_cases z : j = k
      · subst z
        rw [beq_self_eq_true, if_pos rfl]
        omega
      · rw [beq_eq_false_iff_ne.mpr fun y => z y.symm, if_neg Bool.false_ne_true, t6 j z]
        omega
section PWEAVE
variable {c r w lim : Nat} {tol : Int32} {cart wov lot sew mis : Nat → Int32} {cnt : Nat} {col len lef sbt : Nat → Int32} {shd : Nat → UInt32}
/-- the colors of the next row are laid: nothing that counts has changed -/
theorem p_laid (h : pIv c r w lim tol cart wov lot sew mis cnt col len lef sbt shd) {wv : Nat → Int32} (hv : ∀ j, j < 20 * w → wv j = wov j) : pIv c r w lim tol cart wv lot sew mis cnt col len lef sbt shd := by
  obtain ⟨hD, hC, hW, hL, hM, hS, hF⟩ := h
  have hD' := hD
  obtain ⟨d1, d2, d3, d4, d5, d6, d7, d8, d9⟩ := hD'
  refine ⟨hD, hC, fun y b hy hb => ?_, hL, hM, fun b y hb hy => ?_, hF⟩
  · rw [hv _ (by omega)]
    exact hW y b hy hb
  · rcases hS b y hb hy with e | ⟨e, h1, h2, h3⟩
    · exact Or.inl e
    · exact Or.inr ⟨e, h1, h2, by rw [zRl_row hv (by omega) h2 hb]; exact h3⟩
def pNone (mis : Nat → Int32) : Prop := ∀ b, b < 20 → mis b = -1
theorem pNone.oth (h : pNone mis) : zOth 20 mis (-1) = 0 := by
  unfold zOth
  rw [zCt_cg (Q := fun _ => false) fun b hb => by rw [h b hb]; rfl, zCt_SN]
  simp [zSN_const]
/-- one row -/
theorem p_row (h : pIv c r w lim tol cart wov lot sew mis cnt col len lef sbt shd) : (w < r → (zWvn c r cnt cart col (w, wov, lot, lef, mis)).1 = true → (zWvn c r cnt cart col (w, wov, lot, lef, mis)).2.1 = w + 1 ∧ pNone (zWvn c r cnt cart col (w, wov, lot, lef, mis)).2.2.2.2.2) ∧ ((zWvn c r cnt cart col (w, wov, lot, lef, mis)).1 = false → (zWvn c r cnt cart col (w, wov, lot, lef, mis)).2.1 = w ∧ (zWvn c r cnt cart col (w, wov, lot, lef, mis)).2.2.2.2.2 = mis) ∧ ((zWvn c r cnt cart col (w, wov, lot, lef, mis)).1 = true → w < r) ∧
    pIv c r (zWvn c r cnt cart col (w, wov, lot, lef, mis)).2.1 lim tol cart (zWvn c r cnt cart col (w, wov, lot, lef, mis)).2.2.1 (zWvn c r cnt cart col (w, wov, lot, lef, mis)).2.2.2.1 sew (zWvn c r cnt cart col (w, wov, lot, lef, mis)).2.2.2.2.2 cnt col len (zWvn c r cnt cart col (w, wov, lot, lef, mis)).2.2.2.2.1 sbt shd := by
  have h' := h
  obtain ⟨hD, hC, hW, ⟨q0, m, hL⟩, hM, hS, hF⟩ := h'
  have hD' := hD
  obtain ⟨d1, d2, d3, d4, d5, d6, d7, d8, d9⟩ := hD'
  unfold zWvn
  dsimp only
  by_cases hwr : r ≤ w
  · rw [if_pos hwr]
    exact ⟨(fun _ z => nomatch z), fun _ => ⟨rfl, rfl⟩, (fun z => nomatch z), h⟩
  rw [if_neg hwr]
  have hw16 : w < 16 := by omega
  have hly := fun j => zLy_at (cart := cart) (mis := mis) hw16 wov c d2 j
  have hv : ∀ j, j < 20 * w → zLy cart mis c (nI w) wov j = wov j := fun j hj => by
    unfold zLy
    rw [hly j, if_neg (by omega)]
  by_cases hy : zAF (zHyP (zLy cart mis c (nI w) wov) col lef c cnt (nI w)) 0 8 = true
  · rw [if_pos hy]
    dsimp only
    -- the row's colors
    have hV : ∀ b, b < c → ∃ v, v < 8 ∧ zLy cart mis c (nI w) wov (20 * w + b) = nI v := fun b hb => by
      unfold zLy
      rw [hly (20 * w + b), if_pos (by omega), show 20 * w + b - 20 * w = b by omega, zAtN_in (by omega) (by decide), zAt_n (by omega) hw16]
      rcases hM b (by omega) with e | ⟨-, v, h1, h2⟩
      · rw [if_pos e]
        exact hC w b (by omega) hb
      · rw [h2, if_neg fun z => nI_m1 (by omega) z]
        exact ⟨v, h1, rfl⟩
    generalize zLy cart mis c (nI w) wov = wv at hv hy hV ⊢
    have hV2 : ∀ b, b < c → zAt wv (nI b) (nI w) = nI (pG wv w b) ∧ pG wv w b < 8 := fun b hb => by
      obtain ⟨v, h1, h2⟩ := hV b hb
      rw [zAt_n (by omega) hw16, h2, pG_of h2 (by omega)]
      exact ⟨rfl, h1⟩
    -- the lots
    have hq : ∃ q : Nat → Nat, ∀ k, k < cnt → q k < 8 ∧ col k = nI (q k) := ⟨fun k => (col k).toNatClampNeg, fun k hk => by
      obtain ⟨⟨v, h1, h2⟩, -⟩ := hL k hk
      dsimp only
      rw [h2, nI_clamp (by omega)]
      exact ⟨h1, rfl⟩⟩
    obtain ⟨q, hq⟩ := hq
    have hQ : pQn col lef q q0 cnt := fun k hk => by
      obtain ⟨-, h2, h3, h4, h5⟩ := hL k hk
      exact ⟨(hq k hk).2, (hq k hk).1, h2, by omega⟩
    have hLe : ∀ v, pLe q q0 v cnt ≤ 16000 := fun v => pLe_le d8 fun k hk => (hQ k hk).2.2.2
    have hU : ∀ v, v < 8 → zCt (fun b => pG wv w b == v) c + zCt (fun b => pG wv w b == v && zSt wv (nI b) (nI w)) c ≤ pLe q q0 v cnt := fun v hv8 => by
      have z := zAF_t 8 0 hy v (by omega) (by omega)
      unfold zHyP at z
      have z2 := of_decide_eq_true z
      rw [pLf_e d8 hv8 fun k hk => ⟨(hQ k hk).1, (hQ k hk).2.1, (hQ k hk).2.2.1⟩] at z2
      have e1 := zCe_le wv (nI v) (nI w) c
      have e2 := zRo_le wv (nI v) (nI w) c
      have z3 := m_le (by omega) (by have := hLe v; omega) z2
      have a1 : zCe wv (nI v) (nI w) c = zCt (fun b => pG wv w b == v) c := by
        unfold zCe
        refine zCt_cg fun b hb => ?_
        obtain ⟨x1, x2⟩ := hV2 b hb
        rw [x1, nI_beq (by omega) (by omega)]
      have a2 : zRo wv (nI v) (nI w) c = zCt (fun b => pG wv w b == v && zSt wv (nI b) (nI w)) c := by
        unfold zRo
        refine zCt_cg fun b hb => ?_
        obtain ⟨x1, x2⟩ := hV2 b hb
        unfold zSt
        rw [x1, nI_beq (by omega) (by omega)]
        by_cases y : pG wv w b = v
        · rw [y, beq_self_eq_true, Bool.true_and, Bool.true_and]
          rw [show (zAt wv (nI b - 1) (nI w) == nI v) = (nI v == zAt wv (nI b - 1) (nI w)) from BEq.comm]
        · rw [beq_eq_false_iff_ne.mpr y]
          rfl
      omega
    obtain ⟨n, K, k1, k2, k3, k4, k5⟩ := pCells d2 hw16 d8 (wv := wv) (o0 := lot) hV2 hQ hU c (Nat.le_refl _)
    show _ ∧ _ ∧ _ ∧ pIv c r (w + 1) lim tol cart wv (zIt (zWkB wv col w cnt) c (lef, lot)).2 sew (zFl (fun _ => (-1)) mis 20) cnt col len (zIt (zWkB wv col w cnt) c (lef, lot)).1 sbt shd
    generalize zIt (zWkB wv col w cnt) c (lef, lot) = s at k1 k3 k4 ⊢
    have hnone : pNone (zFl (fun _ => (-1)) mis 20) := fun b hb => zFl_in hb
    refine ⟨fun _ _ => ⟨rfl, hnone⟩, (fun z => nomatch z), fun _ => by omega, ⟨⟨d1, d2, d3, d4, by omega, d6, d7, d8, d9⟩, hC, fun y b hy9 hb => ?_, ⟨n, m, fun k hk => ?_⟩, fun b hb => Or.inl (hnone b hb), fun b y hb hy9 => ?_, hF⟩⟩
    · by_cases e : y = w
      · subst e
        obtain ⟨v, h1, h2⟩ := hV b hb
        obtain ⟨j1, j2, j3⟩ := k4 b hb
        refine ⟨v, K b, h1, j2, h2, j1, ?_⟩
        rw [(hq _ j2).2, j3, pG_of h2 (by omega)]
      · rw [hv _ (by omega), k3 _ (by omega)]
        exact hW y b (by omega) hb
    · obtain ⟨h1, h2, h3, h4, h5⟩ := hL k hk
      refine ⟨h1, (k1 k hk).2.2.1, h3, h4, ?_⟩
      have a1 : zCi s.2 (nI k) c (w + 1) = zCi lot (nI k) c w + zCt (fun x => K x == k) c := by
        show zSN _ w + zCe s.2 (nI k) (nI w) c = _
        refine congr (congrArg _ (zSN_cg fun y hy9 => zCe_row k3 d2 (by omega) hy9)) ?_
        unfold zCe
        refine zCt_cg fun b hb => ?_
        obtain ⟨j1, j2, j3⟩ := k4 b hb
        rw [zAt_n (by omega) hw16, j1, nI_beq (by omega) (by omega)]
      have a2 := k5 k hk
      omega
    · rcases hS b y hb hy9 with e | ⟨e, h1, h2, h3⟩
      · exact Or.inl e
      · exact Or.inr ⟨e, h1, by omega, zRl_more hv (by omega) h2 hb h3⟩
  · rw [if_neg hy]
    exact ⟨(fun _ z => nomatch z), fun _ => ⟨rfl, rfl⟩, (fun z => nomatch z), p_laid h hv⟩
theorem p_rows : ∀ (d : Nat) {w : Nat} {wov lot lef mis : Nat → Int32}, pIv c r w lim tol cart wov lot sew mis cnt col len lef sbt shd → pIv c r (zWs9 c r cnt cart col d (w, wov, lot, lef, mis)).2.1 lim tol cart (zWs9 c r cnt cart col d (w, wov, lot, lef, mis)).2.2.1 (zWs9 c r cnt cart col d (w, wov, lot, lef, mis)).2.2.2.1 sew (zWs9 c r cnt cart col d (w, wov, lot, lef, mis)).2.2.2.2.2 cnt col len (zWs9 c r cnt cart col d (w, wov, lot, lef, mis)).2.2.2.2.1 sbt shd ∧ (zWs9 c r cnt cart col d (w, wov, lot, lef, mis)).2.1 = w + (zWs9 c r cnt cart col d (w, wov, lot, lef, mis)).1 ∧ (¬ (zWs9 c r cnt cart col d (w, wov, lot, lef, mis)).1 = 0 ∨ pNone mis → pNone (zWs9 c r cnt cart col d (w, wov, lot, lef, mis)).2.2.2.2.2)
  | 0, w, wov, lot, lef, mis, h => ⟨h, rfl, fun z => z.resolve_left fun y => y rfl⟩
  | d + 1, w, wov, lot, lef, mis, h => by
    obtain ⟨a1, a2, a3, a4⟩ := p_row h
    unfold zWs9
    generalize zWvn c r cnt cart col (w, wov, lot, lef, mis) = s at a1 a2 a3 a4 ⊢
    obtain ⟨b, w', wov', lot', lef', mis'⟩ := s
    dsimp only at a1 a2 a3 a4 ⊢
    cases b with
    | true =>
      obtain ⟨e1, e2⟩ := a1 (a3 rfl) rfl
      subst e1
      obtain ⟨c1, c2, c3⟩ := p_rows d a4
      rw [if_pos rfl]
      dsimp only
      exact ⟨c1, by rw [c2]; omega, fun _ => c3 (Or.inr e2)⟩
    | false =>
      obtain ⟨e1, e2⟩ := a2 rfl
      subst e1
      subst e2
      rw [if_neg Bool.false_ne_true]
      exact ⟨a4, rfl, fun z => z.resolve_left fun y => y rfl⟩
end PWEAVE
