/-! rows are taken away, slits are sewn -/
section PBACK
variable {c r w lim : Nat} {tol : Int32} {cart wov lot sew mis : Nat → Int32} {cnt : Nat} {col len lef sbt : Nat → Int32} {shd : Nat → UInt32}
theorem pUwR (hW : pWo wov lot col c w cnt) (hc : c ≤ 20) (hw : w ≤ 16) (hn : cnt ≤ 16) {a k : Nat} (ha : a < w) (hk : k < 16) (l : Nat → Int32) : ∀ b : Nat, b ≤ c → zIt (fun b l => zGb l (zAt lot (nI b) (nI a))) b l k = l k + nI (zCt (fun b => zAt lot (nI b) (nI a) == nI k) b)
  | 0, _ => by
    show l k = l k + nI 0
    rw [nI_0, Int32.add_zero]
  | b + 1, hb => by
    have ih := pUwR hW hc hw hn ha hk l b (by omega)
    obtain ⟨e, hj, -⟩ := hW.lot hc hw hn ha (show b < c by omega)
    show zGb (zIt _ b l) (zAt lot (nI b) (nI a)) k = l k + nI (zCt _ b + (if zAt lot (nI b) (nI a) == nI k then 1 else 0))
    rw [← nI_add, ← Int32.add_assoc, ← ih, e]
    generalize zIt (fun b l => zGb l (zAt lot (nI b) (nI a))) b l = X
    unfold zGb
    rw [zPutN_n (by omega) (by decide), zAtN_in (by omega) (by decide), nI_beq (by omega) (by omega)]
    by_cases q : k = pG lot a b
    · rw [q, upd_eq, beq_self_eq_true, if_pos rfl, nI_one]
    · rw [upd_ne q, beq_eq_false_iff_ne.mpr fun z => q z.symm, if_neg Bool.false_ne_true, nI_0, Int32.add_zero]
theorem pUw (hW : pWo wov lot col c w cnt) (hc : c ≤ 20) (hw : w ≤ 16) (hn : cnt ≤ 16) {k : Nat} (hk : k < 16) (l : Nat → Int32) : ∀ m : Nat, m ≤ w → zUw lot c w m l k = l k + nI (zSN (fun i => zCe lot (nI k) (nI (w - (i + 1))) c) m)
  | 0, _ => by
    show l k = l k + nI 0
    rw [nI_0, Int32.add_zero]
  | m + 1, hm => by
    show zIt (fun b l => zGb l (zAt lot (nI b) (nI (w - (m + 1))))) c (zUw lot c w m l) k = l k + nI (zSN _ m + zCt _ c)
    rw [pUwR hW hc hw hn (show w - (m + 1) < w by omega) hk _ c (Nat.le_refl _), pUw hW hc hw hn hk l m (by omega), Int32.add_assoc, nI_add]
theorem pCi_back (f : Nat → Int32) (v : Int32) {n : Nat} (h : n ≤ w) : zCi f v c w = zCi f v c (w - n) + zSN (fun i => zCe f v (nI (w - (i + 1))) c) n := by
  unfold zCi
  rw [zSN_rev (fun y => zCe f v (nI y) c) w n h]
  have := zSN_split (fun y => zCe f v (nI y) c) (w - n) n
  rw [show w - n + n = w by omega] at this
  exact this
theorem p_unweave (h : pIv c r w lim tol cart wov lot sew mis cnt col len lef sbt shd) {n : Nat} (hn : n ≤ w) : pIv c r (w - n) lim tol cart wov lot (zFg wov sew c (w - n) lim) mis cnt col len (zUw lot c w n lef) sbt shd := by
  obtain ⟨hD, hC, hW, ⟨q, m, hL⟩, hM, hS, hF⟩ := h
  obtain ⟨d1, d2, d3, d4, d5, d6, d7, d8, d9⟩ := hD
  refine ⟨⟨d1, d2, d3, d4, by omega, d6, d7, d8, d9⟩, hC, fun y b hy hb => hW y b (by omega) hb, ⟨fun k => q k + zSN (fun i => zCe lot (nI k) (nI (w - (i + 1))) c) n, m, fun k hk => ?_⟩, hM, fun b y hb hy => ?_, hF⟩
  · obtain ⟨h1, h2, h3, h4, h5⟩ := hL k hk
    refine ⟨h1, ?_, h3, h4, ?_⟩
    · rw [pUw hW d2 (by omega) d8 (by omega) lef n hn, h2, nI_add]
    · have := pCi_back (c := c) lot (nI k) hn
      dsimp only
      omega
  · rw [zFg_at hb hy]
    split
    · exact Or.inl rfl
    · rename_i z
      rcases hS b y hb hy with e | ⟨e, h1, h2, h3⟩
      · exact Or.inl e
      · have h4 : lim < zRl wov c (w - n) (nI b) y := Nat.lt_of_not_le fun k => z ⟨e, k⟩
        have h5 : zRl wov c (w - n) (nI b) y ≤ (w - n) - y := zRl_room
        exact Or.inr ⟨e, h1, by omega, h4⟩
/-- a slit is sewn -/
theorem p_sew (h : pIv c r w lim tol cart wov lot sew mis cnt col len lef sbt shd) {k : Nat} (hk : k < zSc wov c w lim) : pIv c r w lim tol cart wov lot (zSwS wov sew c w lim (nI k)) mis cnt col len lef sbt shd ∧ (pSs wov sew c w lim k = false → zCi (zSwS wov sew c w lim (nI k)) 1 c r = zCi sew 1 c r + 1) := by
  obtain ⟨hD, hC, hW, hL, hM, hS, hF⟩ := h
  have hD' := hD
  obtain ⟨d1, d2, d3, d4, d5, d6, d7, d8, d9⟩ := hD'
  obtain ⟨-, h2, h3, h4⟩ := pL_at hk
  obtain ⟨-, e1, e2, e3⟩ := pPlace d2 (show w ≤ 16 by omega) hk
  have e : zSwS wov sew c w lim (nI k) = upd sew (20 * pY wov c w lim k + pB wov c w lim k) 1 := by
    unfold zSwS
    rw [if_neg e1, e3, e2, zPutG_n (by omega) (by omega)]
  have hS' : pSe wov (zSwS wov sew c w lim (nI k)) c w lim := by
    rw [e]
    intro b y hb hy
    unfold upd
    split
    · rename_i z
      have z1 : b = pB wov c w lim k := by omega
      have z2 : y = pY wov c w lim k := by omega
      rw [z1, z2]
      exact Or.inr ⟨rfl, h2, h3, h4⟩
    · exact hS b y hb hy
  refine ⟨⟨hD, hC, hW, hL, hM, hS', hF⟩, fun hs => ?_⟩
  rw [pSewn hS' d2 d4 d5, pSewn hS d2 d4 d5]
  have hinj : ∀ j, j < zSc wov c w lim → 20 * pY wov c w lim j + pB wov c w lim j = 20 * pY wov c w lim k + pB wov c w lim k → j = k := fun j hj q => by
    obtain ⟨-, j2, j3, -⟩ := pL_at hj
    have z1 : pB wov c w lim j = pB wov c w lim k := by omega
    have z2 : pY wov c w lim j = pY wov c w lim k := by omega
    rcases Nat.lt_trichotomy j k with z | z | z
    · have := pOrdLt (wov := wov) (c := c) (lm := lim) (show w ≤ 16 by omega) hk z
      omega
    · exact z
    · have := pOrdLt (wov := wov) (c := c) (lm := lim) (show w ≤ 16 by omega) hj z
      omega
  have hv : ∀ j, j < zSc wov c w lim → pSs wov (zSwS wov sew c w lim (nI k)) c w lim j = if j = k then true else pSs wov sew c w lim j := fun j hj => by
    obtain ⟨-, j2, j3, -⟩ := pL_at hj
    unfold pSs
    rw [zAt_n (by omega) (by omega), zAt_n (by omega) (by omega), e]
    unfold upd
    by_cases z : j = k
    · subst z; rw [if_pos rfl, if_pos rfl]; decide
    · rw [if_neg z, if_neg fun y => z (hinj j hj y)]
  have hone := zCt_upd (p := pSs wov sew c w lim) hs (zSc wov c w lim)
  rw [if_pos hk] at hone
  rw [← hone]
  exact zCt_cg fun j hj => hv j hj
end PBACK
