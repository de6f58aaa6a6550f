/-! calls that change a loom keep what holds of it -/
theorem zAt_fl {f g : Nat → Int32} : zAt (zFl f g 320) = zAt f := by
  funext b y
  unfold zAt
  by_cases h1 : b < 0
  · rw [if_pos h1, if_pos h1]
  · rw [if_neg h1, if_neg h1]
    by_cases h2 : nI 20 ≤ b
    · rw [if_pos h2, if_pos h2]
    · rw [if_neg h2, if_neg h2]
      rcases pk_ix (y * nI 20 + b) (n := 320) (by decide) with h | h | ⟨j, hj, e⟩
      · rw [if_pos h, if_pos h]
      · by_cases h3 : y * nI 20 + b < 0
        · rw [if_pos h3, if_pos h3]
        · rw [if_neg h3, if_neg h3, if_pos h, if_pos h]
      · rw [e, nI_clamp (by omega), zFl_in hj]
theorem zAtN_fl {n : Nat} {f g : Nat → Int32} (hn : n < 2 ^ 31) : zAtN n (zFl f g n) = zAtN n f := by
  funext i
  unfold zAtN
  rcases pk_ix i hn with h | h | ⟨j, hj, e⟩
  · rw [if_pos h, if_pos h]
  · by_cases h3 : i < 0
    · rw [if_pos h3, if_pos h3]
    · rw [if_neg h3, if_neg h3, if_pos h, if_pos h]
  · rw [e, nI_clamp (by omega), zFl_in hj]
theorem zSh_fl {f g : Nat → UInt32} : zSh (zFl f g 16) = zSh f := by
  funext i
  unfold zSh
  rcases pk_ix i (n := 16) (by decide) with h | h | ⟨j, hj, e⟩
  · rw [if_pos h, if_pos h]
  · by_cases h3 : i < 0
    · rw [if_pos h3, if_pos h3]
    · rw [if_neg h3, if_neg h3, if_pos h, if_pos h]
  · rw [e, nI_clamp (by omega), zFl_in hj]
theorem zRl_fl {f g : Nat → Int32} {c w : Nat} {b : Int32} {a : Nat} : zRl (zFl f g 320) c w b a = zRl f c w b a := by
  unfold zRl zPa
  simp only [zAt_fl]
theorem zCi_fl {f g : Nat → Int32} {v : Int32} {c w : Nat} : zCi (zFl f g 320) v c w = zCi f v c w := by
  unfold zCi zCe
  simp only [zAt_fl]
theorem zGa_fl {f g f2 g2 : Nat → Int32} {s t : Nat → UInt32} {c w : Nat} {x : UInt32} : zGa (zFl f g 320) (zFl f2 g2 320) (zFl s t 16) c w x = zGa f f2 s c w x := by
  unfold zGa zG1 zG2 zGp zSe zWo
  simp only [zAt_fl, zSh_fl]
section PKEEP
variable {c r w lim : Nat} {tol : Int32} {cart wov lot sew mis : Nat → Int32} {cnt : Nat} {col len lef sbt : Nat → Int32} {shd : Nat → UInt32}
/-- a copy of a loom, over any other -/
theorem p_copy (h : pIv c r w lim tol cart wov lot sew mis cnt col len lef sbt shd) {a1 a2 a3 a4 a5 a6 a7 a8 a9 : Nat → Int32} {a0 : Nat → UInt32} (h0 : ∀ j, zFinS (a0 j)) : pIv c r w lim tol (zFl cart a1 320) (zFl wov a2 320) (zFl lot a3 320) (zFl sew a4 320) (zFl mis a5 20) cnt (zFl col a6 16) (zFl len a7 16) (zFl lef a8 16) (zFl sbt a9 16) (zFl shd a0 16) := by
  obtain ⟨hD, hC, hW, ⟨n, m, hL⟩, hM, hS, hF⟩ := h
  have hD' := hD
  obtain ⟨d1, d2, d3, d4, d5, d6, d7, d8, d9⟩ := hD'
  refine ⟨hD, fun y b hy hb => ?_, fun y b hy hb => ?_, ⟨n, m, fun k hk => ?_⟩, fun b hb => ?_, fun b y hb hy => ?_, fun j => ?_⟩
  · rw [zFl_in (by omega)]; exact hC y b hy hb
  · obtain ⟨v, j, h1, h2, h3, h4, h5⟩ := hW y b hy hb
    exact ⟨v, j, h1, h2, by rw [zFl_in (by omega)]; exact h3, by rw [zFl_in (by omega)]; exact h4, by rw [zFl_in (by omega)]; exact h5⟩
  · rw [zFl_in (by omega), zFl_in (by omega), zFl_in (by omega), zCi_fl]; exact hL k hk
  · rw [zFl_in hb]; exact hM b hb
  · rw [zFl_in (by omega), zRl_fl]; exact hS b y hb hy
  · unfold zFl
    split
    · exact hF j
    · exact h0 j
theorem p_begin (h : pIv c r w lim tol cart wov lot sew mis cnt col len lef sbt shd) {a b : Nat} (ha : 1 ≤ a) (ha2 : a ≤ 20) (hb : 1 ≤ b) (hb2 : b ≤ 16) : pIv a b 0 lim tol (zFl (fun _ => 0) cart 320) wov lot (zFl (fun _ => 0) sew 320) (zFl (fun _ => (-1)) mis 20) cnt col len lef sbt shd := by
  obtain ⟨hD, hC, hW, ⟨n, m, hL⟩, hM, hS, hF⟩ := h
  obtain ⟨d1, d2, d3, d4, d5, d6, d7, d8, d9⟩ := hD
  refine ⟨⟨ha, ha2, hb, hb2, Nat.zero_le _, d6, d7, d8, d9⟩, fun y x hy hx => ⟨0, by omega, by rw [zFl_in (by omega)]; rfl⟩, fun y x hy _ => absurd hy (by omega), ⟨n, m, fun k hk => ?_⟩, fun x hx => Or.inl (by rw [zFl_in hx]), fun x y hx hy => Or.inl (by rw [zFl_in (by omega)]), hF⟩
  obtain ⟨h1, h2, h3, h4, h5⟩ := hL k hk
  exact ⟨h1, h2, h3, h4, by show n k + 0 ≤ m k; omega⟩
/-- a row of a rectangle is painted -/
theorem pPaintRow {x Y : Nat} {v : Int32} (hc : c ≤ 20) (hY : Y < 16) (q : (Nat → Int32) × Nat) : ∀ n : Nat, x + n ≤ c → ∀ j, (zIt (fun i (q : (Nat → Int32) × Nat) => (zPutG q.1 (nI c - 1 - nI (x + i)) (nI Y) v, q.2 + (if zAt q.1 (nI c - 1 - nI (x + i)) (nI Y) = v then 0 else 1))) n q).1 j = if 20 * Y + (c - (x + n)) ≤ j ∧ j < 20 * Y + (c - x) then v else q.1 j
  | 0, _, j => by rw [if_neg (by omega)]; rfl
  | n + 1, hn, j => by
    have ih := pPaintRow (x := x) (v := v) hc hY q n (by omega) j
    show zPutG (zIt _ n q).1 (nI c - 1 - nI (x + n)) (nI Y) v j = _
    rw [nI_sub1 (show x + n < c by omega), zPutG_n (show c - 1 - (x + n) < 20 by omega) hY]
    unfold upd
    by_cases e : j = 20 * Y + (c - 1 - (x + n))
    · rw [if_pos e, if_pos (by omega)]
    · rw [if_neg e, ih]
      by_cases e2 : 20 * Y + (c - (x + n)) ≤ j ∧ j < 20 * Y + (c - x)
      · rw [if_pos e2, if_pos (by omega)]
      · rw [if_neg e2, if_neg (by omega)]
theorem pPaint {x y u : Nat} {v : Int32} (hc : c ≤ 20) (hxu : x ≤ u) (hu : u < c) (f : Nat → Int32) : ∀ n : Nat, y + n ≤ 16 → ∀ j, (zIt (fun k q => zIt (fun i (q : (Nat → Int32) × Nat) => (zPutG q.1 (nI c - 1 - nI (x + i)) (nI (y + k)) v, q.2 + (if zAt q.1 (nI c - 1 - nI (x + i)) (nI (y + k)) = v then 0 else 1))) (u + 1 - x) q) n (f, 0)).1 j = v ∨ (zIt (fun k q => zIt (fun i (q : (Nat → Int32) × Nat) => (zPutG q.1 (nI c - 1 - nI (x + i)) (nI (y + k)) v, q.2 + (if zAt q.1 (nI c - 1 - nI (x + i)) (nI (y + k)) = v then 0 else 1))) (u + 1 - x) q) n (f, 0)).1 j = f j ∧ ¬ (0 < n ∧ j = 20 * y + (c - 1 - x))
  | 0, _, j => Or.inr ⟨rfl, fun z => by omega⟩
  | n + 1, hn, j => by
    have ih := pPaint (y := y) (v := v) hc hxu hu f n (by omega) j
    show (zIt _ (u + 1 - x) (zIt _ n (f, 0))).1 j = v ∨ (zIt _ (u + 1 - x) (zIt _ n (f, 0))).1 j = f j ∧ _
    rw [pPaintRow hc (show y + n < 16 by omega) _ (u + 1 - x) (by omega) j]
    split
    · exact Or.inl rfl
    · rename_i e
      rcases ih with q | ⟨q, z⟩
      · exact Or.inl q
      · refine Or.inr ⟨q, fun k => ?_⟩
        by_cases e0 : n = 0
        · subst e0; exact e (by omega)
        · exact z ⟨by omega, k.2⟩
theorem p_fill (h : pIv c r w lim tol cart wov lot sew mis cnt col len lef sbt shd) {x y u z v : Nat} (hv : v < 8) (hxu : x ≤ u) (hu : u < c) (hyz : y ≤ z) (hz : z < r) : pIv c r w lim tol (zPt c x y u z (nI v) cart).1 wov lot sew mis cnt col len lef sbt shd ∧ zAt (zPt c x y u z (nI v) cart).1 (nI (c - 1 - x)) (nI y) = nI v := by
  obtain ⟨hD, hC, hW, hL, hM, hS, hF⟩ := h
  have hD' := hD
  obtain ⟨d1, d2, d3, d4, d5, d6, d7, d8, d9⟩ := hD'
  have key := fun j => pPaint (y := y) (v := nI v) d2 hxu hu cart (z + 1 - y) (by omega) j
  refine ⟨⟨hD, fun y1 b1 h1 h2 => ?_, hW, hL, hM, hS, hF⟩, ?_⟩
  · rcases key (20 * y1 + b1) with q | ⟨q, -⟩
    · exact ⟨v, hv, q⟩
    · obtain ⟨v1, h3, h4⟩ := hC y1 b1 h1 h2
      exact ⟨v1, h3, q.trans h4⟩
  · rw [zAt_n (by omega) (by omega)]
    rcases key (20 * y + (c - 1 - x)) with q | ⟨-, q⟩
    · exact q
    · exact absurd ⟨by omega, rfl⟩ q
theorem p_limit (h : pIv c r w lim tol cart wov lot sew mis cnt col len lef sbt shd) {a : Nat} (ha : 1 ≤ a) (ha2 : a ≤ 16) : pIv c r w a tol cart wov lot (zFg wov sew c w a) mis cnt col len lef sbt shd := by
  obtain ⟨hD, hC, hW, hL, hM, hS, hF⟩ := h
  obtain ⟨d1, d2, d3, d4, d5, d6, d7, d8, d9⟩ := hD
  refine ⟨⟨d1, d2, d3, d4, d5, ha, ha2, d8, d9⟩, hC, hW, hL, hM, fun b y hb hy => ?_, hF⟩
  rw [zFg_at hb hy]
  split
  · exact Or.inl rfl
  · rename_i q
    rcases hS b y hb hy with e | ⟨e, h1, h2, h3⟩
    · exact Or.inl e
    · exact Or.inr ⟨e, h1, h2, Nat.lt_of_not_le fun z => q ⟨e, z⟩⟩
theorem p_plant (h : pIv c r w lim tol cart wov lot sew mis cnt col len lef sbt shd) {b v : Nat} (hb : b < c) (hv : v < 8) : pIv c r w lim tol cart wov lot sew (zPutN 20 mis (nI b) (nI v)) cnt col len lef sbt shd ∧ 1 ≤ zOth 20 (zPutN 20 mis (nI b) (nI v)) (-1) := by
  obtain ⟨hD, hC, hW, hL, hM, hS, hF⟩ := h
  have hD' := hD
  obtain ⟨d1, d2, d3, d4, d5, d6, d7, d8, d9⟩ := hD'
  rw [zPutN_n (by omega) (by decide)]
  refine ⟨⟨hD, hC, hW, hL, fun x hx => ?_, hS, hF⟩, ?_⟩
  · unfold upd
    split
    · rename_i e
      exact Or.inr ⟨by omega, v, hv, rfl⟩
    · exact hM x hx
  · unfold zOth
    refine zCt_ge (k := b) (by omega) ?_
    have : upd mis b (nI v) b = nI v := if_pos rfl
    rw [this, beq_eq_false_iff_ne.mpr fun z => nI_m1 (by omega) z]
    rfl
/-- cells of a lot that has none yet -/
theorem pCi_0 (hW : pWo wov lot col c w cnt) (hc : c ≤ 20) (hw : w ≤ 16) (hn : cnt < 16) : zCi lot (nI cnt) c w = 0 := by
  unfold zCi
  rw [zSN_z0]
  intro y hy
  unfold zCe
  rw [zCt_cg (Q := fun _ => false) fun b hb => ?_, zCt_SN]
  · simp [zSN_const]
  · obtain ⟨e, h1, -⟩ := hW.lot hc hw (by omega) hy hb
    rw [e, beq_eq_false_iff_ne]
    exact fun z => by have := m_eq (by omega) (by omega) z; omega
theorem p_add (h : pIv c r w lim tol cart wov lot sew mis cnt col len lef sbt shd) {v l s : Nat} (hn : cnt < 16) (hv : v < 8) (hl : l ≤ 999) (hs : s ≤ 1120403456) : pIv c r w lim tol cart wov lot sew mis (cnt + 1) (zPutN 16 col (nI cnt) (nI v)) (zPutN 16 len (nI cnt) (nI l)) (zPutN 16 lef (nI cnt) (nI l)) (zPutN 16 sbt (nI cnt) (nI s)) (zPutS shd (nI cnt) (zFb (nI s))) := by
  obtain ⟨hD, hC, hW, ⟨n, m, hL⟩, hM, hS, hF⟩ := h
  obtain ⟨d1, d2, d3, d4, d5, d6, d7, d8, d9⟩ := hD
  rw [zPutN_n hn (by decide), zPutN_n hn (by decide), zPutN_n hn (by decide), zPutN_n hn (by decide)]
  refine ⟨⟨d1, d2, d3, d4, d5, d6, d7, by omega, d9⟩, hC, fun y b hy hb => ?_, ⟨fun k => if k = cnt then l else n k, fun k => if k = cnt then l else m k, fun k hk => ?_⟩, hM, hS, zPutS_ok hF ?_⟩
  · obtain ⟨v1, j, h1, h2, h3, h4, h5⟩ := hW y b hy hb
    exact ⟨v1, j, h1, by omega, h3, h4, by rw [upd_ne (by omega)]; exact h5⟩
  · by_cases e : k = cnt
    · subst e
      simp only [↓reduceIte]
      rw [upd_eq, upd_eq, upd_eq]
      exact ⟨⟨v, hv, rfl⟩, rfl, rfl, hl, by rw [pCi_0 hW d2 (by omega) hn]; omega⟩
    · simp only [if_neg e]
      rw [upd_ne e, upd_ne e, upd_ne e]
      exact hL k (Nat.lt_of_le_of_ne (Nat.le_of_lt_succ hk) e)
  · rw [fy_fb hs]
    unfold zFinS
    rw [show (nI s).toUInt32.toNat = s from by
      show (BitVec.ofNat 32 s).toNat = s
      rw [BitVec.toNat_ofNat, Nat.mod_eq_of_lt (by omega)]]
    exact hs
end PKEEP
