/-! the calls that change the loom, at the law's own wrappers -/
def pGd (S : zS) (X : zXr) : Prop := pIv S.1 S.2.1 S.2.2.1 S.2.2.2.1 S.2.2.2.2.1 S.2.2.2.2.2.1 S.2.2.2.2.2.2.1 S.2.2.2.2.2.2.2.1 S.2.2.2.2.2.2.2.2.1 S.2.2.2.2.2.2.2.2.2.1 S.2.2.2.2.2.2.2.2.2.2.1 S.2.2.2.2.2.2.2.2.2.2.2.1 S.2.2.2.2.2.2.2.2.2.2.2.2.1 S.2.2.2.2.2.2.2.2.2.2.2.2.2.1 S.2.2.2.2.2.2.2.2.2.2.2.2.2.2.1 S.2.2.2.2.2.2.2.2.2.2.2.2.2.2.2 ∧ X.2.2.2.2.2.1 < 4 ∧ X.2.2.2.2.1 ≤ 4 ∧ zFin4 X.1 ∧ zFin4 X.2.1 ∧ zFin4 X.2.2.1 ∧ zFin4 X.2.2.2.1
theorem pGd.fin {S : zS} {X : zXr} (h : pGd S X) : zFin4 S := h.1.2.2.2.2.2.2
/-- a state is saved -/
theorem pSv {a b : Nat} {A B : zS} (h1 : zFin4 A) (h2 : zFin4 B) : zFin4 (if a = b then A else B) := by
  split
  · exact h1
  · exact h2
theorem pGd.save {S S2 : zS} {X : zXr} (h : pGd S X) (h2 : pGd S2 X) : pGd S2 (zSvd S X) := by
  have hf := h.fin
  obtain ⟨-, h3, h4, f1, f2, f3, f4⟩ := h
  obtain ⟨x1, x2, x3, x4, n, k, t⟩ := X
  dsimp only at f1 f2 f3 f4
  have e : zSvd S (x1, x2, x3, x4, n, k, t) = (if k = 0 then zCp S x1 else x1, if k = 1 then zCp S x2 else x2, if k = 2 then zCp S x3 else x3, if k = 3 then zCp S x4 else x4, min (n + 1) 4, (k + 1) % 4, t) := rfl
  rw [e]
  exact ⟨h2.1, Nat.mod_lt _ (by decide), Nat.min_le_right _ _, pSv (zCp_fin hf f1) f1, pSv (zCp_fin hf f2) f2, pSv (zCp_fin hf f3) f3, pSv (zCp_fin hf f4) f4⟩
theorem pLast {S : zS} {X : zXr} (h : pGd S X) : ∃ A : zS, zFin4 A ∧ zLast (zSvd S X) = zCp S A := by
  obtain ⟨-, h3, h4, f1, f2, f3, f4⟩ := h
  obtain ⟨x1, x2, x3, x4, n, k, t⟩ := X
  dsimp only at h3 f1 f2 f3 f4
  have : k = 0 ∨ k = 1 ∨ k = 2 ∨ k = 3 := by omega
  rcases this with rfl | rfl | rfl | rfl
  · exact ⟨x1, f1, rfl⟩
  · exact ⟨x2, f2, rfl⟩
  · exact ⟨x3, f3, rfl⟩
  · exact ⟨x4, f4, by simp [zLast, zSvd]⟩
/-- the same state, saved or not: what a call leaves is a loom again -/
theorem pGd.mk {S : zS} {X : zXr} {c2 r2 w2 lim2 : Nat} {tol2 : Int32} {cart2 wov2 lot2 sew2 mis2 : Nat → Int32} {cnt2 : Nat} {col2 len2 lef2 sbt2 : Nat → Int32} {shd2 : Nat → UInt32} (h : pGd S X) (h2 : pIv c2 r2 w2 lim2 tol2 cart2 wov2 lot2 sew2 mis2 cnt2 col2 len2 lef2 sbt2 shd2) : pGd (c2, r2, w2, lim2, tol2, cart2, wov2, lot2, sew2, mis2, cnt2, col2, len2, lef2, sbt2, shd2) (zSvd S X) := pGd.save h ⟨h2, h.2⟩
theorem pGd.iv {X : zXr} {c2 r2 w2 lim2 : Nat} {tol2 : Int32} {cart2 wov2 lot2 sew2 mis2 : Nat → Int32} {cnt2 : Nat} {col2 len2 lef2 sbt2 : Nat → Int32} {shd2 : Nat → UInt32} (h : pGd (c2, r2, w2, lim2, tol2, cart2, wov2, lot2, sew2, mis2, cnt2, col2, len2, lef2, sbt2, shd2) X) : pIv c2 r2 w2 lim2 tol2 cart2 wov2 lot2 sew2 mis2 cnt2 col2 len2 lef2 sbt2 shd2 ∧ X.2.2.2.2.2.1 < 4 ∧ X.2.2.2.2.1 ≤ 4 := ⟨h.1, h.2.1, h.2.2.1⟩
/-- a copy of a copy -/
theorem p_copy2 {S A B : zS} {X X3 : zXr} (h : pGd S X) (hA : zFin4 A) (hB : zFin4 B) (h3 : X3.2.2.2.2.2.1 < 4 ∧ X3.2.2.2.2.1 ≤ 4 ∧ zFin4 X3.1 ∧ zFin4 X3.2.1 ∧ zFin4 X3.2.2.1 ∧ zFin4 X3.2.2.2.1) : pGd (zCp (zCp S A) B) X3 :=
  ⟨p_copy (a1 := B.2.2.2.2.2.1) (a2 := B.2.2.2.2.2.2.1) (a3 := B.2.2.2.2.2.2.2.1) (a4 := B.2.2.2.2.2.2.2.2.1) (a5 := B.2.2.2.2.2.2.2.2.2.1) (a6 := B.2.2.2.2.2.2.2.2.2.2.2.1) (a7 := B.2.2.2.2.2.2.2.2.2.2.2.2.1) (a8 := B.2.2.2.2.2.2.2.2.2.2.2.2.2.1) (a9 := B.2.2.2.2.2.2.2.2.2.2.2.2.2.2.1) (a0 := B.2.2.2.2.2.2.2.2.2.2.2.2.2.2.2) (p_copy (a1 := A.2.2.2.2.2.1) (a2 := A.2.2.2.2.2.2.1) (a3 := A.2.2.2.2.2.2.2.1) (a4 := A.2.2.2.2.2.2.2.2.1) (a5 := A.2.2.2.2.2.2.2.2.2.1) (a6 := A.2.2.2.2.2.2.2.2.2.2.2.1) (a7 := A.2.2.2.2.2.2.2.2.2.2.2.2.1) (a8 := A.2.2.2.2.2.2.2.2.2.2.2.2.2.1) (a9 := A.2.2.2.2.2.2.2.2.2.2.2.2.2.2.1) (a0 := A.2.2.2.2.2.2.2.2.2.2.2.2.2.2.2) h.1 hA) hB, h3⟩
theorem p_ga2 {S A B : zS} {t : UInt32} : zGa (zCp (zCp S A) B).2.2.2.2.2.2.1 (zCp (zCp S A) B).2.2.2.2.2.2.2.1 (zCp (zCp S A) B).2.2.2.2.2.2.2.2.2.2.2.2.2.2.2 S.1 S.2.2.1 t = zGa S.2.2.2.2.2.2.1 S.2.2.2.2.2.2.2.1 S.2.2.2.2.2.2.2.2.2.2.2.2.2.2.2 S.1 S.2.2.1 t := zGa_fl.trans zGa_fl
theorem h_wholeS {G : zT} {S : zS} {X : zXr} {Y : zYr} {out : Nat → Int64} (hG : zAl G = false) (h : pGd S X) (t : Nat) {a v : Int32} (ht : t ≤ 14) (ha : nI t = a) (hv : zWh S.1 S.2.1 S.2.2.1 S.2.2.2.1 S.2.2.2.2.1 S.2.2.2.2.2.1 S.2.2.2.2.2.2.1 S.2.2.2.2.2.2.2.1 S.2.2.2.2.2.2.2.2.1 S.2.2.2.2.2.2.2.2.2.1 S.2.2.2.2.2.2.2.2.2.2.1 S.2.2.2.2.2.2.2.2.2.2.2.2.2.2.2 (nI (X.2.2.2.2.2.2.2.1)) t = v) : zRun G mL_whole 0 0 [.ref 0, .int a] (zHp S X Y out) (.inr (some (.int v))) (zHp S X Y out) := h_whole hG h.1 h.2.1 h.2.2.1 t ht ha hv
theorem h_holdsS {G : zT} {S : zS} {X : zXr} {Y : zYr} {out : Nat → Int64} (hG : zAl G = false) (h : pGd S X) : zRun G mL_holds 0 0 [.ref 0] (zHp S X Y out) (.inr (some (.int 1))) (zHp S X Y out) := h_holds hG h.1 h.2.1 h.2.2.1

set_option maxRecDepth 100000 in
theorem s_begin {G : zT} {c r w lim : Nat} {tol : Int32} {cart wov lot sew mis : Nat → Int32} {cnt : Nat} {col len lef sbt : Nat → Int32} {shd : Nat → UInt32} {X : zXr} {Y : zYr} {out : Nat → Int64} (hG : zAl G = false) (h : pGd (c, r, w, lim, tol, cart, wov, lot, sew, mis, cnt, col, len, lef, sbt, shd) X) {a b : Nat} (ha : 1 ≤ a) (ha2 : a ≤ 20) (hb : 1 ≤ b) (hb2 : b ≤ 16) : zRun G mL_begins 0 0 [.ref 0, .int (nI a), .int (nI b)] (zHp (c, r, w, lim, tol, cart, wov, lot, sew, mis, cnt, col, len, lef, sbt, shd) X Y out) (.inr (some (.int (nI w)))) (zHp (a, b, 0, lim, tol, (zFl (fun _ => 0) cart 320), wov, lot, (zFl (fun _ => 0) sew 320), (zFl (fun _ => (-1)) mis 20), cnt, col, len, lef, sbt, shd) (zSvd (c, r, w, lim, tol, cart, wov, lot, sew, mis, cnt, col, len, lef, sbt, shd) X) Y out) ∧ pGd (a, b, 0, lim, tol, (zFl (fun _ => 0) cart 320), wov, lot, (zFl (fun _ => 0) sew 320), (zFl (fun _ => (-1)) mis 20), cnt, col, len, lef, sbt, shd) (zSvd (c, r, w, lim, tol, cart, wov, lot, sew, mis, cnt, col, len, lef, sbt, shd) X) := by
  obtain ⟨hi, h4, hc4⟩ := h.iv
  have hi9 := hi
  obtain ⟨⟨d1, d2, d3, d4, d5, d6, d7, d8, d9⟩, -, -, -, -, hS9, hF⟩ := hi9
  exact ⟨c_w_begins hG (c_f_begin hG d2 d4 d5 d8 d7 hF d1 h4 hc4 a b (by rw [zFr_1 ha ha2 (by decide), zFr_1 hb hb2 (by decide)]; rfl)), pGd.mk h (p_begin hi ha ha2 hb hb2)⟩
set_option maxRecDepth 100000 in
theorem s_lots {G : zT} {c r w lim : Nat} {tol : Int32} {cart wov lot sew mis : Nat → Int32} {cnt : Nat} {col len lef sbt : Nat → Int32} {shd : Nat → UInt32} {X : zXr} {Y : zYr} {out : Nat → Int64} (hG : zAl G = false) (h : pGd (c, r, w, lim, tol, cart, wov, lot, sew, mis, cnt, col, len, lef, sbt, shd) X) {v l s : Nat} (hn : cnt < 16) (hv : v < 8) (hl1 : 1 ≤ l) (hl : l ≤ 999) (hs : s ≤ 1120403456) : zRun G mL_lots 0 0 [.ref 0, .int (nI v), .int (nI l), .int (nI s)] (zHp (c, r, w, lim, tol, cart, wov, lot, sew, mis, cnt, col, len, lef, sbt, shd) X Y out) (.inr (some (.int (nI cnt)))) (zHp (c, r, w, lim, tol, cart, wov, lot, sew, mis, (cnt + 1), (zPutN 16 col (nI cnt) (nI v)), (zPutN 16 len (nI cnt) (nI l)), (zPutN 16 lef (nI cnt) (nI l)), (zPutN 16 sbt (nI cnt) (nI s)), (zPutS shd (nI cnt) (zFb (nI s)))) (zSvd (c, r, w, lim, tol, cart, wov, lot, sew, mis, cnt, col, len, lef, sbt, shd) X) Y out) ∧ pGd (c, r, w, lim, tol, cart, wov, lot, sew, mis, (cnt + 1), (zPutN 16 col (nI cnt) (nI v)), (zPutN 16 len (nI cnt) (nI l)), (zPutN 16 lef (nI cnt) (nI l)), (zPutN 16 sbt (nI cnt) (nI s)), (zPutS shd (nI cnt) (zFb (nI s)))) (zSvd (c, r, w, lim, tol, cart, wov, lot, sew, mis, cnt, col, len, lef, sbt, shd) X) := by
  obtain ⟨hi, h4, hc4⟩ := h.iv
  have hi9 := hi
  obtain ⟨⟨d1, d2, d3, d4, d5, d6, d7, d8, d9⟩, -, -, -, -, hS9, hF⟩ := hi9
  exact ⟨c_w_lots hG (c_f_addLot hG d2 d4 d5 d8 d7 hF d1 h4 hc4 (nI v) (nI l) (nI s) hn (by rw [zFr_b rfl (b := 7) (by decide) (by omega) (by decide), zFr_1 hl1 hl (by decide), zFr_b rfl (b := 1120403456) (by decide) hs (by decide), Bool.or_true, Bool.true_and, Bool.true_and, if_pos rfl, if_neg (nI_ge hn (by decide))])), pGd.mk h (p_add hi hn hv hl hs)⟩
set_option maxRecDepth 100000 in
theorem s_fills {G : zT} {c r w lim : Nat} {tol : Int32} {cart wov lot sew mis : Nat → Int32} {cnt : Nat} {col len lef sbt : Nat → Int32} {shd : Nat → UInt32} {X : zXr} {Y : zYr} {out : Nat → Int64} (hG : zAl G = false) (h : pGd (c, r, w, lim, tol, cart, wov, lot, sew, mis, cnt, col, len, lef, sbt, shd) X) {x y u z v : Nat} (hv : v < 8) (hxu : x ≤ u) (hu : u < c) (hyz : y ≤ z) (hz : z < r) : zRun G mL_fills 0 0 [.ref 0, .int (nI x), .int (nI y), .int (nI u), .int (nI z), .int (nI v)] (zHp (c, r, w, lim, tol, cart, wov, lot, sew, mis, cnt, col, len, lef, sbt, shd) X Y out) (.inr (some (.int (nI (zPt c x y u z (nI v) cart).2)))) (zHp (c, r, w, lim, tol, (zPt c x y u z (nI v) cart).1, wov, lot, sew, mis, cnt, col, len, lef, sbt, shd) (zSvd (c, r, w, lim, tol, cart, wov, lot, sew, mis, cnt, col, len, lef, sbt, shd) X) Y out) ∧ pGd (c, r, w, lim, tol, (zPt c x y u z (nI v) cart).1, wov, lot, sew, mis, cnt, col, len, lef, sbt, shd) (zSvd (c, r, w, lim, tol, cart, wov, lot, sew, mis, cnt, col, len, lef, sbt, shd) X) ∧ zRun G mL_cells 0 0 [.ref 0, .int (nI x), .int (nI y), .int 0] (zHp (c, r, w, lim, tol, (zPt c x y u z (nI v) cart).1, wov, lot, sew, mis, cnt, col, len, lef, sbt, shd) (zSvd (c, r, w, lim, tol, cart, wov, lot, sew, mis, cnt, col, len, lef, sbt, shd) X) Y out) (.inr (some (.int (nI v)))) (zHp (c, r, w, lim, tol, (zPt c x y u z (nI v) cart).1, wov, lot, sew, mis, cnt, col, len, lef, sbt, shd) (zSvd (c, r, w, lim, tol, cart, wov, lot, sew, mis, cnt, col, len, lef, sbt, shd) X) Y out) := by
  obtain ⟨hi, h4, hc4⟩ := h.iv
  have hi9 := hi
  obtain ⟨⟨d1, d2, d3, d4, d5, d6, d7, d8, d9⟩, -, -, -, -, hS9, hF⟩ := hi9
  obtain ⟨p1, p2⟩ := p_fill hi hv hxu hu hyz hz
  have g := pGd.mk h p1
  refine ⟨c_w_fills hG (c_f_fill hG d2 d4 d5 d8 d7 hF d1 h4 hc4 x y u z (nI v) hxu hu hyz hz ?_), g, ?_⟩
  · rw [zFr_in2 (show x < c by omega) (by omega), zFr_in2 (show y < r by omega) (by omega), zFr_in2 hu (by omega), zFr_in2 hz (by omega), Bool.and_true, Bool.and_true, if_pos rfl, if_neg (nI_nlt hxu (by omega)), if_neg (nI_nlt hyz (by omega)), zFr_b rfl (b := 7) (by decide) (by omega) (by decide), if_pos rfl]
  · obtain ⟨g1, g2, g3⟩ := g.iv
    exact h_cell hG g1 g2 g3 0 (show x < c by omega) (show y < r by omega) (by decide) (by rw [zCv, if_pos rfl, nI_sub1 (show x < c by omega), p2])
set_option maxRecDepth 100000 in
theorem s_plants {G : zT} {c r w lim : Nat} {tol : Int32} {cart wov lot sew mis : Nat → Int32} {cnt : Nat} {col len lef sbt : Nat → Int32} {shd : Nat → UInt32} {X : zXr} {Y : zYr} {out : Nat → Int64} (hG : zAl G = false) (h : pGd (c, r, w, lim, tol, cart, wov, lot, sew, mis, cnt, col, len, lef, sbt, shd) X) {b v : Nat} (hb : b < c) (hv : v < 8) : ∃ k, 1 ≤ k ∧ k ≤ 20 ∧ zRun G mL_plants 0 0 [.ref 0, .int (nI b), .int (nI v)] (zHp (c, r, w, lim, tol, cart, wov, lot, sew, mis, cnt, col, len, lef, sbt, shd) X Y out) (.inr (some (.int (nI k)))) (zHp (c, r, w, lim, tol, cart, wov, lot, sew, (zPutN 20 mis (nI b) (nI v)), cnt, col, len, lef, sbt, shd) (zSvd (c, r, w, lim, tol, cart, wov, lot, sew, mis, cnt, col, len, lef, sbt, shd) X) Y out) ∧ pGd (c, r, w, lim, tol, cart, wov, lot, sew, (zPutN 20 mis (nI b) (nI v)), cnt, col, len, lef, sbt, shd) (zSvd (c, r, w, lim, tol, cart, wov, lot, sew, mis, cnt, col, len, lef, sbt, shd) X) ∧ zRun G mL_whole 0 0 [.ref 0, .int 4] (zHp (c, r, w, lim, tol, cart, wov, lot, sew, (zPutN 20 mis (nI b) (nI v)), cnt, col, len, lef, sbt, shd) (zSvd (c, r, w, lim, tol, cart, wov, lot, sew, mis, cnt, col, len, lef, sbt, shd) X) Y out) (.inr (some (.int (nI k)))) (zHp (c, r, w, lim, tol, cart, wov, lot, sew, (zPutN 20 mis (nI b) (nI v)), cnt, col, len, lef, sbt, shd) (zSvd (c, r, w, lim, tol, cart, wov, lot, sew, mis, cnt, col, len, lef, sbt, shd) X) Y out) := by
  obtain ⟨hi, h4, hc4⟩ := h.iv
  have hi9 := hi
  obtain ⟨⟨d1, d2, d3, d4, d5, d6, d7, d8, d9⟩, -, -, -, -, hS9, hF⟩ := hi9
  obtain ⟨p1, p2⟩ := p_plant hi hb hv
  have g := pGd.mk h p1
  refine ⟨_, p2, zCt_le _ _, c_w_plants hG (c_f_plant hG d2 d4 d5 d8 d7 hF d1 h4 hc4 (nI b) (nI v) (by rw [zFr_in2 hb (by omega), if_pos rfl, zFr_b rfl (b := 7) (by decide) (by omega) (by decide), if_pos rfl])), g, ?_⟩
  obtain ⟨g1, g2, g3⟩ := g.iv
  exact h_whole hG g1 g2 g3 4 (by omega) (by decide) rfl
set_option maxRecDepth 100000 in
theorem s_unweaves {G : zT} {c r w lim : Nat} {tol : Int32} {cart wov lot sew mis : Nat → Int32} {cnt : Nat} {col len lef sbt : Nat → Int32} {shd : Nat → UInt32} {X : zXr} {Y : zYr} {out : Nat → Int64} (hG : zAl G = false) (h : pGd (c, r, w, lim, tol, cart, wov, lot, sew, mis, cnt, col, len, lef, sbt, shd) X) {n : Nat} (h1 : 1 ≤ n) (hn : n ≤ w) : zRun G mL_unweaves 0 0 [.ref 0, .int (nI n)] (zHp (c, r, w, lim, tol, cart, wov, lot, sew, mis, cnt, col, len, lef, sbt, shd) X Y out) (.inr (some (.int (nI (n * c))))) (zHp (c, r, (w - n), lim, tol, cart, wov, lot, (zFg wov sew c (w - n) lim), mis, cnt, col, len, (zUw lot c w n lef), sbt, shd) (zSvd (c, r, w, lim, tol, cart, wov, lot, sew, mis, cnt, col, len, lef, sbt, shd) X) Y out) ∧ pGd (c, r, (w - n), lim, tol, cart, wov, lot, (zFg wov sew c (w - n) lim), mis, cnt, col, len, (zUw lot c w n lef), sbt, shd) (zSvd (c, r, w, lim, tol, cart, wov, lot, sew, mis, cnt, col, len, lef, sbt, shd) X) ∧ zRun G mL_whole 0 0 [.ref 0, .int 2] (zHp (c, r, (w - n), lim, tol, cart, wov, lot, (zFg wov sew c (w - n) lim), mis, cnt, col, len, (zUw lot c w n lef), sbt, shd) (zSvd (c, r, w, lim, tol, cart, wov, lot, sew, mis, cnt, col, len, lef, sbt, shd) X) Y out) (.inr (some (.int (nI (w - n))))) (zHp (c, r, (w - n), lim, tol, cart, wov, lot, (zFg wov sew c (w - n) lim), mis, cnt, col, len, (zUw lot c w n lef), sbt, shd) (zSvd (c, r, w, lim, tol, cart, wov, lot, sew, mis, cnt, col, len, lef, sbt, shd) X) Y out) := by
  obtain ⟨hi, h4, hc4⟩ := h.iv
  have hi9 := hi
  obtain ⟨⟨d1, d2, d3, d4, d5, d6, d7, d8, d9⟩, -, -, -, -, hS9, hF⟩ := hi9
  have g := pGd.mk h (p_unweave hi hn)
  refine ⟨c_w_unweaves hG (c_f_unweave hG d2 d4 d5 d8 d7 hF d1 h4 hc4 n hn (by rw [zFr_1 h1 (show n ≤ 16 by omega) (by decide), if_pos rfl, if_neg (nI_nlt hn (by omega))])), g, ?_⟩
  obtain ⟨g1, g2, g3⟩ := g.iv
  exact h_whole hG g1 g2 g3 2 (by omega) (by decide) rfl
set_option maxRecDepth 100000 in
theorem s_unweaves_2 {G : zT} {c r w lim : Nat} {tol : Int32} {cart wov lot sew mis : Nat → Int32} {cnt : Nat} {col len lef sbt : Nat → Int32} {shd : Nat → UInt32} {X : zXr} {Y : zYr} {out : Nat → Int64} (hG : zAl G = false) (h : pGd (c, r, w, lim, tol, cart, wov, lot, sew, mis, cnt, col, len, lef, sbt, shd) X) {n : Nat} (h1 : 1 ≤ n) (h16 : n ≤ 16) (hn : w < n) : zRun G mL_unweaves 1 6 [.ref 0, .int (nI n)] (zHp (c, r, w, lim, tol, cart, wov, lot, sew, mis, cnt, col, len, lef, sbt, shd) X Y out) (.inr (some (.int (-2000002)))) (zHp (c, r, w, lim, tol, cart, wov, lot, sew, mis, cnt, col, len, lef, sbt, shd) X Y out) := by
  obtain ⟨hi, h4, hc4⟩ := h.iv
  have hi9 := hi
  obtain ⟨⟨d1, d2, d3, d4, d5, d6, d7, d8, d9⟩, -, -, -, -, hS9, hF⟩ := hi9
  exact c_w_unweaves_2 hG (zNcs_ok G) (c_f_unweave_0_3 hG d2 d4 d5 d8 d7 hF d1 h4 hc4 n (by rw [zFr_1 h1 h16 (by decide), if_pos rfl, if_pos (nI_lt hn (by omega))]))
set_option maxRecDepth 100000 in
theorem s_sews {G : zT} {c r w lim : Nat} {tol : Int32} {cart wov lot sew mis : Nat → Int32} {cnt : Nat} {col len lef sbt : Nat → Int32} {shd : Nat → UInt32} {X : zXr} {Y : zYr} {out : Nat → Int64} (hG : zAl G = false) (h : pGd (c, r, w, lim, tol, cart, wov, lot, sew, mis, cnt, col, len, lef, sbt, shd) X) {k : Nat} (hk : k < zSc wov c w lim) (hs : pSs wov sew c w lim k = false) : zRun G mL_sews 0 0 [.ref 0, .int (nI k)] (zHp (c, r, w, lim, tol, cart, wov, lot, sew, mis, cnt, col, len, lef, sbt, shd) X Y out) (.inr (some (.int (nI (zSc wov c w lim - zCi sew 1 c r - 1))))) (zHp (c, r, w, lim, tol, cart, wov, lot, (zSwS wov sew c w lim (nI k)), mis, cnt, col, len, lef, sbt, shd) (zSvd (c, r, w, lim, tol, cart, wov, lot, sew, mis, cnt, col, len, lef, sbt, shd) X) Y out) ∧ pGd (c, r, w, lim, tol, cart, wov, lot, (zSwS wov sew c w lim (nI k)), mis, cnt, col, len, lef, sbt, shd) (zSvd (c, r, w, lim, tol, cart, wov, lot, sew, mis, cnt, col, len, lef, sbt, shd) X) ∧ zRun G mL_whole 0 0 [.ref 0, .int (nI 7)] (zHp (c, r, w, lim, tol, cart, wov, lot, (zSwS wov sew c w lim (nI k)), mis, cnt, col, len, lef, sbt, shd) (zSvd (c, r, w, lim, tol, cart, wov, lot, sew, mis, cnt, col, len, lef, sbt, shd) X) Y out) (.inr (some (.int (nI (zCi sew 1 c r + 1))))) (zHp (c, r, w, lim, tol, cart, wov, lot, (zSwS wov sew c w lim (nI k)), mis, cnt, col, len, lef, sbt, shd) (zSvd (c, r, w, lim, tol, cart, wov, lot, sew, mis, cnt, col, len, lef, sbt, shd) X) Y out) ∧ zCi sew 1 c r + 1 ≤ zSc wov c w lim := by
  obtain ⟨hi, h4, hc4⟩ := h.iv
  have hi9 := hi
  obtain ⟨⟨d1, d2, d3, d4, d5, d6, d7, d8, d9⟩, -, -, -, -, hS9, hF⟩ := hi9
  obtain ⟨p1, p2⟩ := p_sew hi hk
  have g := pGd.mk h p1
  obtain ⟨-, e1, e2, e3⟩ := pPlace d2 (show w ≤ 16 by omega) hk
  have z := c_w_sews hG (c_f_sew (Y := Y) (out := out) (tol := tol) (cart := cart) (lot := lot) (mis := mis) (col := col) (len := len) (lef := lef) (sbt := sbt) hG d2 d4 d5 d8 d7 hF d1 h4 hc4 (nI k) (by rw [if_neg e1, e3, e2, if_neg (by unfold pSs at hs; rw [hs]; decide)]))
  have hle : zCi sew 1 c r + 1 ≤ zSc wov c w lim := by
    have a := p2 hs
    obtain ⟨-, -, -, -, -, q, -⟩ := p1
    rw [pSewn q d2 d4 d5] at a
    rw [← a]
    exact zCt_le _ _
  rw [p2 hs, pk_sub hle, show zSc wov c w lim - (zCi sew 1 c r + 1) = zSc wov c w lim - zCi sew 1 c r - 1 by omega] at z
  refine ⟨z, g, ?_, hle⟩
  obtain ⟨g1, g2, g3⟩ := g.iv
  exact h_whole hG g1 g2 g3 7 (by omega) rfl (congrArg nI (p2 hs))
set_option maxRecDepth 100000 in
theorem s_sews_1 {G : zT} {c r w lim : Nat} {tol : Int32} {cart wov lot sew mis : Nat → Int32} {cnt : Nat} {col len lef sbt : Nat → Int32} {shd : Nat → UInt32} {X : zXr} {Y : zYr} {out : Nat → Int64} (hG : zAl G = false) (h : pGd (c, r, w, lim, tol, cart, wov, lot, sew, mis, cnt, col, len, lef, sbt, shd) X) {k : Nat} (hk2 : k < 2 ^ 31) (hk : zSc wov c w lim ≤ k) : zRun G mL_sews 1 6 [.ref 0, .int (nI k)] (zHp (c, r, w, lim, tol, cart, wov, lot, sew, mis, cnt, col, len, lef, sbt, shd) X Y out) (.inr (some (.int (-2000001)))) (zHp (c, r, w, lim, tol, cart, wov, lot, sew, mis, cnt, col, len, lef, sbt, shd) X Y out) := by
  obtain ⟨hi, h4, hc4⟩ := h.iv
  have hi9 := hi
  obtain ⟨⟨d1, d2, d3, d4, d5, d6, d7, d8, d9⟩, -, -, -, -, hS9, hF⟩ := hi9
  exact c_w_sews_1 hG (zNcs_ok G) (c_f_sew_0_1 hG d2 d4 d5 d8 d7 hF d1 h4 hc4 (nI k) (if_pos (pNoPlace d2 (by omega) hk2 hk)))
set_option maxRecDepth 100000 in
theorem s_sews_2 {G : zT} {c r w lim : Nat} {tol : Int32} {cart wov lot sew mis : Nat → Int32} {cnt : Nat} {col len lef sbt : Nat → Int32} {shd : Nat → UInt32} {X : zXr} {Y : zYr} {out : Nat → Int64} (hG : zAl G = false) (h : pGd (c, r, w, lim, tol, cart, wov, lot, sew, mis, cnt, col, len, lef, sbt, shd) X) {k : Nat} (hk : k < zSc wov c w lim) (hs : pSs wov sew c w lim k = true) : zRun G mL_sews 1 6 [.ref 0, .int (nI k)] (zHp (c, r, w, lim, tol, cart, wov, lot, sew, mis, cnt, col, len, lef, sbt, shd) X Y out) (.inr (some (.int (-2000002)))) (zHp (c, r, w, lim, tol, cart, wov, lot, sew, mis, cnt, col, len, lef, sbt, shd) X Y out) := by
  obtain ⟨hi, h4, hc4⟩ := h.iv
  have hi9 := hi
  obtain ⟨⟨d1, d2, d3, d4, d5, d6, d7, d8, d9⟩, -, -, -, -, hS9, hF⟩ := hi9
  obtain ⟨-, e1, e2, e3⟩ := pPlace d2 (show w ≤ 16 by omega) hk
  exact c_w_sews_2 hG (zNcs_ok G) (c_f_sew_0_3 hG d2 d4 d5 d8 d7 hF d1 h4 hc4 (nI k) (by rw [if_neg e1, e3, e2, if_pos (by unfold pSs at hs; exact hs)]))
set_option maxRecDepth 100000 in
theorem s_limits {G : zT} {c r w lim : Nat} {tol : Int32} {cart wov lot sew mis : Nat → Int32} {cnt : Nat} {col len lef sbt : Nat → Int32} {shd : Nat → UInt32} {X : zXr} {Y : zYr} {out : Nat → Int64} (hG : zAl G = false) (h : pGd (c, r, w, lim, tol, cart, wov, lot, sew, mis, cnt, col, len, lef, sbt, shd) X) {a : Nat} (h1 : 1 ≤ a) (h2 : a ≤ 16) : zRun G mL_limits 0 0 [.ref 0, .int (nI a)] (zHp (c, r, w, lim, tol, cart, wov, lot, sew, mis, cnt, col, len, lef, sbt, shd) X Y out) (.inr (some (.int (nI lim)))) (zHp (c, r, w, a, tol, cart, wov, lot, (zFg wov sew c w a), mis, cnt, col, len, lef, sbt, shd) (zSvd (c, r, w, lim, tol, cart, wov, lot, sew, mis, cnt, col, len, lef, sbt, shd) X) Y out) ∧ pGd (c, r, w, a, tol, cart, wov, lot, (zFg wov sew c w a), mis, cnt, col, len, lef, sbt, shd) (zSvd (c, r, w, lim, tol, cart, wov, lot, sew, mis, cnt, col, len, lef, sbt, shd) X) ∧ zRun G mL_whole 0 0 [.ref 0, .int (nI 13)] (zHp (c, r, w, a, tol, cart, wov, lot, (zFg wov sew c w a), mis, cnt, col, len, lef, sbt, shd) (zSvd (c, r, w, lim, tol, cart, wov, lot, sew, mis, cnt, col, len, lef, sbt, shd) X) Y out) (.inr (some (.int (nI a)))) (zHp (c, r, w, a, tol, cart, wov, lot, (zFg wov sew c w a), mis, cnt, col, len, lef, sbt, shd) (zSvd (c, r, w, lim, tol, cart, wov, lot, sew, mis, cnt, col, len, lef, sbt, shd) X) Y out) := by
  obtain ⟨hi, h4, hc4⟩ := h.iv
  have hi9 := hi
  obtain ⟨⟨d1, d2, d3, d4, d5, d6, d7, d8, d9⟩, -, -, -, -, hS9, hF⟩ := hi9
  have g := pGd.mk h (p_limit hi h1 h2)
  refine ⟨c_w_limits hG (c_f_setLimit hG d2 d4 d5 d8 d7 hF d1 h4 hc4 a h2 (if_pos (zFr_1 h1 h2 (by decide)))), g, ?_⟩
  obtain ⟨g1, g2, g3⟩ := g.iv
  exact h_whole hG g1 g2 g3 13 (by omega) rfl rfl
set_option maxRecDepth 100000 in
theorem s_weaves {G : zT} {c r w lim : Nat} {tol : Int32} {cart wov lot sew mis : Nat → Int32} {cnt : Nat} {col len lef sbt : Nat → Int32} {shd : Nat → UInt32} {X : zXr} {Y : zYr} {out : Nat → Int64} (hG : zAl G = false) (h : pGd (c, r, w, lim, tol, cart, wov, lot, sew, mis, cnt, col, len, lef, sbt, shd) X) {n : Nat} (h1 : 1 ≤ n) (h2 : n ≤ 16) : ∃ k S2, zRun G mL_weaves 0 0 [.ref 0, .int (nI n)] (zHp (c, r, w, lim, tol, cart, wov, lot, sew, mis, cnt, col, len, lef, sbt, shd) X Y out) (.inr (some (.int (nI k)))) (zHp S2 (zSvd (c, r, w, lim, tol, cart, wov, lot, sew, mis, cnt, col, len, lef, sbt, shd) X) Y out) ∧ pGd S2 (zSvd (c, r, w, lim, tol, cart, wov, lot, sew, mis, cnt, col, len, lef, sbt, shd) X) ∧ w + k ≤ 16 ∧ zRun G mL_whole 0 0 [.ref 0, .int 2] (zHp S2 (zSvd (c, r, w, lim, tol, cart, wov, lot, sew, mis, cnt, col, len, lef, sbt, shd) X) Y out) (.inr (some (.int (nI (w + k))))) (zHp S2 (zSvd (c, r, w, lim, tol, cart, wov, lot, sew, mis, cnt, col, len, lef, sbt, shd) X) Y out) ∧ (¬ k = 0 → zRun G mL_whole 0 0 [.ref 0, .int 4] (zHp S2 (zSvd (c, r, w, lim, tol, cart, wov, lot, sew, mis, cnt, col, len, lef, sbt, shd) X) Y out) (.inr (some (.int 0))) (zHp S2 (zSvd (c, r, w, lim, tol, cart, wov, lot, sew, mis, cnt, col, len, lef, sbt, shd) X) Y out)) := by
  obtain ⟨hi, h4, hc4⟩ := h.iv
  have hi9 := hi
  obtain ⟨⟨d1, d2, d3, d4, d5, d6, d7, d8, d9⟩, -, -, -, -, hS9, hF⟩ := hi9
  obtain ⟨p1, p2, p3⟩ := p_rows n hi
  have g := pGd.mk h p1
  refine ⟨_, _, c_w_weaves hG (c_f_weave hG d2 d4 d5 d8 d7 hF d1 h4 hc4 n h2 (if_pos (zFr_1 h1 h2 (by decide)))), g, ?_, ?_, fun hk => ?_⟩
  · obtain ⟨⟨-, -, -, q1, q2, -⟩, -⟩ := p1
    rw [← p2]; omega
  · obtain ⟨g1, g2, g3⟩ := g.iv
    exact h_whole hG g1 g2 g3 2 (by omega) (by decide) (congrArg nI p2)
  · obtain ⟨g1, g2, g3⟩ := g.iv
    exact h_whole hG g1 g2 g3 4 (by omega) (by decide) ((congrArg nI (p3 (Or.inl hk)).oth).trans nI_0)
set_option maxRecDepth 100000 in
theorem s_fills_1 {G : zT} {c r w lim : Nat} {tol : Int32} {cart wov lot sew mis : Nat → Int32} {cnt : Nat} {col len lef sbt : Nat → Int32} {shd : Nat → UInt32} {X : zXr} {Y : zYr} {out : Nat → Int64} (hG : zAl G = false) (h : pGd (c, r, w, lim, tol, cart, wov, lot, sew, mis, cnt, col, len, lef, sbt, shd) X)  : zRun G mL_fills 1 6 [.ref 0, .int (nI 20), .int (nI 0), .int (nI 20), .int (nI 0), .int (nI 0)] (zHp (c, r, w, lim, tol, cart, wov, lot, sew, mis, cnt, col, len, lef, sbt, shd) X Y out) (.inr (some (.int (-2000001)))) (zHp (c, r, w, lim, tol, cart, wov, lot, sew, mis, cnt, col, len, lef, sbt, shd) X Y out) := by
  obtain ⟨hi, h4, hc4⟩ := h.iv
  have hi9 := hi
  obtain ⟨⟨d1, d2, d3, d4, d5, d6, d7, d8, d9⟩, -, -, -, -, hS9, hF⟩ := hi9
  have q : zFr 0 (nI 20) (nI c - 1) = false := by rw [zFr0_in (by omega), zIn_n (by decide) (by omega), decide_eq_false (by omega)]
  exact c_w_fills_1 hG (zNcs_ok G) (c_f_fill_0_1 (Y := Y) (out := out) (tol := tol) (cart := cart) (wov := wov) (lot := lot) (sew := sew) (mis := mis) (col := col) (len := len) (lef := lef) (sbt := sbt) hG d2 d4 d5 d8 d7 hF d1 h4 hc4 20 0 20 0 (nI 0) (by rw [q]; rfl))
set_option maxRecDepth 100000 in
theorem s_weaves_1 {G : zT} {c r w lim : Nat} {tol : Int32} {cart wov lot sew mis : Nat → Int32} {cnt : Nat} {col len lef sbt : Nat → Int32} {shd : Nat → UInt32} {X : zXr} {Y : zYr} {out : Nat → Int64} (hG : zAl G = false) (h : pGd (c, r, w, lim, tol, cart, wov, lot, sew, mis, cnt, col, len, lef, sbt, shd) X)  : zRun G mL_weaves 1 6 [.ref 0, .int (nI 0)] (zHp (c, r, w, lim, tol, cart, wov, lot, sew, mis, cnt, col, len, lef, sbt, shd) X Y out) (.inr (some (.int (-2000001)))) (zHp (c, r, w, lim, tol, cart, wov, lot, sew, mis, cnt, col, len, lef, sbt, shd) X Y out) := by
  obtain ⟨hi, h4, hc4⟩ := h.iv
  have hi9 := hi
  obtain ⟨⟨d1, d2, d3, d4, d5, d6, d7, d8, d9⟩, -, -, -, -, hS9, hF⟩ := hi9
  exact c_w_weaves_1 hG (zNcs_ok G) (c_f_weave_0_2 hG d2 d4 d5 d8 d7 hF d1 h4 hc4 0 (by decide))
set_option maxRecDepth 100000 in
theorem s_limits_1 {G : zT} {c r w lim : Nat} {tol : Int32} {cart wov lot sew mis : Nat → Int32} {cnt : Nat} {col len lef sbt : Nat → Int32} {shd : Nat → UInt32} {X : zXr} {Y : zYr} {out : Nat → Int64} (hG : zAl G = false) (h : pGd (c, r, w, lim, tol, cart, wov, lot, sew, mis, cnt, col, len, lef, sbt, shd) X)  : zRun G mL_limits 1 6 [.ref 0, .int (nI 17)] (zHp (c, r, w, lim, tol, cart, wov, lot, sew, mis, cnt, col, len, lef, sbt, shd) X Y out) (.inr (some (.int (-2000001)))) (zHp (c, r, w, lim, tol, cart, wov, lot, sew, mis, cnt, col, len, lef, sbt, shd) X Y out) := by
  obtain ⟨hi, h4, hc4⟩ := h.iv
  have hi9 := hi
  obtain ⟨⟨d1, d2, d3, d4, d5, d6, d7, d8, d9⟩, -, -, -, -, hS9, hF⟩ := hi9
  exact c_w_limits_1 hG (zNcs_ok G) (c_f_setLimit_0_2 hG d2 d4 d5 d8 d7 hF d1 h4 hc4 17 (by decide))
set_option maxRecDepth 100000 in
theorem s_undone {G : zT} {c r w lim : Nat} {tol : Int32} {cart wov lot sew mis : Nat → Int32} {cnt : Nat} {col len lef sbt : Nat → Int32} {shd : Nat → UInt32} {X : zXr} {Y : zYr} {out : Nat → Int64} (hG : zAl G = false) (h : pGd (c, r, w, lim, tol, cart, wov, lot, sew, mis, cnt, col, len, lef, sbt, shd) X) : ∃ S3 X3 k, k ≤ 4 ∧ zRun G mL_undoes 0 0 [.ref 0] (zHp (c, r, w, 16, tol, cart, wov, lot, (zFg wov sew c w 16), mis, cnt, col, len, lef, sbt, shd) (zSvd (c, r, w, lim, tol, cart, wov, lot, sew, mis, cnt, col, len, lef, sbt, shd) X) Y out) (.inr (some (.int (nI k)))) (zHp S3 X3 Y out) ∧ pGd S3 X3 ∧ zRun G mL_whole 0 0 [.ref 0, .int 2] (zHp S3 X3 Y out) (.inr (some (.int (nI w)))) (zHp S3 X3 Y out) ∧ zRun G mL_whole 0 0 [.ref 0, .int (nI 9)] (zHp S3 X3 Y out) (.inr (some (.int (nI (zGa wov lot shd c w 3212836864))))) (zHp S3 X3 Y out) := by
  obtain ⟨r1, g, -⟩ := s_limits (Y := Y) (out := out) hG h (a := 16) (by omega) (by omega)
  have g9 := g
  obtain ⟨-, -, -, f1, f2, f3, f4⟩ := g9
  obtain ⟨hi, h4, hc4⟩ := g.iv
  have hi9 := hi
  obtain ⟨⟨d1, d2, d3, d4, d5, d6, d7, d8, d9⟩, -, -, -, -, hS9, hF⟩ := hi9
  obtain ⟨A, hA, eA⟩ := pLast h
  have hcn : 0 < (zSvd (c, r, w, lim, tol, cart, wov, lot, sew, mis, cnt, col, len, lef, sbt, shd) X).2.2.2.2.1 := by show 0 < min _ 4; omega
  have u := c_w_undoes hG (c_f_undo (Y := Y) (out := out) (tol := tol) (cart := cart) (wov := wov) (lot := lot) (sew := zFg wov sew c w 16) (mis := mis) (col := col) (len := len) (lef := lef) (sbt := sbt) hG d2 d4 d5 d8 d7 hF d1 h4 hc4 hcn)
  rw [eA] at u
  refine ⟨_, _, _, Nat.le_trans (Nat.sub_le _ _) hc4, u, ?_⟩
  have g3 := p_copy2 (X3 := ((zSvd (c, r, w, lim, tol, cart, wov, lot, sew, mis, cnt, col, len, lef, sbt, shd) X).1, (zSvd (c, r, w, lim, tol, cart, wov, lot, sew, mis, cnt, col, len, lef, sbt, shd) X).2.1, (zSvd (c, r, w, lim, tol, cart, wov, lot, sew, mis, cnt, col, len, lef, sbt, shd) X).2.2.1, (zSvd (c, r, w, lim, tol, cart, wov, lot, sew, mis, cnt, col, len, lef, sbt, shd) X).2.2.2.1, (zSvd (c, r, w, lim, tol, cart, wov, lot, sew, mis, cnt, col, len, lef, sbt, shd) X).2.2.2.2.1 - 1, ((zSvd (c, r, w, lim, tol, cart, wov, lot, sew, mis, cnt, col, len, lef, sbt, shd) X).2.2.2.2.2.1 + 3) % 4, (zSvd (c, r, w, lim, tol, cart, wov, lot, sew, mis, cnt, col, len, lef, sbt, shd) X).2.2.2.2.2.2)) h hA g.fin ⟨Nat.mod_lt _ (by decide), Nat.le_trans (Nat.sub_le _ _) hc4, f1, f2, f3, f4⟩
  exact ⟨g3, h_wholeS hG g3 2 (by omega) (by decide) rfl, h_wholeS hG g3 9 (by omega) rfl (congrArg nI p_ga2)⟩
