/-! the checks hold of every loom of which pIv holds -/
theorem zFr_b {n b : Nat} {z B : Int32} (hz : z = 0) (hB : B = nI b) (h : n ≤ b) (hb : b < 2 ^ 31) : zFr z (nI n) B = true := by
  subst hz; subst hB
  unfold zFr
  rw [decide_eq_false (nI_pos (by omega)), decide_eq_false (nI_nlt h hb)]
  rfl
theorem zFr_1 {n b : Nat} (h1 : 1 ≤ n) (h : n ≤ b) (hb : b < 2 ^ 31) : zFr 1 (nI n) (nI b) = true := by
  unfold zFr
  rw [← nI_one, decide_eq_false (nI_nlt h1 (by omega)), decide_eq_false (nI_nlt h hb)]
  rfl
theorem zFr_in2 {x n : Nat} (h : x < n) (hn : n < 2 ^ 31) : zFr 0 (nI x) (nI n - 1) = true := by rw [zFr0_in hn, zIn_n (by omega) hn, decide_eq_true h]
theorem zIn_t {x n : Nat} (h : x < n) (hn : n < 2 ^ 31) : zIn (nI x) (nI n) = true := by rw [zIn_n (by omega) hn, decide_eq_true h]
section PHOLD
variable {G : zT} {c r w lim : Nat} {tol : Int32} {cart wov lot sew mis : Nat → Int32} {cnt : Nat} {col len lef sbt : Nat → Int32} {shd : Nat → UInt32} {X : zXr} {Y : zYr} {out : Nat → Int64}
theorem h_whole (hG : zAl G = false) (h : pIv c r w lim tol cart wov lot sew mis cnt col len lef sbt shd) (h4 : X.2.2.2.2.2.1 < 4) (hc4 : X.2.2.2.2.1 ≤ 4) (t : Nat) {a v : Int32} (ht : t ≤ 14) (ha : nI t = a) (hv : zWh c r w lim tol cart wov lot sew mis cnt shd (nI (X.2.2.2.2.2.2.2.1)) t = v) : zRun G mL_whole 0 0 [.ref 0, .int a] (zHp (c, r, w, lim, tol, cart, wov, lot, sew, mis, cnt, col, len, lef, sbt, shd) X Y out) (.inr (some (.int v))) (zHp (c, r, w, lim, tol, cart, wov, lot, sew, mis, cnt, col, len, lef, sbt, shd) X Y out) := by
  subst ha; subst hv
  obtain ⟨⟨d1, d2, d3, d4, d5, d6, d7, d8, d9⟩, -, -, -, -, -, hF⟩ := h
  exact c_w_whole hG (c_f_whole hG d2 d4 d5 d8 d7 hF d1 h4 hc4 t ht (zFr_b rfl rfl ht (by decide)))
theorem h_cell (hG : zAl G = false) (h : pIv c r w lim tol cart wov lot sew mis cnt col len lef sbt shd) (h4 : X.2.2.2.2.2.1 < 4) (hc4 : X.2.2.2.2.1 ≤ 4) {x y : Nat} (t : Int32) {v : Int32} (hx : x < c) (hy : y < r) (ht : zFr 0 t 3 = true) (hv : zCv cart wov lot c w (nI x) (nI y) t = v) : zRun G mL_cells 0 0 [.ref 0, .int (nI x), .int (nI y), .int t] (zHp (c, r, w, lim, tol, cart, wov, lot, sew, mis, cnt, col, len, lef, sbt, shd) X Y out) (.inr (some (.int v))) (zHp (c, r, w, lim, tol, cart, wov, lot, sew, mis, cnt, col, len, lef, sbt, shd) X Y out) := by
  subst hv
  obtain ⟨⟨d1, d2, d3, d4, d5, d6, d7, d8, d9⟩, -, -, -, -, -, hF⟩ := h
  exact c_w_cells hG (c_f_cell hG d2 d4 d5 d8 d7 hF d1 h4 hc4 _ _ t (by rw [zFr_in2 hx (by omega), zFr_in2 hy (by omega)]; rfl) ht)
theorem h_row (hG : zAl G = false) (h : pIv c r w lim tol cart wov lot sew mis cnt col len lef sbt shd) (h4 : X.2.2.2.2.2.1 < 4) (hc4 : X.2.2.2.2.1 ≤ 4) {y : Nat} (t : Int32) {v : Int32} (hy : y < w) (ht : zFr 0 t 4 = true) (hv : zRv wov cart lot c cnt (nI y) t = v) : zRun G mL_rows 0 0 [.ref 0, .int (nI y), .int t] (zHp (c, r, w, lim, tol, cart, wov, lot, sew, mis, cnt, col, len, lef, sbt, shd) X Y out) (.inr (some (.int v))) (zHp (c, r, w, lim, tol, cart, wov, lot, sew, mis, cnt, col, len, lef, sbt, shd) X Y out) := by
  subst hv
  obtain ⟨⟨d1, d2, d3, d4, d5, d6, d7, d8, d9⟩, -, -, -, -, -, hF⟩ := h
  exact c_w_rows hG (c_f_row hG d2 d4 d5 d8 d7 hF d1 h4 hc4 _ t (zIn_t hy (by omega)) ht)
theorem h_lot (hG : zAl G = false) (h : pIv c r w lim tol cart wov lot sew mis cnt col len lef sbt shd) (h4 : X.2.2.2.2.2.1 < 4) (hc4 : X.2.2.2.2.1 ≤ 4) {l : Nat} (t : Int32) {v : Int32} (hl : l < cnt) (ht : zFr 0 t 5 = true) (hv : zLv lot col len lef sbt c w cnt (nI l) t = v) : zRun G mL_lotOf 0 0 [.ref 0, .int (nI l), .int t] (zHp (c, r, w, lim, tol, cart, wov, lot, sew, mis, cnt, col, len, lef, sbt, shd) X Y out) (.inr (some (.int v))) (zHp (c, r, w, lim, tol, cart, wov, lot, sew, mis, cnt, col, len, lef, sbt, shd) X Y out) := by
  subst hv
  obtain ⟨⟨d1, d2, d3, d4, d5, d6, d7, d8, d9⟩, -, -, -, -, -, hF⟩ := h
  exact c_w_lotOf hG (c_f_lot hG d2 d4 d5 d8 d7 hF d1 h4 hc4 _ t (zIn_t hl (by omega)) ht)
theorem h_color (hG : zAl G = false) (h : pIv c r w lim tol cart wov lot sew mis cnt col len lef sbt shd) (h4 : X.2.2.2.2.2.1 < 4) (hc4 : X.2.2.2.2.1 ≤ 4) {k : Nat} (t : Int32) {v : Int32} (hk : k < 8) (ht : zFr 0 t 5 = true) (hv : zCvl cart wov col lef c r w cnt (nI k) t = v) : zRun G mL_colorOf 0 0 [.ref 0, .int (nI k), .int t] (zHp (c, r, w, lim, tol, cart, wov, lot, sew, mis, cnt, col, len, lef, sbt, shd) X Y out) (.inr (some (.int v))) (zHp (c, r, w, lim, tol, cart, wov, lot, sew, mis, cnt, col, len, lef, sbt, shd) X Y out) := by
  subst hv
  obtain ⟨⟨d1, d2, d3, d4, d5, d6, d7, d8, d9⟩, -, -, -, -, -, hF⟩ := h
  exact c_w_colorOf hG (c_f_color hG d2 d4 d5 d8 d7 hF d1 h4 hc4 _ t (zFr_b rfl (b := 7) (by decide) (by omega) (by decide)) ht)
theorem h_slit (hG : zAl G = false) (h : pIv c r w lim tol cart wov lot sew mis cnt col len lef sbt shd) (h4 : X.2.2.2.2.2.1 < 4) (hc4 : X.2.2.2.2.1 ≤ 4) {k : Nat} (t : Int32) {v : Int32} (hk : k < zSc wov c w lim) (ht : zFr 0 t 3 = true) (hv : zSlv wov sew c w (nI (pB wov c w lim k)) (pY wov c w lim k) t = v) : zRun G mL_slitOf 0 0 [.ref 0, .int (nI k), .int t] (zHp (c, r, w, lim, tol, cart, wov, lot, sew, mis, cnt, col, len, lef, sbt, shd) X Y out) (.inr (some (.int v))) (zHp (c, r, w, lim, tol, cart, wov, lot, sew, mis, cnt, col, len, lef, sbt, shd) X Y out) := by
  subst hv
  obtain ⟨⟨d1, d2, d3, d4, d5, d6, d7, d8, d9⟩, -, -, -, -, -, hF⟩ := h
  obtain ⟨-, p1, p2, -⟩ := pL_at hk
  obtain ⟨p3, -, -, -⟩ := pPlace d2 (show w ≤ 16 by omega) hk
  have z : k < 2 ^ 31 := by have := pSc_le wov lim d2 (show w ≤ 16 by omega); omega
  have e := c_w_slitOf hG (c_f_slit (Y := Y) (out := out) (tol := tol) (cart := cart) (lot := lot) (sew := sew) (mis := mis) (col := col) (len := len) (lef := lef) (sbt := sbt) hG d2 d4 d5 d8 d7 hF d1 h4 hc4 _ t (nI_pos z) ht _ p3 (by omega))
  rw [show (16 * pB wov c w lim k + pY wov c w lim k) / 16 = pB wov c w lim k by omega, show (16 * pB wov c w lim k + pY wov c w lim k) % 16 = pY wov c w lim k by omega] at e
  exact e
theorem h_slitsWith (hG : zAl G = false) (h : pIv c r w lim tol cart wov lot sew mis cnt col len lef sbt shd) (h4 : X.2.2.2.2.2.1 < 4) (hc4 : X.2.2.2.2.1 ≤ 4) {k : Nat} (h1 : 1 ≤ k) (h2 : k ≤ 16) : zRun G mL_slitsWith 0 0 [.ref 0, .int (nI k)] (zHp (c, r, w, lim, tol, cart, wov, lot, sew, mis, cnt, col, len, lef, sbt, shd) X Y out) (.inr (some (.int (nI (zSc wov c w k))))) (zHp (c, r, w, lim, tol, cart, wov, lot, sew, mis, cnt, col, len, lef, sbt, shd) X Y out) := by
  obtain ⟨⟨d1, d2, d3, d4, d5, d6, d7, d8, d9⟩, -, -, -, -, -, hF⟩ := h
  exact c_w_slitsWith hG (c_f_slitsWith hG d2 d4 d5 d8 d7 hF d1 h4 hc4 k h2 (if_pos (zFr_1 h1 h2 (by decide))))
theorem h_wovenRows (hG : zAl G = false) (h : pIv c r w lim tol cart wov lot sew mis cnt col len lef sbt shd) (h4 : X.2.2.2.2.2.1 < 4) (hc4 : X.2.2.2.2.1 ≤ 4) : zRun G mL_wovenRows 0 0 [.ref 0] (zHp (c, r, w, lim, tol, cart, wov, lot, sew, mis, cnt, col, len, lef, sbt, shd) X Y out) (.inr (some (.int 1))) (zHp (c, r, w, lim, tol, cart, wov, lot, sew, mis, cnt, col, len, lef, sbt, shd) X Y out) := by
  have h' := h
  obtain ⟨⟨d1, d2, d3, d4, d5, d6, d7, d8, d9⟩, hC, hW, hL, hM, hS, hF⟩ := h'
  have hw16 : w ≤ 16 := by omega
  have hv1 : ∀ x y, x < c → y < w → zCv cart wov lot c w (nI x) (nI y) 1 = nI (pG wov y (c - 1 - x)) := fun x y hx hy => by
    rw [zCv, if_neg (by decide), if_pos rfl, nI_sub1 hx, zWo, if_neg (nI_ge (by omega) (by omega)), if_neg (nI_ge hy (by omega)), (hW.ca.at d2 hw16 hy (show c - 1 - x < c by omega)).1]
  have hv0 : ∀ x y, x < c → y < w → zCv cart wov lot c w (nI x) (nI y) 0 = nI (pG cart y (c - 1 - x)) := fun x y hx hy => by
    rw [zCv, if_pos rfl, nI_sub1 hx, (hC.at d2 d4 (show y < r by omega) (show c - 1 - x < c by omega)).1]
  have hv2 : ∀ x y, x < c → y < w → zCv cart wov lot c w (nI x) (nI y) 2 = nI (pG lot y (c - 1 - x)) := fun x y hx hy => by
    rw [zCv, if_neg (by decide), if_neg (by decide), if_pos rfl, if_pos (zIn_t hy (by omega)), nI_sub1 hx, (hW.lot d2 hw16 d8 hy (show c - 1 - x < c by omega)).1]
  have hv3 : ∀ x y, x < c → y < w → zCv cart wov lot c w (nI x) (nI y) 3 = nI (c - 1 - x) := fun x y hx hy => by
    rw [zCv, if_neg (by decide), if_neg (by decide), if_neg (by decide), nI_sub1 hx]
  refine v_wovenRows (A := fun y x => pG wov y (c - 1 - x)) (B := fun y x => pG cart y (c - 1 - x)) (L := fun y x => pG lot y (c - 1 - x)) (own := fun y => pOw cart wov c y c) (N := fun y => zRu wov (nI y) c) (F := fun y => zNs wov (nI y) c) (D := fun y => zLr lot (nI y) c cnt) (R := fun v => zSN (fun y => zRo wov (nI v) (nI y) c) w) hG zlt zgo_0 d2 hw16
    (fun y x hy hx => (hW.ca.at d2 hw16 hy (by omega)).2) (fun y x hy hx => (hC.at d2 d4 (show y < r by omega) (by omega)).2) (fun y => rfl) (fun y => Nat.le_trans (zRu_le _ _ _) d2) (fun y => pNs_le _ _ _) (fun h0 => pNs_0 hW.ca d2 hw16 h0) (fun y hy => ⟨pLr_ge hW d1 d2 hw16 d8 hy, pLr_le _ _ _ _ d8⟩) (pRuns hW.ca d2 hw16)
    (h_whole hG h h4 hc4 0 (by omega) nI_0 rfl) (h_whole hG h h4 hc4 2 (by omega) (by decide) rfl) (h_whole hG h h4 hc4 5 (by omega) (by decide) ?_) (h_whole hG h h4 hc4 12 (by omega) rfl rfl) (h_whole hG h h4 hc4 11 (by omega) rfl rfl)
    (fun x y hx hy => h_cell hG h h4 hc4 1 hx (by omega) (by decide) (hv1 x y hx hy)) (fun x y hx hy => h_cell hG h h4 hc4 0 hx (by omega) (by decide) (hv0 x y hx hy)) (fun x y hx hy => h_cell hG h h4 hc4 2 hx (by omega) (by decide) (hv2 x y hx hy)) (fun x y hx hy => h_cell hG h h4 hc4 3 hx (by omega) (by decide) (hv3 x y hx hy))
    (fun x y hx hy => ?_) (fun y hy => h_row hG h h4 hc4 0 hy (by decide) ?_) (fun y hy => h_row hG h h4 hc4 1 hy (by decide) ?_) (fun y hy => h_row hG h h4 hc4 2 hy (by decide) ?_) (fun y hy => h_row hG h h4 hc4 3 hy (by decide) ?_) (fun y hy => h_row hG h h4 hc4 4 hy (by decide) ?_)
    (fun v hv => h_color hG h h4 hc4 4 hv (by decide) ?_) ?_
  · exact congrArg nI (zSN_cg fun y hy => pOw_e hC hW.ca d2 d4 d5 hy)
  · obtain ⟨-, e2, e3⟩ := hW.lot d2 hw16 d8 hy (show c - 1 - x < c by omega)
    exact h_lot hG h h4 hc4 0 e2 (by decide) (by rw [zLv, if_pos rfl, zAtN_in (by omega) (by decide), e3])
  · rw [zRv, if_pos rfl]
  · rw [zRv, if_neg (by decide), if_pos rfl]
  · rw [zRv, if_neg (by decide), if_neg (by decide), if_pos rfl, pOw_e hC hW.ca d2 d4 d5 hy]
  · rw [zRv, if_neg (by decide), if_neg (by decide), if_neg (by decide), if_pos rfl]
  · rw [zRv, if_neg (by decide), if_neg (by decide), if_neg (by decide), if_neg (by decide)]
  · rw [zCvl, if_neg (by decide), if_neg (by decide), if_neg (by decide), if_neg (by decide), if_pos rfl]
  · have e := c_f_firstWrong (Y := Y) (out := out) (tol := tol) (cart := cart) (wov := wov) (lot := lot) (sew := sew) (mis := mis) (col := col) (len := len) (lef := lef) (sbt := sbt) hG d2 d4 d5 d8 d7 hF d1 h4 hc4
    rw [pFw_e hw16 (fun y hy => pOw_e hC hW.ca d2 d4 d5 hy) w 0 (by omega) (fun k hk => absurd hk (by omega))] at e
    exact e
theorem h_yarns (hG : zAl G = false) (h : pIv c r w lim tol cart wov lot sew mis cnt col len lef sbt shd) (h4 : X.2.2.2.2.2.1 < 4) (hc4 : X.2.2.2.2.1 ≤ 4) : zRun G mL_yarns 0 0 [.ref 0] (zHp (c, r, w, lim, tol, cart, wov, lot, sew, mis, cnt, col, len, lef, sbt, shd) X Y out) (.inr (some (.int 1))) (zHp (c, r, w, lim, tol, cart, wov, lot, sew, mis, cnt, col, len, lef, sbt, shd) X Y out) := by
  have h' := h
  obtain ⟨⟨d1, d2, d3, d4, d5, d6, d7, d8, d9⟩, hC, hW, ⟨n, m, hL⟩, hM, hS, hF⟩ := h'
  have hw16 : w ≤ 16 := by omega
  have hq : ∃ q : Nat → Nat, ∀ k, k < cnt → col k = nI (q k) ∧ q k < 8 := ⟨fun k => (col k).toNatClampNeg, fun k hk => by
    obtain ⟨⟨v, h1, h2⟩, -⟩ := hL k hk
    dsimp only
    rw [h2, nI_clamp (by omega)]
    exact ⟨rfl, h1⟩⟩
  obtain ⟨q, hq⟩ := hq
  have hn9 : ∀ k, k < cnt → n k ≤ 999 := fun k hk => by have := hL k hk; omega
  have hQ : ∀ k, k < cnt → col k = nI (q k) ∧ q k < 8 ∧ lef k = nI (n k) := fun k hk => ⟨(hq k hk).1, (hq k hk).2, (hL k hk).2.1⟩
  have hQ4 : ∀ k, k < cnt → col k = nI (q k) ∧ q k < 8 ∧ lef k = nI (n k) ∧ n k ≤ 999 := fun k hk => ⟨(hq k hk).1, (hq k hk).2, (hL k hk).2.1, hn9 k hk⟩
  have hE : ∀ v : Nat, zUc cart (nI v) c w (r - w) ≤ 640 := fun v => pUc_le _ _ d2 (by omega)
  have hLe : ∀ v, pLe q n v cnt ≤ 16000 := fun v => pLe_le d8 hn9
  refine v_yarns (n := n) (m := m) (K := fun l => zCi lot (nI l) c w) (q := q) (W := fun v => zCi wov (nI v) c w) (C := fun v => zCi cart (nI v) c r) (E := fun v => zUc cart (nI v) c w (r - w)) (T := fun y => zRu cart (nI y) c) (u := fun l => zIu col lef (zAtN 16 col (nI l)) 0 cnt == nI l) (P := zPr (zRyF cart col lef c r w cnt) 8 (r - w)) hG zlt zgo_0 d2 d4 d5 d8
    (fun l hl => ⟨(hL l hl).2.2.2.2, (hL l hl).2.2.2.1⟩) (fun l hl hu => pIu d8 (fun k hk => ⟨(hL k hk).2.1, hn9 k hk⟩) (show l < 16 by omega) cnt 0 (by omega) (eq_of_beq hu)) (fun l hl => (hq l hl).2) hE hLe
    ((pLot_sum hW d2 hw16 d8).trans (pCol_sum hW.ca d2 hw16).symm) (pCol_sum hC d2 d4) (pNeed_sum hC d2 d4 d5) (pPos d2 d4 d5 d8 hQ4).1 (pPos d2 d4 d5 d8 hQ4).2
    (h_whole hG h h4 hc4 0 (by omega) nI_0 rfl) (h_whole hG h h4 hc4 1 (by omega) nI_one rfl) (h_whole hG h h4 hc4 2 (by omega) (by decide) rfl) (h_whole hG h h4 hc4 3 (by omega) (by decide) rfl)
    (fun l hl => h_lot hG h h4 hc4 0 hl (by decide) ?_) (fun l hl => h_lot hG h h4 hc4 1 hl (by decide) ?_) (fun l hl => h_lot hG h h4 hc4 2 hl (by decide) ?_) (fun l hl => h_lot hG h h4 hc4 4 hl (by decide) ?_) (fun l hl => h_lot hG h h4 hc4 5 hl (by decide) ?_)
    (fun v hv => h_color hG h h4 hc4 0 hv (by decide) ?_) (fun v hv => h_color hG h h4 hc4 1 hv (by decide) ?_) (fun v hv => h_color hG h h4 hc4 2 hv (by decide) ?_) (fun v hv => h_color hG h h4 hc4 3 hv (by decide) ?_) (fun v hv => h_color hG h h4 hc4 5 hv (by decide) ?_)
    (fun v hv => ?_) (fun y hy => ?_) ?_
  · rw [zLv, if_pos rfl, zAtN_in (by omega) (by decide), (hq l hl).1]
  · rw [zLv, if_neg (by decide), if_pos rfl, zAtN_in (by omega) (by decide), (hL l hl).2.2.1]
  · rw [zLv, if_neg (by decide), if_neg (by decide), if_pos rfl, zAtN_in (by omega) (by decide), (hL l hl).2.1]
  · rw [zLv, if_neg (by decide), if_neg (by decide), if_neg (by decide), if_neg (by decide), if_pos rfl]
  · rw [zLv, if_neg (by decide), if_neg (by decide), if_neg (by decide), if_neg (by decide), if_neg (by decide)]
  · rw [zCvl, if_pos rfl]
  · rw [zCvl, if_neg (by decide), if_pos rfl]
  · rw [zCvl, if_neg (by decide), if_neg (by decide), if_pos rfl, pLf_e d8 hv hQ]
  · rw [zCvl, if_neg (by decide), if_neg (by decide), if_neg (by decide), if_pos rfl, pCo_e d8 hv hq]
  · rw [zCvl, if_neg (by decide), if_neg (by decide), if_neg (by decide), if_neg (by decide), if_neg (by decide)]
  · have e := c_w_missing hG (c_f_missing (Y := Y) (out := out) (tol := tol) (cart := cart) (wov := wov) (lot := lot) (sew := sew) (mis := mis) (col := col) (len := len) (lef := lef) (sbt := sbt) hG d2 d4 d5 d8 d7 hF d1 h4 hc4 (nI v) (zFr_b rfl (b := 7) (by decide) (by omega) (by decide)))
    rw [pLf_e d8 hv hQ, pMissing (by have := hE v; omega) (by have := hLe v; omega)] at e
    exact e
  · exact c_w_shuttlesFor hG (c_f_shuttlesFor (Y := Y) (out := out) (tol := tol) (cart := cart) (wov := wov) (lot := lot) (sew := sew) (mis := mis) (col := col) (len := len) (lef := lef) (sbt := sbt) hG d2 d4 d5 d8 d7 hF d1 h4 hc4 (nI y) (by rw [← nI_0, show zFr (nI 0) (nI 0) (nI c - 1) = true by rw [nI_0, ← nI_0, nI_0]; exact (by have := zFr_in2 (x := 0) (n := c) (by omega) (by omega); rw [nI_0] at this; exact this), nI_0, zFr_in2 hy (by omega)]; rfl))
  · exact c_f_rowsPossible hG d2 d4 d5 d8 d7 hF d1 h4 hc4
theorem h_slits (hG : zAl G = false) (h : pIv c r w lim tol cart wov lot sew mis cnt col len lef sbt shd) (h4 : X.2.2.2.2.2.1 < 4) (hc4 : X.2.2.2.2.1 ≤ 4) : zRun G mL_slits 0 0 [.ref 0] (zHp (c, r, w, lim, tol, cart, wov, lot, sew, mis, cnt, col, len, lef, sbt, shd) X Y out) (.inr (some (.int 1))) (zHp (c, r, w, lim, tol, cart, wov, lot, sew, mis, cnt, col, len, lef, sbt, shd) X Y out) := by
  have h' := h
  obtain ⟨⟨d1, d2, d3, d4, d5, d6, d7, d8, d9⟩, hC, hW, hL, hM, hS, hF⟩ := h'
  have hw16 : w ≤ 16 := by omega
  refine v_slits (g9 := zGa wov lot shd c w 3212836864) (g10 := zGa wov lot shd c w (zFb tol)) (S := fun k => zSc wov c w k) (sb := pB wov c w lim) (sy := pY wov c w lim) (sl := fun k => zRl wov c w (nI (pB wov c w lim k)) (pY wov c w lim k)) (ss := pSs wov sew c w lim) hG zlt zgo_0 d6 d7 hw16 (pSc_le _ _ d2 hw16) (fun k => pSc_le _ _ d2 hw16) (fun k => pSc_anti _ _ _ (by omega))
    ⟨by rw [d9]; exact pGa_le hF, pGa_small _ _ _ _ d2 hw16⟩ (fun k hk => ?_) (fun k hk => pOrd hw16 hk)
    (h_whole hG h h4 hc4 13 (by omega) rfl rfl) (h_whole hG h h4 hc4 6 (by omega) rfl rfl) (h_whole hG h h4 hc4 10 (by omega) rfl rfl) (h_whole hG h h4 hc4 9 (by omega) rfl rfl) (h_whole hG h h4 hc4 7 (by omega) rfl ?_) (h_whole hG h h4 hc4 8 (by omega) rfl ?_) (h_whole hG h h4 hc4 2 (by omega) (by decide) rfl)
    (fun k h1 h2 => h_slitsWith hG h h4 hc4 h1 h2) ?_ (fun k hk => h_slit hG h h4 hc4 0 hk (by decide) ?_) (fun k hk => h_slit hG h h4 hc4 1 hk (by decide) ?_) (fun k hk => h_slit hG h h4 hc4 2 hk (by decide) ?_) (fun k hk => h_slit hG h h4 hc4 3 hk (by decide) ?_)
  · obtain ⟨-, p1, p2, p3⟩ := pL_at hk
    have := zRl_room (wov := wov) (c := c) (w := w) (b := pB wov c w lim k) (a := pY wov c w lim k)
    exact ⟨p3, by omega, by omega⟩
  · exact congrArg nI (pSewn hS d2 d4 d5)
  · exact congrArg nI (pSewnRows hS d2 hw16)
  · have z : zSc wov c w lim < 2 ^ 31 := by have := pSc_le wov lim d2 hw16; omega
    exact c_w_slitOf hG (c_f_slit_no hG d2 d4 d5 d8 d7 hF d1 h4 hc4 _ 2 (nI_pos z) (by decide) (pNoPlace d2 hw16 z (Nat.le_refl _)))
  · rw [zSlv, if_pos rfl]
  · rw [zSlv, if_neg (by decide), if_pos rfl]
  · obtain ⟨-, p1, p2, p3⟩ := pL_at hk
    rw [zSlv, if_neg (by decide), if_neg (by decide), if_pos rfl, nI_add, ← nI_one, pk_sub (by omega)]
  · rw [zSlv, if_neg (by decide), if_neg (by decide), if_neg (by decide)]
    rfl
theorem h_holds (hG : zAl G = false) (h : pIv c r w lim tol cart wov lot sew mis cnt col len lef sbt shd) (h4 : X.2.2.2.2.2.1 < 4) (hc4 : X.2.2.2.2.1 ≤ 4) : zRun G mL_holds 0 0 [.ref 0] (zHp (c, r, w, lim, tol, cart, wov, lot, sew, mis, cnt, col, len, lef, sbt, shd) X Y out) (.inr (some (.int 1))) (zHp (c, r, w, lim, tol, cart, wov, lot, sew, mis, cnt, col, len, lef, sbt, shd) X Y out) :=
  v_holds hG zlt zgo_0 (h_wovenRows hG h h4 hc4) (h_yarns hG h h4 hc4) (h_slits hG h h4 hc4)
end PHOLD
