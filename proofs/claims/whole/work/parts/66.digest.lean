/-! the whole and the checksum -/
theorem q_sl {wov sew s : Nat → Int32} {c w lim k b y t : Nat} (hW : zWW wov s c w) (hS : zSW wov sew s c w lim) (hc : 1 ≤ c) (B F T : Nat → Int32) (hk : (zSL (zSlP wov c w lim) c w)[k]? = some (b, y)) (ht : t ≤ 3) : rSt s (rFd s w lim (c - 1) (0, B, F, T)) k t = zSlv wov sew c w (nI b) y (nI t) := by
  obtain ⟨a1, a2⟩ := rFd_a (lm := lim) hW hc B F T
  obtain ⟨q1, q2, q3⟩ := a2 k _ hk
  have h1 := hW.1
  have h2 := hW.2.1
  have hm : (b, y) ∈ zSL (zSlP wov c w lim) c w := List.mem_of_getElem? hk
  obtain ⟨m1, m2, m3⟩ := zSL_mem.mp hm
  have hp : lim < zRl wov c w (nI b) y := of_decide_eq_true m3
  unfold rSt zSlv
  rcases (show t = 0 ∨ t = 1 ∨ t = 2 ∨ t = 3 by omega) with rfl | rfl | rfl | rfl
  · exact q1
  · exact q2
  · refine q3.trans ?_
    rw [if_neg (by decide), if_neg (by decide), if_pos (by decide), nI_add, ← nI_one, pk_sub (by omega)]
    rfl
  · show zB (s (rSx _ _ k) == nI 1) = _
    rw [if_neg (by decide), if_neg (by decide), if_neg (by decide), rSx_n q1 q2 (by omega) (by omega), hS.at (by omega) (by omega)]
theorem q_wh {c r w lim typed t : Nat} {tol : Int32} {cart wov lot sew mis : Nat → Int32} {cnt : Nat} {col len lef sbt : Nat → Int32} {shd : Nat → UInt32} {s : Nat → Int32} (h : zRe c r w lim tol cart wov lot sew mis cnt col len lef sbt shd s) (q : zE6) : zWh c r w lim tol cart wov lot sew mis cnt shd (nI typed) t = rWhV s c r w cnt lim typed q t := by
  obtain ⟨hM, h1, ⟨h5, h5v⟩, hC, hW, hL, hS, hMi, hQ, hN, hs, h6⟩ := h
  obtain ⟨-, -, -, -, -, hc1, hc20, hr1, hr16, hw, hn, hl⟩ := hM
  unfold zWh rWhV
  split
  · rfl
  · rfl
  · rfl
  · rfl
  · exact congrArg nI (q_ot hMi hc20)
  · exact congrArg nI (zSN_cg fun y hy => q_wc hC hW hw hy)
  · rw [zSc_l]
    exact congrArg nI (rFd_a (lm := lim) hW hc1 _ _ _).1.symm
  · exact congrArg nI (zSew_n hW hS hr16 hw hc1 _ _ _)
  · exact zSew_r hW hS hc1 _ _ _
  · exact congrArg nI (q_gaps hQ hW hL hn)
  · rw [← h5]
    exact congrArg nI (q_seen hQ hW hL hn (by rw [h5]; exact h5v))
  · exact congrArg nI (zMx_cg fun y hy => (hW.row hy).ru)
  · exact congrArg nI (zSN_cg fun y hy => q_ns hW hy)
  · rfl
  · split
    all_goals first | rfl | (exfalso; simp_all)
theorem q_ga {c r w lim typed : Nat} {tol : Int32} {cart wov lot sew mis : Nat → Int32} {cnt : Nat} {col len lef sbt : Nat → Int32} {shd : Nat → UInt32} {s : Nat → Int32} (h : zRe c r w lim tol cart wov lot sew mis cnt col len lef sbt shd s) (a : Int64) (q : zE6) : ∀ k : Nat, (rGa s c r w cnt lim typed k (a, q)).1 = zIt (fun t s => zMix s (zWh c r w lim tol cart wov lot sew mis cnt shd (nI typed) t)) k a
  | 0 => rfl
  | k + 1 => by
    show zMix (rGa s c r w cnt lim typed k (a, q)).1 (rWhV s c r w cnt lim typed (rGa s c r w cnt lim typed k (a, q)).2 k) = zMix (zIt _ k a) _
    rw [q_ga h a q k, ← q_wh h]
theorem q_gd {c r w lim : Nat} {tol : Int32} {cart wov lot sew mis : Nat → Int32} {cnt : Nat} {col len lef sbt : Nat → Int32} {shd : Nat → UInt32} {s : Nat → Int32} (h : zRe c r w lim tol cart wov lot sew mis cnt col len lef sbt shd s) (a : Int64) : rGd s c w r a = zMcell cart wov lot c r w a := by
  obtain ⟨hM, h1, ⟨h5, h5v⟩, hC, hW, hL, hS, hMi, hQ, hN, hs, h6⟩ := h
  obtain ⟨-, -, -, -, -, hc1, hc20, hr1, hr16, hw, hn, hl⟩ := hM
  unfold rGd zMcell
  refine zIt_cg fun y hy a => ?_
  unfold rGdX
  refine zIt_cg fun x hx a => ?_
  show zMix (zMix (zMix a (rCe s c w x y 0)) (rCe s c w x y 1)) (rCe s c w x y 2) = _
  rw [← q_cv (cart := cart) (wov := wov) (lot := lot) (cnt := cnt) hC hW hL hn hw hx hy (by decide), ← q_cv (cart := cart) (wov := wov) (lot := lot) (cnt := cnt) hC hW hL hn hw hx hy (by decide), ← q_cv (cart := cart) (wov := wov) (lot := lot) (cnt := cnt) hC hW hL hn hw hx hy (by decide)]
  rfl
theorem q_grK {c r w lim y : Nat} {tol : Int32} {cart wov lot sew mis : Nat → Int32} {cnt : Nat} {col len lef sbt : Nat → Int32} {shd : Nat → UInt32} {s : Nat → Int32} (h : zRe c r w lim tol cart wov lot sew mis cnt col len lef sbt shd s) (hy : y < w) (p : Int64 × (Nat → Int32)) : ∀ k : Nat, k ≤ 5 → (rGrK s c cnt y k p).1 = zIt (fun t s => zMix s (zRv wov cart lot c cnt (nI y) (nI t))) k p.1
  | 0, _ => rfl
  | k + 1, hk => by
    have h0 := h
    obtain ⟨hM, h1, ⟨h5, h5v⟩, hC, hW, hL, hS, hMi, hQ, hN, hs, h6⟩ := h
    obtain ⟨-, -, -, -, -, hc1, hc20, hr1, hr16, hw, hn, hl⟩ := hM
    show zMix (rGrK s c cnt y k p).1 (rRo s c cnt y k) = zMix (zIt _ k p.1) _
    rw [q_grK h0 hy p k (by omega), q_rv hC hW hL hn hw hy (by omega)]
theorem q_gr {c r w lim : Nat} {tol : Int32} {cart wov lot sew mis : Nat → Int32} {cnt : Nat} {col len lef sbt : Nat → Int32} {shd : Nat → UInt32} {s : Nat → Int32} (h : zRe c r w lim tol cart wov lot sew mis cnt col len lef sbt shd s) (p : Int64 × (Nat → Int32)) : ∀ k : Nat, k ≤ w → (rGr s c cnt k p).1 = zIt (fun y s => zMix (zIt (fun t s => zMix s (zRv wov cart lot c cnt (nI y) (nI t))) 5 s) (zBo (zCon lot shd c (nI y)))) k p.1
  | 0, _ => rfl
  | k + 1, hk => by
    have h0 := h
    obtain ⟨hM, h1, ⟨h5, h5v⟩, hC, hW, hL, hS, hMi, hQ, hN, hs, h6⟩ := h
    obtain ⟨-, -, -, -, -, hc1, hc20, hr1, hr16, hw, hn, hl⟩ := hM
    show zMix (rGrK s c cnt k 5 (rGr s c cnt k p)).1 (rCn s c k).toInt32 = zMix (zIt _ 5 (zIt _ k p.1)) _
    rw [q_grK h0 (by omega : k < w) _ 5 (by decide), q_gr h0 p k (by omega), q_con hQ hW hL hn hc1 (by omega)]
theorem q_gl {c r w lim : Nat} {tol : Int32} {cart wov lot sew mis : Nat → Int32} {cnt : Nat} {col len lef sbt : Nat → Int32} {shd : Nat → UInt32} {s : Nat → Int32} (h : zRe c r w lim tol cart wov lot sew mis cnt col len lef sbt shd s) (a : Int64) : rGl s c w cnt cnt a = zMlot lot col len lef sbt c w cnt a := by
  obtain ⟨hM, h1, ⟨h5, h5v⟩, hC, hW, hL, hS, hMi, hQ, hN, hs, h6⟩ := h
  obtain ⟨-, -, -, -, -, hc1, hc20, hr1, hr16, hw, hn, hl⟩ := hM
  unfold rGl zMlot
  refine zIt_cg fun l hl a => ?_
  unfold rGlK
  refine zIt_cg fun t ht a => ?_
  rw [q_lv hQ hL hc20 (by omega) hn hl (by omega)]
theorem q_gcK {c r w lim v : Nat} {tol : Int32} {cart wov lot sew mis : Nat → Int32} {cnt : Nat} {col len lef sbt : Nat → Int32} {shd : Nat → UInt32} {s : Nat → Int32} (h : zRe c r w lim tol cart wov lot sew mis cnt col len lef sbt shd s) (hv : v < 8) (p : Int64 × (Nat → Int32)) : ∀ k : Nat, k ≤ 6 → (rGcK s c r w cnt v k p).1 = zIt (fun t s => zMix s (zCvl cart wov col lef c r w cnt (nI v) (nI t))) k p.1
  | 0, _ => rfl
  | k + 1, hk => by
    have h0 := h
    obtain ⟨hM, h1, ⟨h5, h5v⟩, hC, hW, hL, hS, hMi, hQ, hN, hs, h6⟩ := h
    obtain ⟨-, -, -, -, -, hc1, hc20, hr1, hr16, hw, hn, hl⟩ := hM
    show zMix (rGcK s c r w cnt v k p).1 (rCo s c r w cnt (nI v) k) = zMix (zIt _ k p.1) _
    rw [q_gcK h0 hv p k (by omega), q_cvl hC hW hQ hn hw (nI_m1' (by omega)) (by omega)]
theorem q_gc {c r w lim : Nat} {tol : Int32} {cart wov lot sew mis : Nat → Int32} {cnt : Nat} {col len lef sbt : Nat → Int32} {shd : Nat → UInt32} {s : Nat → Int32} (h : zRe c r w lim tol cart wov lot sew mis cnt col len lef sbt shd s) (p : Int64 × (Nat → Int32)) : ∀ k : Nat, k ≤ 8 → (rGc s c r w cnt k p).1 = zIt (fun v s => zMix (zIt (fun t s => zMix s (zCvl cart wov col lef c r w cnt (nI v) (nI t))) 6 s) (zBo (zMean wov lot shd c w (nI v)))) k p.1
  | 0, _ => rfl
  | k + 1, hk => by
    have h0 := h
    obtain ⟨hM, h1, ⟨h5, h5v⟩, hC, hW, hL, hS, hMi, hQ, hN, hs, h6⟩ := h
    obtain ⟨-, -, -, -, -, hc1, hc20, hr1, hr16, hw, hn, hl⟩ := hM
    show zMix (rGcK s c r w cnt k 6 (rGc s c r w cnt k p)).1 (rMe s c w (nI k)).toInt32 = zMix (zIt _ 6 (zIt _ k p.1)) _
    rw [q_gcK h0 (by omega : k < 8) _ 6 (by decide), q_gc h0 p k (by omega), q_mean hQ hW hL hn]
theorem q_gs {c r w lim : Nat} {tol : Int32} {cart wov lot sew mis : Nat → Int32} {cnt : Nat} {col len lef sbt : Nat → Int32} {shd : Nat → UInt32} {s : Nat → Int32} (h : zRe c r w lim tol cart wov lot sew mis cnt col len lef sbt shd s) (B F T : Nat → Int32) (a : Int64) : rGs s (rFd s w lim (c - 1) (0, B, F, T)) (rFd s w lim (c - 1) (0, B, F, T)).1 a = zMsl wov sew c w lim a := by
  obtain ⟨hM, h1, ⟨h5, h5v⟩, hC, hW, hL, hS, hMi, hQ, hN, hs, h6⟩ := h
  obtain ⟨-, -, -, -, -, hc1, hc20, hr1, hr16, hw, hn, hl⟩ := hM
  have e1 : zMsl wov sew c w lim a = (zSL (zSlP wov c w lim) c w).foldl (fun q x => zIt (fun t s => zMix s (zSlv wov sew c w (nI x.1) x.2 (nI t))) 4 q) a := by
    rw [← zSL_fold (P := zSlP wov c w lim) (fun b y q => zIt (fun t s => zMix s (zSlv wov sew c w (nI b) y (nI t))) 4 q)]
    unfold zMsl
    refine zIt_cg fun b _ q => zIt_cg fun y _ q => ?_
    unfold zSlP
    by_cases z : lim < zRl wov c w (nI b) y
    · rw [if_pos z, if_pos (decide_eq_true z)]
    · rw [if_neg z, if_neg (by rw [decide_eq_false z]; decide)]
  rw [e1, ← zIt_list (zSL (zSlP wov c w lim) c w) (0, 0) (fun x q => zIt (fun t s => zMix s (zSlv wov sew c w (nI x.1) x.2 (nI t))) 4 q) a, (rFd_a (lm := lim) hW hc1 B F T).1]
  unfold rGs
  refine zIt_cg fun j hj q => ?_
  obtain ⟨b, y, g1, g2, -⟩ := zSL_at hj
  rw [g2]
  unfold rGsK
  refine zIt_cg fun t ht q => ?_
  rw [q_sl hW hS hc1 B F T g1 (by omega)]
theorem q_digest {c r w lim typed pasts : Nat} {tol : Int32} {cart wov lot sew mis : Nat → Int32} {cnt : Nat} {col len lef sbt : Nat → Int32} {shd : Nat → UInt32} {s : Nat → Int32} (h : zRe c r w lim tol cart wov lot sew mis cnt col len lef sbt shd s) (q : zE6) (B F T : Nat → Int32) (L : Nat → Int32) :
    zMix (zMsl wov sew c w lim (zMcol cart wov lot col lef shd c r w cnt (zMlot lot col len lef sbt c w cnt (zMrow cart wov lot shd c w cnt (zMcell cart wov lot c r w (zIt (fun t s => zMix s (zWh c r w lim tol cart wov lot sew mis cnt shd (nI typed) t)) 15 (zMix 43346 (nI pasts)))))))) (zBo (zWg wov lot shd c w)) =
    31 * (rGs s (rFd s w lim (c - 1) (0, B, F, T)) (rFd s w lim (c - 1) (0, B, F, T)).1 (rGc s c r w cnt 8 (rGl s c w cnt cnt (rGr s c cnt w (rGd s c w r (rGa s c r w cnt lim typed 15 (31 * 43346 + (nI pasts).toInt64, q)).1, L)).1, (rGr s c cnt w (rGd s c w r (rGa s c r w cnt lim typed 15 (31 * 43346 + (nI pasts).toInt64, q)).1, L)).2)).1) + (rSy s c w false w (0, FP.fconst0)).2.toInt32.toInt64 := by
  have h0 := h
  obtain ⟨hM, h1, ⟨h5, h5v⟩, hC, hW, hL, hS, hMi, hQ, hN, hs, h6⟩ := h
  obtain ⟨-, -, -, -, -, hc1, hc20, hr1, hr16, hw, hn, hl⟩ := hM
  rw [q_gs h0, q_gc h0 _ 8 (Nat.le_refl _), q_gl h0, q_gr h0 _ w (Nat.le_refl _), q_gd h0, q_ga h0, ← q_worst hQ hW hL hn]
  rfl
