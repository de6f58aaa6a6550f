/-! what changes keeps the two sides equal -/
theorem upd_eq {f : Nat → Int32} {k : Nat} {x : Int32} : upd f k x k = x := if_pos rfl
theorem zWW.cg {wov wov' s s' : Nat → Int32} {c w : Nat} (h : zWW wov s c w) (hw : ∀ y b, y < w → b < c → wov' (20 * y + b) = wov (20 * y + b)) (hs : ∀ y b, y < w → b < c → rW s' y b = rW s y b) : zWW wov' s' c w := ⟨h.1, h.2.1, fun y b hy hb => by rw [hw y b hy hb, hs y b hy hb]; exact h.2.2 y b hy hb⟩
theorem zWW.le {wov s : Nat → Int32} {c w w' : Nat} (h : zWW wov s c w) (hw : w' ≤ w) : zWW wov s c w' := ⟨h.1, Nat.le_trans hw h.2.1, fun y b hy hb => h.2.2 y b (by omega) hb⟩
theorem zCC.cg {cart s s' : Nat → Int32} {c r : Nat} (h : zCC cart s c r) (hs : ∀ y b, y < r → b < c → rD s' c y b = rD s c y b) : zCC cart s' c r := ⟨h.1, h.2.1, fun y b hy hb => by rw [hs y b hy hb]; exact h.2.2 y b hy hb⟩
theorem zLL.cg {lot s s' : Nat → Int32} {c w cnt : Nat} (h : zLL lot s c w cnt) (hs : ∀ y b, y < w → b < c → rY s' y b = rY s y b) : zLL lot s' c w cnt := fun y b hy hb => by rw [hs y b hy hb]; exact h y b hy hb
theorem zMM.cg {mis s s' : Nat → Int32} {c : Nat} (h : zMM mis s c) (hs : ∀ b, b < 20 → s' (71 + b) = s (71 + b)) : zMM mis s' c := fun b hb => by rw [hs b hb]; exact h b hb
theorem zQQ.cg {col len lef sbt s s' : Nat → Int32} {shd : Nat → UInt32} (h : zQQ col len lef sbt shd s) (hs : ∀ j, 7 ≤ j → j < 71 → s' j = s j) : zQQ col len lef sbt shd s' := fun k hk => by rw [hs _ (by omega) (by omega), hs _ (by omega) (by omega), hs _ (by omega) (by omega), hs _ (by omega) (by omega)]; exact h k hk
theorem zNN.cg {s s' : Nat → Int32} {c w : Nat} (h : zNN s c w) (hs : ∀ j, 7 ≤ j → j < 71 → s' j = s j) (hy : ∀ y b, y < w → b < c → rY s' y b = rY s y b) : zNN s' c w := by
  obtain ⟨n, hn⟩ := h
  refine ⟨n, fun k hk => ?_⟩
  rw [hs _ (by omega) (by omega), zSN_cg (g := fun y => zCt (fun b => rY s y b == nI k) c) fun y hy1 => zCt_cg fun b hb => by rw [hy y b hy1 hb]]
  exact hn k hk
theorem zSlP_cg {wov wov' s s' : Nat → Int32} {c w lim b y : Nat} (h : zWW wov s c w) (h' : zWW wov' s' c w) (hs : ∀ y b, y < w → b < c → rW s' y b = rW s y b) (hb : b < 20) (hy : y < w) : zSlP wov' c w lim b y = zSlP wov c w lim b y := by
  have h2 := h.2.1
  unfold zSlP
  by_cases q : b + 1 < c
  · rw [zRl_n h q (by omega), zRl_n h' q (by omega)]
    have e : (fun y => rPt s' w y b) = (fun y => rPt s w y b) := by
      funext y
      unfold rPt
      by_cases k : y < w
      · rw [hs y b k (by omega), hs y (b + 1) k q]
      · rw [decide_eq_false k]
        rfl
    rw [e]
  · rw [zRl_c (by omega) (by omega), zRl_c (by omega) (by omega)]
theorem zSW.cg {wov wov' sew s s' : Nat → Int32} {c w lim : Nat} (h : zSW wov sew s c w lim) (hW : zWW wov s c w) (hW' : zWW wov' s' c w) (hr : ∀ y b, y < w → b < c → rW s' y b = rW s y b) (hs : ∀ b y, b < 20 → y < 16 → s' (1051 + 16 * b + y) = s (1051 + 16 * b + y)) : zSW wov' sew s' c w lim := fun b y hb hy => by
  rw [hs b y hb hy]
  refine ⟨(h b y hb hy).1, ?_⟩
  rcases (h b y hb hy).2 with q | ⟨q1, q2, q3, q4⟩
  · exact Or.inl q
  · exact Or.inr ⟨q1, q2, q3, by rw [zSlP_cg hW hW' hr hb q3]; exact q4⟩
/-- a fresh cloth -/
theorem rCl_lo {s : Nat → Int32} {a b j : Nat} (h1 : 3 ≤ j) (h2 : j < 71) : rCl s a b j = s j := by
  unfold rCl
  rw [zFa_lo (by omega), zFa_lo (by omega), zFa_lo (by omega), upd_ne (by omega), upd_ne (by omega), upd_ne (by omega)]
theorem k_begin {c r w lim : Nat} {tol : Int32} {cart wov lot sew mis : Nat → Int32} {cnt : Nat} {col len lef sbt : Nat → Int32} {shd : Nat → UInt32} {s : Nat → Int32} (h : zRe c r w lim tol cart wov lot sew mis cnt col len lef sbt shd s) {a b : Nat} (ha : 1 ≤ a ∧ a ≤ 20) (hb : 1 ≤ b ∧ b ≤ 16) : zRe a b 0 lim tol (zFl (fun _ => 0) cart 320) wov lot (zFl (fun _ => 0) sew 320) (zFl (fun _ => (-1)) mis 20) cnt col len lef sbt shd (rCl s a b) := by
  obtain ⟨hM, h1, ⟨h5, h5v⟩, hC, hW, hL, hS, hMi, hQ, hN, hs, h6⟩ := h
  obtain ⟨m0, m1, m2, m3, m4, hc1, hc20, hr1, hr16, hw, hn, hl⟩ := hM
  have e71 : ∀ j, 71 ≤ j → j < 91 → rCl s a b j = -1 := fun j q1 q2 => by
    unfold rCl zFa
    rw [if_pos (by omega)]
  have e91 : ∀ j, 91 ≤ j → j < 411 → rCl s a b j = nI 0 := fun j q1 q2 => by
    unfold rCl
    rw [zFa_at (by omega), zFa_lo (by omega)]
    unfold zFa
    rw [if_pos (by omega)]
  have e1051 : ∀ j, 1051 ≤ j → j < 1371 → rCl s a b j = nI 0 := fun j q1 q2 => by
    unfold rCl
    rw [zFa_at (by omega)]
    unfold zFa
    rw [if_pos (by omega)]
  refine ⟨⟨?_, ?_, ?_, ?_, ?_, ha.1, ha.2, hb.1, hb.2, Nat.zero_le _, hn, hl⟩, h1, ⟨by rw [rCl_lo (by decide) (by decide)]; exact h5, h5v⟩, ⟨ha.2, hb.2, fun y x hy hx => ?_⟩, ⟨ha.2, Nat.zero_le _, fun y b hy => absurd hy (by omega)⟩, fun y b hy => absurd hy (by omega), fun x y hx hy => ?_, fun x hx => ?_, hQ.cg fun j q1 q2 => rCl_lo (by omega) q2, ?_, hs, by rw [rCl_lo (by decide) (by decide)]; exact h6⟩
  · unfold rCl
    rw [zFa_lo (by omega), zFa_lo (by omega), zFa_lo (by omega), upd_ne (by omega), upd_ne (by omega), upd_eq]
  · unfold rCl
    rw [zFa_lo (by omega), zFa_lo (by omega), zFa_lo (by omega), upd_ne (by omega), upd_eq]
  · unfold rCl
    rw [zFa_lo (by omega), zFa_lo (by omega), zFa_lo (by omega), upd_eq]
  · rw [rCl_lo (by decide) (by decide)]; exact m3
  · rw [rCl_lo (by decide) (by decide)]; exact m4
  · unfold rD
    rw [e91 _ (by omega) (by omega), zFl_in (by omega)]
    exact ⟨nI_0.symm, 0, by decide, rfl⟩
  · rw [e1051 _ (by omega) (by omega), zFl_in (by omega)]
    exact ⟨nI_0.symm, Or.inl rfl⟩
  · rw [e71 _ (by omega) (by omega), zFl_in hx]
    exact ⟨rfl, Or.inl rfl⟩
  · obtain ⟨n, hn⟩ := hN
    refine ⟨n, fun k hk => ?_⟩
    obtain ⟨q1, q2⟩ := hn k hk
    rw [rCl_lo (by omega) (by omega)]
    exact ⟨q1, Nat.le_trans (Nat.add_le_add_left (Nat.zero_le _) _) q2⟩
/-- painting -/
theorem k_paint {c r : Nat} {s : Nat → Int32} {x u : Nat} {v : Nat} (hv : v < 8) (hc : c ≤ 20) (hr : r ≤ 16) (hu : u < c) {Y : Nat} (hY : Y < r) {f t : Nat → Int32} {n : Nat} (hf : zCC f t c r) (ht : ∀ j, (j < 91 ∨ 411 ≤ j) → t j = s j) : ∀ i : Nat, x + i ≤ u + 1 → zCC (zIt (fun i (q : (Nat → Int32) × Nat) => (zPutG q.1 (nI c - 1 - nI (x + i)) (nI Y) (nI v), q.2 + (if zAt q.1 (nI c - 1 - nI (x + i)) (nI Y) = nI v then 0 else 1))) i (f, n)).1 (rFlR x u (nI v) Y i (t, n)).1 c r ∧ (zIt (fun i (q : (Nat → Int32) × Nat) => (zPutG q.1 (nI c - 1 - nI (x + i)) (nI Y) (nI v), q.2 + (if zAt q.1 (nI c - 1 - nI (x + i)) (nI Y) = nI v then 0 else 1))) i (f, n)).2 = (rFlR x u (nI v) Y i (t, n)).2 ∧ ∀ j, (j < 91 ∨ 411 ≤ j) → (rFlR x u (nI v) Y i (t, n)).1 j = s j
  | 0, _ => ⟨hf, rfl, ht⟩
  | i + 1, hi => by
    obtain ⟨i1, i2, i3⟩ := k_paint (x := x) hv hc hr hu hY (n := n) hf ht i (by omega)
    have e : rFlR x u (nI v) Y (i + 1) (t, n) = (upd (rFlR x u (nI v) Y i (t, n)).1 (91 + 20 * Y + (x + i)) (nI v), (rFlR x u (nI v) Y i (t, n)).2 + (if (rFlR x u (nI v) Y i (t, n)).1 (91 + 20 * Y + (x + i)) = nI v then 0 else 1)) := rfl
    rw [e]
    show zCC (zPutG (zIt _ i (f, n)).1 (nI c - 1 - nI (x + i)) (nI Y) (nI v)) _ c r ∧ (zIt _ i (f, n)).2 + (if zAt (zIt _ i (f, n)).1 (nI c - 1 - nI (x + i)) (nI Y) = nI v then 0 else 1) = _ ∧ _
    generalize zIt (fun i (q : (Nat → Int32) × Nat) => (zPutG q.1 (nI c - 1 - nI (x + i)) (nI Y) (nI v), q.2 + (if zAt q.1 (nI c - 1 - nI (x + i)) (nI Y) = nI v then 0 else 1))) i (f, n) = Q at i1 i2 ⊢
    generalize rFlR x u (nI v) Y i (t, n) = Q2 at i1 i2 i3 ⊢
    rw [nI_sub1 (by omega), zPutG_n (by omega) (by omega), (i1.row hY).at (by omega)]
    have ed : rD Q2.1 c Y (c - 1 - (x + i)) = Q2.1 (91 + 20 * Y + (x + i)) := by
      unfold rD
      exact congrArg Q2.1 (by omega)
    rw [ed, i2]
    refine ⟨⟨hc, hr, fun y b hy hb => ?_⟩, rfl, fun j hj => ?_⟩
    · by_cases q : y = Y ∧ b = c - 1 - (x + i)
      · obtain ⟨rfl, rfl⟩ := q
        have e2 : rD (upd Q2.1 (91 + 20 * y + (x + i)) (nI v)) c y (c - 1 - (x + i)) = nI v := by
          unfold rD
          rw [show 91 + 20 * y + c - 1 - (c - 1 - (x + i)) = 91 + 20 * y + (x + i) by omega, upd_eq]
        rw [e2, upd_eq]
        exact ⟨rfl, v, hv, rfl⟩
      · have e2 : rD (upd Q2.1 (91 + 20 * Y + (x + i)) (nI v)) c y b = rD Q2.1 c y b := by
          unfold rD
          exact upd_ne (by omega)
        rw [e2, upd_ne (by omega)]
        exact i1.2.2 y b hy hb
    · rw [← i3 j hj]
      exact upd_ne (by omega)
theorem k_paints {c r : Nat} {s cart : Nat → Int32} {x y u : Nat} {v : Nat} (hv : v < 8) (hc : c ≤ 20) (hr : r ≤ 16) (hxu : x ≤ u) (hu : u < c) (hf : zCC cart s c r) : ∀ j : Nat, y + j ≤ r → zCC (zIt (fun j q => zIt (fun i (q : (Nat → Int32) × Nat) => (zPutG q.1 (nI c - 1 - nI (x + i)) (nI (y + j)) (nI v), q.2 + (if zAt q.1 (nI c - 1 - nI (x + i)) (nI (y + j)) = nI v then 0 else 1))) (u + 1 - x) q) j (cart, 0)).1 (rFl x y u (nI v) j (s, 0)).1 c r ∧ (zIt (fun j q => zIt (fun i (q : (Nat → Int32) × Nat) => (zPutG q.1 (nI c - 1 - nI (x + i)) (nI (y + j)) (nI v), q.2 + (if zAt q.1 (nI c - 1 - nI (x + i)) (nI (y + j)) = nI v then 0 else 1))) (u + 1 - x) q) j (cart, 0)).2 = (rFl x y u (nI v) j (s, 0)).2 ∧ ∀ k, (k < 91 ∨ 411 ≤ k) → (rFl x y u (nI v) j (s, 0)).1 k = s k
  | 0, _ => ⟨hf, rfl, fun _ _ => rfl⟩
  | j + 1, hj => by
    obtain ⟨i1, i2, i3⟩ := k_paints (x := x) (y := y) (u := u) hv hc hr hxu hu hf j (by omega)
    have e : rFl x y u (nI v) (j + 1) (s, 0) = rFlR x u (nI v) (y + j) (u + 1 - x) (rFl x y u (nI v) j (s, 0)) := rfl
    rw [e]
    show zCC (zIt _ (u + 1 - x) (zIt _ j (cart, 0))).1 _ c r ∧ (zIt _ (u + 1 - x) (zIt _ j (cart, 0))).2 = _ ∧ _
    generalize zIt (fun j q => zIt (fun i (q : (Nat → Int32) × Nat) => (zPutG q.1 (nI c - 1 - nI (x + i)) (nI (y + j)) (nI v), q.2 + (if zAt q.1 (nI c - 1 - nI (x + i)) (nI (y + j)) = nI v then 0 else 1))) (u + 1 - x) q) j (cart, 0) = Q at i1 i2 ⊢
    generalize rFl x y u (nI v) j (s, 0) = Q2 at i1 i2 i3 ⊢
    obtain ⟨f, n⟩ := Q
    obtain ⟨t, n2⟩ := Q2
    subst i2
    exact k_paint (x := x) (u := u) (v := v) (n := n) hv hc hr hu (by omega : y + j < r) i1 i3 (u + 1 - x) (by omega)
theorem k_fill {c r w lim : Nat} {tol : Int32} {cart wov lot sew mis : Nat → Int32} {cnt : Nat} {col len lef sbt : Nat → Int32} {shd : Nat → UInt32} {s : Nat → Int32} (h : zRe c r w lim tol cart wov lot sew mis cnt col len lef sbt shd s) {x y u z v : Nat} (hv : v < 8) (hxu : x ≤ u) (hu : u < c) (hyz : y ≤ z) (hz : z < r) : zRe c r w lim tol (zPt c x y u z (nI v) cart).1 wov lot sew mis cnt col len lef sbt shd (rFl x y u (nI v) (z + 1 - y) (s, 0)).1 ∧ (zPt c x y u z (nI v) cart).2 = (rFl x y u (nI v) (z + 1 - y) (s, 0)).2 := by
  obtain ⟨hM, h1, ⟨h5, h5v⟩, hC, hW, hL, hS, hMi, hQ, hN, hs, h6⟩ := h
  obtain ⟨m0, m1, m2, m3, m4, hc1, hc20, hr1, hr16, hw, hn, hl⟩ := hM
  obtain ⟨k1, k2, k3⟩ := k_paints (y := y) hv hc20 hr16 hxu hu hC (z + 1 - y) (by omega)
  refine ⟨?_, k2⟩
  have hr : ∀ y b, rW (rFl x y u (nI v) (z + 1 - y) (s, 0)).1 y b = rW (rFl x y u (nI v) (z + 1 - y) (s, 0)).1 y b := fun _ _ => rfl
  have kW : ∀ y9 b, rW (rFl x y u (nI v) (z + 1 - y) (s, 0)).1 y9 b = rW s y9 b := fun _ _ => k3 _ (by omega)
  have kY : ∀ y9 b, rY (rFl x y u (nI v) (z + 1 - y) (s, 0)).1 y9 b = rY s y9 b := fun _ _ => k3 _ (by omega)
  have hW' := hW.cg (wov' := wov) (s' := (rFl x y u (nI v) (z + 1 - y) (s, 0)).1) (fun _ _ _ _ => rfl) (fun _ _ _ _ => kW _ _)
  exact ⟨⟨by rw [k3 _ (by omega)]; exact m0, by rw [k3 _ (by omega)]; exact m1, by rw [k3 _ (by omega)]; exact m2, by rw [k3 _ (by omega)]; exact m3, by rw [k3 _ (by omega)]; exact m4, hc1, hc20, hr1, hr16, hw, hn, hl⟩, h1, ⟨by rw [k3 _ (by omega)]; exact h5, h5v⟩, k1, hW', hL.cg fun _ _ _ _ => kY _ _, hS.cg hW hW' (fun _ _ _ _ => kW _ _) (fun _ _ _ _ => k3 _ (by omega)), hMi.cg fun _ _ => k3 _ (by omega), hQ.cg fun _ _ _ => k3 _ (by omega), hN.cg (fun _ _ _ => k3 _ (by omega)) (fun _ _ _ _ => kY _ _), hs, by rw [k3 _ (by omega)]; exact h6⟩
/-- a lot -/
theorem k_add {c r w lim : Nat} {tol : Int32} {cart wov lot sew mis : Nat → Int32} {cnt : Nat} {col len lef sbt : Nat → Int32} {shd : Nat → UInt32} {s : Nat → Int32} (h : zRe c r w lim tol cart wov lot sew mis cnt col len lef sbt shd s) {v sh : Int32} {l : Nat} (hn16 : cnt < 16) (hl9 : l ≤ 999) (hsh : rShv sh) : zRe c r w lim tol cart wov lot sew mis (cnt + 1) (zPutN 16 col (nI cnt) v) (zPutN 16 len (nI cnt) (nI l)) (zPutN 16 lef (nI cnt) (nI l)) (zPutN 16 sbt (nI cnt) sh) (zPutS shd (nI cnt) (zFb sh)) (rAd s cnt v (nI l) sh) := by
  obtain ⟨hM, h1, ⟨h5, h5v⟩, hC, hW, hL, hS, hMi, hQ, hN, hs, h6⟩ := h
  obtain ⟨m0, m1, m2, m3, m4, hc1, hc20, hr1, hr16, hw, hn, hl⟩ := hM
  have ehi : ∀ j, 71 ≤ j → rAd s cnt v (nI l) sh j = s j := fun j hj => by
    unfold rAd
    rw [upd_ne (by omega), upd_ne (by omega), upd_ne (by omega), upd_ne (by omega), upd_ne (by omega)]
  have elo : ∀ j, j < 7 → ¬ j = 3 → rAd s cnt v (nI l) sh j = s j := fun j hj h3 => by
    unfold rAd
    rw [upd_ne h3, upd_ne (by omega), upd_ne (by omega), upd_ne (by omega), upd_ne (by omega)]
  have ek : ∀ k t, k < 16 → t < 4 → ¬ k = cnt → rAd s cnt v (nI l) sh (7 + 4 * k + t) = s (7 + 4 * k + t) := fun k t hk ht hne => by
    unfold rAd
    rw [upd_ne (by omega), upd_ne (by omega), upd_ne (by omega), upd_ne (by omega), upd_ne (by omega)]
  have k0 : rAd s cnt v (nI l) sh (7 + 4 * cnt) = v := by
    unfold rAd
    rw [upd_ne (by omega), upd_ne (by omega), upd_ne (by omega), upd_ne (by omega), upd_eq]
  have k1 : rAd s cnt v (nI l) sh (7 + 4 * cnt + 1) = nI l := by
    unfold rAd
    rw [upd_ne (by omega), upd_ne (by omega), upd_ne (by omega), upd_eq]
  have k2 : rAd s cnt v (nI l) sh (7 + 4 * cnt + 2) = nI l := by
    unfold rAd
    rw [upd_ne (by omega), upd_ne (by omega), upd_eq]
  have k3 : rAd s cnt v (nI l) sh (7 + 4 * cnt + 3) = sh := by
    unfold rAd
    rw [upd_ne (by omega), upd_eq]
  have kW : ∀ y9 b, rW (rAd s cnt v (nI l) sh) y9 b = rW s y9 b := fun _ _ => ehi _ (by omega)
  have kY : ∀ y9 b, rY (rAd s cnt v (nI l) sh) y9 b = rY s y9 b := fun _ _ => ehi _ (by omega)
  have hW' := hW.cg (wov' := wov) (s' := rAd s cnt v (nI l) sh) (fun _ _ _ _ => rfl) (fun _ _ _ _ => kW _ _)
  rw [zPutN_n hn16 (by decide), zPutN_n hn16 (by decide), zPutN_n hn16 (by decide), zPutN_n hn16 (by decide), zPutS_n hn16]
  refine ⟨⟨by rw [elo _ (by omega) (by omega)]; exact m0, by rw [elo _ (by omega) (by omega)]; exact m1, by rw [elo _ (by omega) (by omega)]; exact m2, upd_eq, by rw [elo _ (by omega) (by omega)]; exact m4, hc1, hc20, hr1, hr16, hw, hn16, hl⟩, h1, ⟨by rw [elo _ (by omega) (by omega)]; exact h5, h5v⟩, hC.cg fun y b hy hb => ehi _ (by omega), hW', fun y b hy hb => ?_, hS.cg hW hW' (fun _ _ _ _ => kW _ _) (fun _ _ _ _ => ehi _ (by omega)), hMi.cg fun _ _ => ehi _ (by omega), fun k hk => ?_, ?_, fun j => ?_, by rw [elo _ (by omega) (by omega)]; exact h6⟩
  · rw [kY]
    obtain ⟨q1, j, q2, q3⟩ := hL y b hy hb
    exact ⟨q1, j, by omega, q3⟩
  · by_cases q : k = cnt
    · subst q
      rw [k0, k1, k2, k3]
      exact ⟨upd_eq, upd_eq, upd_eq, upd_eq, if_pos rfl, hsh⟩
    · rw [show 7 + 4 * k = 7 + 4 * k + 0 from rfl, ek k 0 hk (by decide) q, ek k 1 hk (by decide) q, ek k 2 hk (by decide) q, ek k 3 hk (by decide) q, upd_ne q, upd_ne q, upd_ne q, upd_ne q, show vf_upd shd cnt (zFb sh) k = shd k from if_neg q]
      exact hQ k hk
  · obtain ⟨n, hn2⟩ := hN
    refine ⟨fun k => if k = cnt then l else n k, fun k hk => ?_⟩
    have es : zSN (fun y => zCt (fun b => rY (rAd s cnt v (nI l) sh) y b == nI k) c) w = zSN (fun y => zCt (fun b => rY s y b == nI k) c) w := zSN_cg fun y hy1 => zCt_cg fun b hb => by rw [kY]
    rw [es]
    by_cases q : k = cnt
    · subst q
      show _ = nI (if k = k then l else n k) ∧ (if k = k then l else n k) + _ ≤ 999
      rw [k2, if_pos rfl]
      refine ⟨rfl, ?_⟩
      have e0 : zSN (fun y => zCt (fun b => rY s y b == nI k) c) w = zSN (fun _ => 0) w := zSN_cg fun y hy => by
        have e1 : zCt (fun b => rY s y b == nI k) c = zCt (fun _ => false) c := zCt_cg fun b hb => by
          obtain ⟨-, j, q2, q3⟩ := hL y b hy hb
          rw [q3]
          exact beq_eq_false_iff_ne.mpr fun z => by have := m_eq (by omega) (by omega) z; omega
        rw [e1, zCt_SN]
        exact zSN_0 c
      rw [e0, zSN_0]
      exact hl9
    · show _ = nI (if k = cnt then l else n k) ∧ (if k = cnt then l else n k) + _ ≤ 999
      rw [ek k 2 hk (by decide) q, if_neg q]
      exact hn2 k hk
  · show zFinS (if j = cnt then zFb sh else shd j)
    split
    · exact fy_fin hsh
    · exact hs j
/-- the tolerance -/
theorem k_tol {c r w lim : Nat} {tol : Int32} {cart wov lot sew mis : Nat → Int32} {cnt : Nat} {col len lef sbt : Nat → Int32} {shd : Nat → UInt32} {s : Nat → Int32} (h : zRe c r w lim tol cart wov lot sew mis cnt col len lef sbt shd s) {t : Int32} (ht : rShv t) : zRe c r w lim t cart wov lot sew mis cnt col len lef sbt shd (upd s 5 t) := by
  obtain ⟨hM, h1, ⟨h5, h5v⟩, hC, hW, hL, hS, hMi, hQ, hN, hs, h6⟩ := h
  obtain ⟨m0, m1, m2, m3, m4, hc1, hc20, hr1, hr16, hw, hn, hl⟩ := hM
  have e : ∀ j, ¬ j = 5 → upd s 5 t j = s j := fun j hj => upd_ne hj
  have kW : ∀ y9 b, rW (upd s 5 t) y9 b = rW s y9 b := fun _ _ => e _ (by omega)
  have kY : ∀ y9 b, rY (upd s 5 t) y9 b = rY s y9 b := fun _ _ => e _ (by omega)
  have hW' := hW.cg (wov' := wov) (s' := upd s 5 t) (fun _ _ _ _ => rfl) (fun _ _ _ _ => kW _ _)
  exact ⟨⟨by rw [e _ (by decide)]; exact m0, by rw [e _ (by decide)]; exact m1, by rw [e _ (by decide)]; exact m2, by rw [e _ (by decide)]; exact m3, by rw [e _ (by decide)]; exact m4, hc1, hc20, hr1, hr16, hw, hn, hl⟩, h1, ⟨upd_eq, ht⟩, hC.cg fun _ _ _ _ => e _ (by omega), hW', hL.cg fun _ _ _ _ => kY _ _, hS.cg hW hW' (fun _ _ _ _ => kW _ _) (fun _ _ _ _ => e _ (by omega)), hMi.cg fun _ _ => e _ (by omega), hQ.cg fun _ _ _ => e _ (by omega), hN.cg (fun _ _ _ => e _ (by omega)) (fun _ _ _ _ => kY _ _), hs, by rw [e _ (by decide)]; exact h6⟩
theorem rFg_off {s B F : Nat → Int32} {n j : Nat} (h : j < 1051) : rFg s B F n j = s j := zFa_lo h
/-- the limit -/
theorem k_limit {c r w lim : Nat} {tol : Int32} {cart wov lot sew mis : Nat → Int32} {cnt : Nat} {col len lef sbt : Nat → Int32} {shd : Nat → UInt32} {s : Nat → Int32} (h : zRe c r w lim tol cart wov lot sew mis cnt col len lef sbt shd s) {a : Nat} (ha : 1 ≤ a) (ha16 : a ≤ 16) (B F T : Nat → Int32) : zRe c r w a tol cart wov lot (zFg wov sew c w a) mis cnt col len lef sbt shd (rFg (upd s 4 (nI a)) (rFd (upd s 4 (nI a)) w a (c - 1) (0, B, F, T)).2.1 (rFd (upd s 4 (nI a)) w a (c - 1) (0, B, F, T)).2.2.1 (rFd (upd s 4 (nI a)) w a (c - 1) (0, B, F, T)).1) := by
  obtain ⟨hM, h1, ⟨h5, h5v⟩, hC, hW, hL, hS, hMi, hQ, hN, hs, h6⟩ := h
  obtain ⟨m0, m1, m2, m3, m4, hc1, hc20, hr1, hr16, hw, hn, hl⟩ := hM
  generalize hB : (rFd (upd s 4 (nI a)) w a (c - 1) (0, B, F, T)) = D
  have e4 : ∀ j, ¬ j = 4 → upd s 4 (nI a) j = s j := fun j hj => upd_ne hj
  have hWt := hW.cg (wov' := wov) (s' := upd s 4 (nI a)) (fun _ _ _ _ => rfl) (fun _ _ _ _ => e4 _ (by omega))
  have e : ∀ j, j < 1051 → ¬ j = 4 → rFg (upd s 4 (nI a)) D.2.1 D.2.2.1 D.1 j = s j := fun j hj h4 => by rw [rFg_off hj, e4 j h4]
  have kW : ∀ y9 b, y9 < w → b < c → rW (rFg (upd s 4 (nI a)) D.2.1 D.2.2.1 D.1) y9 b = rW s y9 b := fun _ _ _ _ => e _ (by omega) (by omega)
  have kY : ∀ y9 b, y9 < w → b < c → rY (rFg (upd s 4 (nI a)) D.2.1 D.2.2.1 D.1) y9 b = rY s y9 b := fun _ _ _ _ => e _ (by omega) (by omega)
  refine ⟨⟨by rw [e _ (by decide) (by decide)]; exact m0, by rw [e _ (by decide) (by decide)]; exact m1, by rw [e _ (by decide) (by decide)]; exact m2, by rw [e _ (by decide) (by decide)]; exact m3, by rw [rFg_off (by decide), upd_eq], hc1, hc20, hr1, hr16, hw, hn, ha16⟩, ha, ⟨by rw [e _ (by decide) (by decide)]; exact h5, h5v⟩, hC.cg fun _ _ _ _ => e _ (by omega) (by omega), hW.cg (fun _ _ _ _ => rfl) kW, hL.cg kY, ?_, hMi.cg fun _ _ => e _ (by omega) (by omega), hQ.cg fun _ _ _ => e _ (by omega) (by omega), hN.cg (fun _ _ _ => e _ (by omega) (by omega)) kY, hs, by rw [e _ (by decide) (by decide)]; exact h6⟩
  rw [← hB]
  refine zSW.fg (s := s) hc1 hWt B F T fun b y hb hy => ?_
  rw [e4 _ (by omega)]
  obtain ⟨q1, q2⟩ := hS b y hb hy
  exact ⟨q1, q2.imp id fun z => z.1⟩
/-- a mistake -/
theorem k_plant {c r w lim : Nat} {tol : Int32} {cart wov lot sew mis : Nat → Int32} {cnt : Nat} {col len lef sbt : Nat → Int32} {shd : Nat → UInt32} {s : Nat → Int32} (h : zRe c r w lim tol cart wov lot sew mis cnt col len lef sbt shd s) {b v : Nat} (hb : b < c) (hv : v < 8) : zRe c r w lim tol cart wov lot sew (zPutN 20 mis (nI b) (nI v)) cnt col len lef sbt shd (upd s (71 + b) (nI v)) := by
  obtain ⟨hM, h1, ⟨h5, h5v⟩, hC, hW, hL, hS, hMi, hQ, hN, hs, h6⟩ := h
  obtain ⟨m0, m1, m2, m3, m4, hc1, hc20, hr1, hr16, hw, hn, hl⟩ := hM
  have e : ∀ j, (j < 71 ∨ 91 ≤ j) → upd s (71 + b) (nI v) j = s j := fun j hj => upd_ne (by omega)
  have kW : ∀ y9 b9, rW (upd s (71 + b) (nI v)) y9 b9 = rW s y9 b9 := fun _ _ => e _ (by omega)
  have kY : ∀ y9 b9, rY (upd s (71 + b) (nI v)) y9 b9 = rY s y9 b9 := fun _ _ => e _ (by omega)
  have hW' := hW.cg (wov' := wov) (s' := upd s (71 + b) (nI v)) (fun _ _ _ _ => rfl) (fun _ _ _ _ => kW _ _)
  rw [zPutN_n (by omega) (by decide)]
  refine ⟨⟨by rw [e _ (by omega)]; exact m0, by rw [e _ (by omega)]; exact m1, by rw [e _ (by omega)]; exact m2, by rw [e _ (by omega)]; exact m3, by rw [e _ (by omega)]; exact m4, hc1, hc20, hr1, hr16, hw, hn, hl⟩, h1, ⟨by rw [e _ (by omega)]; exact h5, h5v⟩, hC.cg fun _ _ _ _ => e _ (by omega), hW', hL.cg fun _ _ _ _ => kY _ _, hS.cg hW hW' (fun _ _ _ _ => kW _ _) (fun _ _ _ _ => e _ (by omega)), fun x hx => ?_, hQ.cg fun _ _ _ => e _ (by omega), hN.cg (fun _ _ _ => e _ (by omega)) (fun _ _ _ _ => kY _ _), hs, by rw [e _ (by omega)]; exact h6⟩
  by_cases q : x = b
  · subst q
    rw [upd_eq, upd_eq]
    exact ⟨rfl, Or.inr ⟨hb, v, hv, rfl⟩⟩
  · rw [upd_ne q, upd_ne (by omega)]
    exact hMi x hx
