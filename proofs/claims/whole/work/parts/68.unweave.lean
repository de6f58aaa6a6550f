/-! unweaving and sewing -/
theorem zSN_first (g : Nat → Nat) (m : Nat) : zSN g (m + 1) = g 0 + zSN (fun i => g (i + 1)) m := by
  rw [Nat.add_comm m 1, zSN_split g 1 m]
  show 0 + g 0 + _ = _
  rw [Nat.zero_add]
  exact congrArg _ (zSN_cg fun j _ => by rw [Nat.add_comm])
theorem zSN_rev (f : Nat → Nat) (w : Nat) : ∀ m : Nat, m ≤ w → zSN (fun i => f (w - (i + 1))) m = zSN (fun i => f (w - m + i)) m
  | 0, _ => rfl
  | m + 1, h => by
    rw [zSN_first (fun i => f (w - (m + 1) + i)) m]
    show zSN (fun i => f (w - (i + 1))) m + f (w - (m + 1)) = f (w - (m + 1) + 0) + _
    rw [zSN_rev f w m (by omega), Nat.add_comm, Nat.add_zero]
    exact congrArg _ (zSN_cg fun i _ => congrArg f (by omega))
theorem k_cnt {s : Nat → Int32} {a b j k : Nat} (hj : j < 16) (hk : k < 16) (e : rY s a b = nI j) : zCt (fun b => rY s a b == nI k) (b + 1) = zCt (fun b => rY s a b == nI k) b + (if k = j then 1 else 0) := by
  show zCt _ b + (if rY s a b == nI k then 1 else 0) = _
  rw [e]
  by_cases q : k = j
  · rw [if_pos q, q, beq_self_eq_true, if_pos rfl]
  · rw [if_neg q, beq_eq_false_iff_ne.mpr (fun z => q (m_eq (by omega) (by omega) z).symm), if_neg (by decide)]
theorem k_uwR {lot s : Nat → Int32} {c w cnt a k : Nat} (hL : zLL lot s c w cnt) (hc : c ≤ 20) (hw : w ≤ 16) (hn : cnt ≤ 16) (ha : a < w) (hk : k < 16) (l : Nat → Int32) : ∀ b : Nat, b ≤ c → zIt (fun b l => zGb l (zAt lot (nI b) (nI a))) b l k = l k + nI (zCt (fun b => rY s a b == nI k) b)
  | 0, _ => by
    show l k = l k + nI 0
    rw [nI_0, Int32.add_zero]
  | b + 1, hb => by
    have ih := k_uwR hL hc hw hn ha hk l b (by omega)
    obtain ⟨-, j, hj, e⟩ := hL a b ha (by omega)
    rw [k_cnt (by omega) hk e]
    show zGb (zIt _ b l) (zAt lot (nI b) (nI a)) k = _
    rw [(hL.row hc hw hn ha).at (by omega), e]
    generalize zIt (fun b l => zGb l (zAt lot (nI b) (nI a))) b l = X at ih ⊢
    unfold zGb
    rw [zPutN_n (by omega) (by decide), zAtN_in (by omega) (by decide)]
    by_cases q : k = j
    · subst q
      rw [upd_eq, ih, if_pos rfl, ← nI_add, ← Int32.add_assoc, nI_one]
    · rw [upd_ne q, ih, if_neg q, Nat.add_zero (zCt _ b)]
theorem k_uw {lot s : Nat → Int32} {c w cnt k : Nat} (hL : zLL lot s c w cnt) (hc : c ≤ 20) (hw : w ≤ 16) (hn : cnt ≤ 16) (hk : k < 16) (l : Nat → Int32) : ∀ m : Nat, m ≤ w → zUw lot c w m l k = l k + nI (zSN (fun i => zCt (fun b => rY s (w - (i + 1)) b == nI k) c) m)
  | 0, _ => by
    show l k = l k + nI 0
    rw [nI_0, Int32.add_zero]
  | m + 1, hm => by
    show zIt (fun b l => zGb l (zAt lot (nI b) (nI (w - (m + 1))))) c (zUw lot c w m l) k = l k + nI (zSN _ m + zCt _ c)
    rw [k_uwR hL hc hw hn (by omega) hk _ c (Nat.le_refl _), k_uw hL hc hw hn hk l m (by omega), Int32.add_assoc, nI_add]
theorem r_uwR {lot s t : Nat → Int32} {c w cnt a k : Nat} (hL : zLL lot s c w cnt) (hn : cnt ≤ 16) (ha : a < w) (hk : k < 16) : ∀ b : Nat, b ≤ c → rUwR s a b t (7 + 4 * k + 2) = t (7 + 4 * k + 2) + nI (zCt (fun b => rY s a b == nI k) b) ∧ ∀ j, (∀ i, i < 16 → ¬ j = 7 + 4 * i + 2) → rUwR s a b t j = t j
  | 0, _ => ⟨by
    show t _ = t _ + nI 0
    rw [nI_0, Int32.add_zero], fun _ _ => rfl⟩
  | b + 1, hb => by
    obtain ⟨i1, i2⟩ := r_uwR (t := t) hL hn ha hk b (by omega)
    obtain ⟨-, j, hj, e⟩ := hL a b ha (by omega)
    have e0 : rUwR s a (b + 1) t = rGb (rUwR s a b t) (rY s a b) := rfl
    rw [e0, k_cnt (by omega) hk e, e]
    unfold rGb
    rw [rIx_n (by omega)]
    refine ⟨?_, fun i hi => ?_⟩
    · by_cases q : k = j
      · subst q
        rw [upd_eq, i1, if_pos rfl, ← nI_add, ← Int32.add_assoc]
      · rw [upd_ne (by omega), i1, if_neg q, Nat.add_zero (zCt _ b)]
    · rw [upd_ne (hi j (by omega)), i2 i hi]
theorem r_uw {lot s t : Nat → Int32} {c w cnt y0 k : Nat} (hL : zLL lot s c w cnt) (hn : cnt ≤ 16) (hk : k < 16) : ∀ m : Nat, y0 + m ≤ w → rUw s c y0 m t (7 + 4 * k + 2) = t (7 + 4 * k + 2) + nI (zSN (fun i => zCt (fun b => rY s (y0 + i) b == nI k) c) m) ∧ ∀ j, (∀ i, i < 16 → ¬ j = 7 + 4 * i + 2) → rUw s c y0 m t j = t j
  | 0, _ => ⟨by
    show t _ = t _ + nI 0
    rw [nI_0, Int32.add_zero], fun _ _ => rfl⟩
  | m + 1, hm => by
    obtain ⟨i1, i2⟩ := r_uw (t := t) (y0 := y0) hL hn hk m (by omega)
    have e0 : rUw s c y0 (m + 1) t = rUwR s (y0 + m) c (rUw s c y0 m t) := rfl
    obtain ⟨j1, j2⟩ := r_uwR (t := rUw s c y0 m t) hL hn (by omega : y0 + m < w) hk c (Nat.le_refl _)
    rw [e0]
    refine ⟨?_, fun j hj => by rw [j2 j hj, i2 j hj]⟩
    rw [j1, i1, Int32.add_assoc, nI_add]
    rfl
theorem k_unweave {c r w lim : Nat} {tol : Int32} {cart wov lot sew mis : Nat → Int32} {cnt : Nat} {col len lef sbt : Nat → Int32} {shd : Nat → UInt32} {s : Nat → Int32} (h : zRe c r w lim tol cart wov lot sew mis cnt col len lef sbt shd s) {n : Nat} (hnw : n ≤ w) (B F T : Nat → Int32) : zRe c r (w - n) lim tol cart wov lot (zFg wov sew c (w - n) lim) mis cnt col len (zUw lot c w n lef) sbt shd (rFg (upd (rUw s c (w - n) n s) 2 (nI (w - n))) (rFd (upd (rUw s c (w - n) n s) 2 (nI (w - n))) (w - n) lim (c - 1) (0, B, F, T)).2.1 (rFd (upd (rUw s c (w - n) n s) 2 (nI (w - n))) (w - n) lim (c - 1) (0, B, F, T)).2.2.1 (rFd (upd (rUw s c (w - n) n s) 2 (nI (w - n))) (w - n) lim (c - 1) (0, B, F, T)).1) := by
  obtain ⟨hM, h1, ⟨h5, h5v⟩, hC, hW, hL, hS, hMi, hQ, hN, hs, h6⟩ := h
  obtain ⟨m0, m1, m2, m3, m4, hc1, hc20, hr1, hr16, hw, hn, hl⟩ := hM
  generalize hT : upd (rUw s c (w - n) n s) 2 (nI (w - n)) = t
  have u1 : ∀ j, ¬ j = 2 → (∀ i, i < 16 → ¬ j = 7 + 4 * i + 2) → t j = s j := fun j j2 hj => by
    rw [← hT, upd_ne j2]
    exact (r_uw (t := s) (y0 := w - n) hL hn (by decide : 0 < 16) n (by omega)).2 j hj
  have u2 : ∀ k, k < 16 → t (7 + 4 * k + 2) = s (7 + 4 * k + 2) + nI (zSN (fun i => zCt (fun b => rY s (w - n + i) b == nI k) c) n) := fun k hk => by
    rw [← hT, upd_ne (by omega)]
    exact (r_uw (t := s) (y0 := w - n) hL hn hk n (by omega)).1
  have t2 : t 2 = nI (w - n) := by rw [← hT, upd_eq]
  have hWt : zWW wov t c (w - n) := (hW.le (Nat.sub_le w n)).cg (fun _ _ _ _ => rfl) (fun _ _ _ _ => u1 _ (by omega) (fun _ _ => by omega))
  generalize hB : (rFd t (w - n) lim (c - 1) (0, B, F, T)) = D
  have e : ∀ j, j < 1051 → rFg t D.2.1 D.2.2.1 D.1 j = t j := fun j hj => rFg_off hj
  have kW : ∀ y9 b, y9 < w - n → b < c → rW (rFg t D.2.1 D.2.2.1 D.1) y9 b = rW s y9 b := fun _ _ _ _ => (e _ (by omega)).trans (u1 _ (by omega) (fun _ _ => by omega))
  have kY : ∀ y9 b, y9 < w - n → b < c → rY (rFg t D.2.1 D.2.2.1 D.1) y9 b = rY s y9 b := fun _ _ _ _ => (e _ (by omega)).trans (u1 _ (by omega) (fun _ _ => by omega))
  have lo : ∀ j, j < 7 → ¬ j = 2 → rFg t D.2.1 D.2.2.1 D.1 j = s j := fun j hj j2 => (e _ (by omega)).trans (u1 _ j2 (fun _ _ => by omega))
  have hLu : ∀ k, k < 16 → zUw lot c w n lef k = lef k + nI (zSN (fun i => zCt (fun b => rY s (w - n + i) b == nI k) c) n) := fun k hk => by
    rw [k_uw hL hc20 (by omega) hn hk lef n hnw, zSN_rev (fun a => zCt (fun b => rY s a b == nI k) c) w n hnw]
  refine ⟨⟨by rw [lo _ (by decide) (by decide)]; exact m0, by rw [lo _ (by decide) (by decide)]; exact m1, by rw [e _ (by decide)]; exact t2, by rw [lo _ (by decide) (by decide)]; exact m3, by rw [lo _ (by decide) (by decide)]; exact m4, hc1, hc20, hr1, hr16, by omega, hn, hl⟩, h1, ⟨by rw [lo _ (by decide) (by decide)]; exact h5, h5v⟩, hC.cg fun _ _ _ _ => (e _ (by omega)).trans (u1 _ (by omega) (fun _ _ => by omega)), (hW.le (Nat.sub_le w n)).cg (fun _ _ _ _ => rfl) kW, fun y b hy hb => ?_, ?_, hMi.cg fun _ _ => (e _ (by omega)).trans (u1 _ (by omega) (fun _ _ => by omega)), fun k hk => ?_, ?_, hs, by rw [lo _ (by decide) (by decide)]; exact h6⟩
  · rw [kY y b hy hb]
    exact hL y b (by omega) hb
  · rw [← hB]
    refine zSW.fg (s := s) hc1 hWt B F T fun b y hb hy => ?_
    rw [u1 _ (by omega) (fun _ _ => by omega)]
    obtain ⟨q1, q2⟩ := hS b y hb hy
    exact ⟨q1, q2.imp id fun z => z.1⟩
  · obtain ⟨q0, q1, q2, q3, q4, q5⟩ := hQ k hk
    rw [e _ (by omega), e _ (by omega), e _ (by omega), e _ (by omega), u1 (7 + 4 * k) (by omega) (fun _ _ => by omega), u1 (7 + 4 * k + 1) (by omega) (fun _ _ => by omega), u2 k hk, u1 (7 + 4 * k + 3) (by omega) (fun _ _ => by omega), hLu k hk, q2]
    exact ⟨q0, q1, rfl, q3, q4, q5⟩
  · obtain ⟨nn, hnn⟩ := hN
    refine ⟨fun k => nn k + zSN (fun i => zCt (fun b => rY s (w - n + i) b == nI k) c) n, fun k hk => ?_⟩
    obtain ⟨q1, q2⟩ := hnn k hk
    rw [e _ (by omega), u2 k hk, q1, nI_add]
    refine ⟨rfl, ?_⟩
    have es : zSN (fun y => zCt (fun b => rY (rFg t D.2.1 D.2.2.1 D.1) y b == nI k) c) (w - n) = zSN (fun y => zCt (fun b => rY s y b == nI k) c) (w - n) := zSN_cg fun y hy => zCt_cg fun b hb => by rw [kY y b hy hb]
    rw [es]
    have sp := zSN_split (fun y => zCt (fun b => rY s y b == nI k) c) (w - n) n
    rw [show w - n + n = w by omega] at sp
    rw [sp] at q2
    show nn k + zSN (fun i => zCt (fun b => rY s (w - n + i) b == nI k) c) n + _ ≤ 999
    omega
/-- sewing -/
theorem k_place {wov s sew : Nat → Int32} {c w lim k b y : Nat} (hW : zWW wov s c w) (hS : zSW wov sew s c w lim) (hk2 : k < 2 ^ 31) (hk : (zSL (zSlP wov c w lim) c w)[k]? = some (b, y)) : zSp wov c w lim (nI k) = nI (16 * b + y) ∧ ¬ zSp wov c w lim (nI k) = -1 ∧ zSp wov c w lim (nI k) / nI 16 = nI b ∧ zSp wov c w lim (nI k) - zSp wov c w lim (nI k) / nI 16 * nI 16 = nI y ∧ (zAt sew (nI b) (nI y) == 1) = (s (1051 + 16 * b + y) == nI 1) ∧ b < 20 ∧ y < 16 := by
  have h1 := hW.1
  have h2 := hW.2.1
  obtain ⟨m1, m2, m3⟩ := zSL_mem.mp (List.mem_of_getElem? hk)
  have e : zSp wov c w lim (nI k) = nI (16 * b + y) := by
    rw [zSp_k h1 h2 hk2, hk]
  rw [e]
  refine ⟨rfl, nI_m1' (by omega), ?_, ?_, hS.at (by omega) (by omega), by omega, by omega⟩
  · rw [pk_div (by omega) (by decide) (by decide)]
    exact congrArg nI (by omega)
  · rw [pk_rem (by omega) (by decide) (by decide)]
    exact congrArg nI (by omega)
theorem k_noplace {wov : Nat → Int32} {c w lim k : Nat} (hc : c ≤ 20) (hw : w ≤ 16) (hk2 : k < 2 ^ 31) (hk : (zSL (zSlP wov c w lim) c w).length ≤ k) : zSp wov c w lim (nI k) = -1 := by
  rw [zSp_k hc hw hk2, List.getElem?_eq_none hk]
theorem k_sew {c r w lim : Nat} {tol : Int32} {cart wov lot sew mis : Nat → Int32} {cnt : Nat} {col len lef sbt : Nat → Int32} {shd : Nat → UInt32} {s : Nat → Int32} (h : zRe c r w lim tol cart wov lot sew mis cnt col len lef sbt shd s) {k : Nat} (B F T : Nat → Int32) (hk : k < (rFd s w lim (c - 1) (0, B, F, T)).1) : zRe c r w lim tol cart wov lot (zSwS wov sew c w lim (nI k)) mis cnt col len lef sbt shd (upd s (rSx (rFd s w lim (c - 1) (0, B, F, T)).2.1 (rFd s w lim (c - 1) (0, B, F, T)).2.2.1 k) (nI 1)) ∧ nI (zSc wov c w lim) - nI (zCi (zSwS wov sew c w lim (nI k)) 1 c r) = nI (rFd s w lim (c - 1) (0, B, F, T)).1 - nI (zCt (fun j => (upd s (rSx (rFd s w lim (c - 1) (0, B, F, T)).2.1 (rFd s w lim (c - 1) (0, B, F, T)).2.2.1 k) (nI 1)) (rSx (rFd s w lim (c - 1) (0, B, F, T)).2.1 (rFd s w lim (c - 1) (0, B, F, T)).2.2.1 j) == nI 1) (rFd s w lim (c - 1) (0, B, F, T)).1) := by
  obtain ⟨hM, h1, ⟨h5, h5v⟩, hC, hW, hL, hS, hMi, hQ, hN, hs, h6⟩ := h
  obtain ⟨m0, m1, m2, m3, m4, hc1, hc20, hr1, hr16, hw, hn, hl⟩ := hM
  obtain ⟨a1, a2⟩ := rFd_a (lm := lim) hW hc1 B F T
  rw [a1] at hk
  obtain ⟨b, y, g1, -, g3, g4, g5⟩ := zSL_at hk
  have hlen : (zSL (zSlP wov c w lim) c w).length < 2 ^ 31 := by
    rw [zSL_len]
    have := zSN_le (f := fun b => zCt (zSlP wov c w lim b) w) (m := 16) (fun k => Nat.le_trans (zCt_le _ _) (by omega)) c
    omega
  obtain ⟨p1, p2, p3, p4, p5, pb, py⟩ := k_place hW hS (by omega) g1
  obtain ⟨q1, q2, -⟩ := a2 k _ g1
  have ex : rSx (rFd s w lim (c - 1) (0, B, F, T)).2.1 (rFd s w lim (c - 1) (0, B, F, T)).2.2.1 k = 1051 + 16 * b + y := rSx_n q1 q2 pb py
  rw [ex]
  have eS : zSwS wov sew c w lim (nI k) = upd sew (20 * y + b) 1 := by
    unfold zSwS
    rw [if_neg p2, p4, p3, zPutG_n pb py]
  have e : ∀ j, j < 1051 → upd s (1051 + 16 * b + y) (nI 1) j = s j := fun j hj => upd_ne (by omega)
  have hW' : zWW wov (upd s (1051 + 16 * b + y) (nI 1)) c w := hW.cg (fun _ _ _ _ => rfl) (fun _ _ _ _ => e _ (by omega))
  have hS' : zSW wov (upd sew (20 * y + b) 1) (upd s (1051 + 16 * b + y) (nI 1)) c w lim := fun b1 y1 hb1 hy1 => by
    by_cases q : b1 = b ∧ y1 = y
    · obtain ⟨rfl, rfl⟩ := q
      rw [upd_eq, upd_eq]
      exact ⟨nI_one.symm, Or.inr ⟨rfl, g3, g4, g5⟩⟩
    · rw [upd_ne (by omega), upd_ne (by omega)]
      exact hS b1 y1 hb1 hy1
  rw [eS]
  refine ⟨⟨⟨by rw [e _ (by decide)]; exact m0, by rw [e _ (by decide)]; exact m1, by rw [e _ (by decide)]; exact m2, by rw [e _ (by decide)]; exact m3, by rw [e _ (by decide)]; exact m4, hc1, hc20, hr1, hr16, hw, hn, hl⟩, h1, ⟨by rw [e _ (by decide)]; exact h5, h5v⟩, hC.cg fun _ _ _ _ => e _ (by omega), hW', hL.cg fun _ _ _ _ => e _ (by omega), hS', hMi.cg fun _ _ => e _ (by omega), hQ.cg fun _ _ _ => e _ (by omega), hN.cg (fun _ _ _ => e _ (by omega)) (fun _ _ _ _ => e _ (by omega)), hs, by rw [e _ (by decide)]; exact h6⟩, ?_⟩
  have eD : rFd (upd s (1051 + 16 * b + y) (nI 1)) w lim (c - 1) (0, B, F, T) = rFd s w lim (c - 1) (0, B, F, T) := by rw [rFd_l hW' hc1, rFd_l hW hc1]
  rw [zSew_n hW' hS' hr16 hw hc1 B F T, eD, zSc_l, ← a1]
