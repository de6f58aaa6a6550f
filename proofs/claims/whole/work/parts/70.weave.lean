/-! weaving, whole -/
theorem zLy_at {cart mis : Nat → Int32} {w : Nat} (hw : w < 16) (wov : Nat → Int32) : ∀ k : Nat, k ≤ 20 → ∀ j, zIt (fun b f => zPutG f (nI b) (nI w) (if zAtN 20 mis (nI b) = -1 then zAt cart (nI b) (nI w) else zAtN 20 mis (nI b))) k wov j = if 20 * w ≤ j ∧ j < 20 * w + k then (if zAtN 20 mis (nI (j - 20 * w)) = -1 then zAt cart (nI (j - 20 * w)) (nI w) else zAtN 20 mis (nI (j - 20 * w))) else wov j
  | 0, _, j => by rw [if_neg (by omega)]; rfl
  | k + 1, hk, j => by
    show zPutG (zIt _ k wov) (nI k) (nI w) _ j = _
    rw [zPutG_n (by omega) hw]
    by_cases q : j = 20 * w + k
    · subst q
      rw [upd_eq, if_pos (show 20 * w ≤ 20 * w + k ∧ 20 * w + k < 20 * w + (k + 1) by omega), show 20 * w + k - 20 * w = k by omega]
    · rw [upd_ne q, zLy_at hw wov k (by omega) j]
      by_cases z : 20 * w ≤ j ∧ j < 20 * w + k
      · rw [if_pos z, if_pos (show 20 * w ≤ j ∧ j < 20 * w + (k + 1) by omega)]
      · rw [if_neg z, if_neg (show ¬ (20 * w ≤ j ∧ j < 20 * w + (k + 1)) by omega)]
theorem zAF_cg {p q : Nat → Bool} : ∀ (d a : Nat), (∀ v, a ≤ v → v < a + d → p v = q v) → zAF p a d = zAF q a d
  | 0, _, _ => rfl
  | d + 1, a, h => by
    show (if p a then zAF p (a + 1) d else false) = (if q a then zAF q (a + 1) d else false)
    rw [h a (by omega) (by omega), zAF_cg d (a + 1) fun v h1 h2 => h v (by omega) (by omega)]
theorem zAF_t {p : Nat → Bool} : ∀ (d a : Nat), zAF p a d = true → ∀ v, a ≤ v → v < a + d → p v = true
  | 0, _, _, v, h1, h2 => absurd h1 (by omega)
  | d + 1, a, h, v, h1, h2 => by
    have h' : (if p a then zAF p (a + 1) d else false) = true := h
    by_cases q : p a = true
    · rw [if_pos q] at h'
      by_cases z : v = a
      · rw [z]; exact q
      · exact zAF_t d (a + 1) h' v (by omega) (by omega)
    · rw [if_neg q] at h'
      exact absurd h' (by decide)
theorem zLn_mono {P P' : Nat → Bool} : ∀ (d a : Nat), (∀ y, a ≤ y → y < a + d → P' y = P y) → zLn P a d ≤ zLn P' a (d + 1)
  | 0, _, _ => Nat.zero_le _
  | d + 1, a, h => by
    have ih := zLn_mono d (a + 1) fun y h1 h2 => h y (by omega) (by omega)
    show (if P a then zLn P (a + 1) d + 1 else 0) ≤ (if P' a then zLn P' (a + 1) (d + 1) + 1 else 0)
    rw [h a (by omega) (by omega)]
    split
    · omega
    · omega
theorem zSlP_mono {wov wov' s s' : Nat → Int32} {c w lim b y : Nat} (h : zWW wov s c w) (h' : zWW wov' s' c (w + 1)) (hs : ∀ y b, y < w → b < c → rW s' y b = rW s y b) (hb : b < 20) (hy : y < w) (hp : zSlP wov c w lim b y = true) : zSlP wov' c (w + 1) lim b y = true := by
  have h2 := h.2.1
  unfold zSlP at hp ⊢
  have hp := of_decide_eq_true hp
  refine decide_eq_true ?_
  by_cases q : b + 1 < c
  · rw [zRl_n h q (by omega)] at hp
    rw [zRl_n h' q (by omega)]
    have e : ∀ y, y < w → rPt s' (w + 1) y b = rPt s w y b := fun y hy => by
      unfold rPt
      rw [hs y b hy (by omega), hs y (b + 1) hy q, decide_eq_true hy, decide_eq_true (by omega : y < w + 1)]
    unfold zRlP at hp ⊢
    by_cases z : 0 < y ∧ rPt s w (y - 1) b = true
    · rw [if_pos z] at hp
      exact absurd hp (by omega)
    · rw [if_neg z] at hp
      rw [if_neg (fun k => z ⟨k.1, by rw [← e (y - 1) (by omega)]; exact k.2⟩)]
      have m := zLn_mono (P := fun y => rPt s w y b) (P' := fun y => rPt s' (w + 1) y b) (w - y) y (fun y2 h1 h2 => e y2 (by omega))
      rw [show w + 1 - y = w - y + 1 by omega]
      omega
  · rw [zRl_c (by omega) (by omega)] at hp
    exact absurd hp (by omega)
theorem zYl_le {n : Nat → Nat} {col : Nat → Int32} {v : Int32} {cnt : Nat} (h : ∀ k, k < cnt → n k ≤ 999) : zYl n col v cnt ≤ cnt * 999 := by
  have e : zYl n col v cnt = zSN (fun k => if k < cnt then (if col k = v then n k else 0) else 0) cnt := zSN_cg fun k hk => (if_pos hk).symm
  rw [e]
  refine zSN_le (fun k => ?_) cnt
  split
  · split
    · exact h k (by assumption)
    · omega
  · omega
/-- one row on both sides -/
theorem k_w1 {c r w lim : Nat} {tol : Int32} {cart wov lot sew mis : Nat → Int32} {cnt : Nat} {col len lef sbt : Nat → Int32} {shd : Nat → UInt32} {s : Nat → Int32} (h : zRe c r w lim tol cart wov lot sew mis cnt col len lef sbt shd s) (line : Nat → Int32) : (zWvn c r cnt cart col (w, wov, lot, lef, mis)).1 = (rW1 c r cnt (s, line, w)).1 ∧ (rW1 c r cnt (s, line, w)).2.2.2 = (zWvn c r cnt cart col (w, wov, lot, lef, mis)).2.1 ∧ zRe c r (zWvn c r cnt cart col (w, wov, lot, lef, mis)).2.1 lim tol cart (zWvn c r cnt cart col (w, wov, lot, lef, mis)).2.2.1 (zWvn c r cnt cart col (w, wov, lot, lef, mis)).2.2.2.1 sew (zWvn c r cnt cart col (w, wov, lot, lef, mis)).2.2.2.2.2 cnt col len (zWvn c r cnt cart col (w, wov, lot, lef, mis)).2.2.2.2.1 sbt shd (rW1 c r cnt (s, line, w)).2.1 := by
  have h0 := h
  obtain ⟨hM, h1, ⟨h5, h5v⟩, hC, hW, hL, hS, hMi, hQ, hN, hs, h6⟩ := h
  obtain ⟨m0, m1, m2, m3, m4, hc1, hc20, hr1, hr16, hw, hn, hl⟩ := hM
  by_cases hwr : w = r
  · have e1 : zWvn c r cnt cart col (w, wov, lot, lef, mis) = (false, (w, wov, lot, lef, mis)) := if_pos (Nat.le_of_eq hwr.symm)
    have e2 : rW1 c r cnt (s, line, w) = (false, (s, line, w)) := if_pos hwr
    rw [e1, e2]
    exact ⟨rfl, rfl, h0⟩
  · have hw16 : w < 16 := by omega
    generalize hwv : zLy cart mis c (nI w) wov = wv
    generalize hLd : zFl (rDl s c w) line c = L
    have ewv : ∀ j, wv j = if 20 * w ≤ j ∧ j < 20 * w + c then (if zAtN 20 mis (nI (j - 20 * w)) = -1 then zAt cart (nI (j - 20 * w)) (nI w) else zAtN 20 mis (nI (j - 20 * w))) else wov j := fun j => by
      rw [← hwv]
      exact zLy_at hw16 wov c hc20 j
    have eL : ∀ b, b < c → wv (20 * w + b) = L b ∧ ∃ v, v < 8 ∧ L b = nI v := fun b hb => by
      rw [ewv, if_pos (by omega), show 20 * w + b - 20 * w = b by omega, zAtN_in (by omega) (by decide), ← hLd, zFl_in hb, (hC.row (by omega : w < r)).at hb]
      obtain ⟨q1, q2⟩ := hMi b (by omega)
      rw [q1]
      unfold rDl
      rcases q2 with z | ⟨-, v, hv, z⟩
      · rw [z, if_pos rfl, if_pos (by decide)]
        obtain ⟨-, v, hv, e⟩ := hC.2.2 w b (by omega) hb
        exact ⟨rfl, v, hv, e⟩
      · rw [z, if_neg (nI_m1' (by omega)), if_neg (nI_pos (by omega))]
        exact ⟨rfl, v, hv, rfl⟩
    have hR : zRL wv w c L := ⟨hw16, hc20, fun b hb => ⟨(eL b hb).1, by obtain ⟨v, hv, e⟩ := (eL b hb).2; rw [e]; exact nI_m1' (by omega)⟩⟩
    have eoff : ∀ y b, y < w → b < c → wv (20 * y + b) = wov (20 * y + b) := fun y b hy hb => by rw [ewv, if_neg (by omega)]
    have eY : zAF (zHyP wv col lef c cnt (nI w)) 0 8 = zAF (rEno s L c cnt) 0 8 := zAF_cg 8 0 fun v _ hv => by
      unfold zHyP rEno
      rw [hR.ce, hR.ro (nI_m1' (by omega)), q_lf hQ hn, Nat.add_comm]
    have e1 : zWvn c r cnt cart col (w, wov, lot, lef, mis) = if zAF (rEno s L c cnt) 0 8 then (true, (w + 1, wv, (zWk wv col lef lot c w cnt).2, (zWk wv col lef lot c w cnt).1, zFl (fun _ => (-1)) mis 20)) else (false, (w, wv, lot, lef, mis)) := by
      rw [← eY, ← hwv]
      exact if_neg (by show ¬ r ≤ w; omega)
    have e2 : rW1 c r cnt (s, line, w) = if zAF (rEno s L c cnt) 0 8 then (true, upd (zIt (rWst L w cnt) c s) 2 (nI (w + 1)), L, w + 1) else (false, s, L, w) := by
      rw [← hLd]
      exact if_neg hwr
    rw [e1, e2]
    by_cases hy : zAF (rEno s L c cnt) 0 8 = true
    · rw [if_pos hy, if_pos hy]
      refine ⟨rfl, rfl, ?_⟩
      show zRe c r (w + 1) lim tol cart wv (zWk wv col lef lot c w cnt).2 sew (zFl (fun _ => (-1)) mis 20) cnt col len (zWk wv col lef lot c w cnt).1 sbt shd (upd (zIt (rWst L w cnt) c s) 2 (nI (w + 1)))
      obtain ⟨nn, hnn⟩ := hN
      have h8 : zWs8 col lef s nn := fun k hk => ⟨(hQ k hk).1, by rw [(hQ k hk).2.2.1]; exact (hnn k hk).1, (hnn k hk).1, by have := (hnn k hk).2; omega⟩
      have hU : ∀ v, v < 8 → zCt (fun b => L b == nI v) c + zCt (fun b => L b == nI v && rBeg L b) c ≤ zYl nn col (nI v) cnt := fun v hv => by
        have q := of_decide_eq_true (zAF_t 8 0 hy v (by omega) (by omega))
        have eu : rUn s (nI v) cnt = nI (zYl nn col (nI v) cnt) := by
          unfold rUn zYl
          rw [← zSm_nI]
          refine zSm_cg fun k hk => ?_
          rw [← (h8 k (by omega)).1, (h8 k (by omega)).2.2.1]
          show (if col k = nI v then nI (nn k) else 0) = nI (if col k = nI v then nn k else 0)
          split
          · rfl
          · exact nI_0.symm
        rw [eu] at q
        have b1 := zYl_le (n := nn) (col := col) (v := nI v) (cnt := cnt) fun k hk => (h8 k (by omega)).2.2.2
        have b2 := zCt_le (fun b => L b == nI v && rBeg L b) c
        have b3 := zCt_le (fun b => L b == nI v) c
        have := m_le (by omega) (by omega) q
        omega
      obtain ⟨n, i1, -, i3, i4, i5, i6⟩ := k_cells (lot := lot) hc20 hw16 hn h8 hR (fun b hb => (eL b hb).2) hU c (Nat.le_refl _)
      have ek : zWk wv col lef lot c w cnt = zIt (zWkB wv col w cnt) c (lef, lot) := rfl
      rw [ek]
      generalize zIt (zWkB wv col w cnt) c (lef, lot) = P at i1 i3 i4 i5 i6 ⊢
      generalize zIt (rWst L w cnt) c s = t at i1 i3 i4 i5 i6 ⊢
      have eoffs : ∀ j, ¬ j = 2 → (∀ i, i < 16 → ¬ j = 7 + 4 * i + 2) → ¬ (411 + 20 * w ≤ j ∧ j < 411 + 20 * w + c) → ¬ (731 + 20 * w ≤ j ∧ j < 731 + 20 * w + c) → ¬ (71 ≤ j ∧ j < 71 + c) → upd t 2 (nI (w + 1)) j = s j := fun j j2 j3 j4 j5 j6 => by
        rw [upd_ne j2]
        exact i5 j j3 j4 j5 j6
      have lo : ∀ j, j < 7 → ¬ j = 2 → upd t 2 (nI (w + 1)) j = s j := fun j hj j2 => eoffs j j2 (fun _ _ => by omega) (by omega) (by omega) (by omega)
      have kW : ∀ y b, y < w → b < c → rW (upd t 2 (nI (w + 1))) y b = rW s y b := fun y b hy hb => eoffs _ (by omega) (fun _ _ => by omega) (by omega) (by omega) (by omega)
      have kY : ∀ y b, y < w → b < c → rY (upd t 2 (nI (w + 1))) y b = rY s y b := fun y b hy hb => eoffs _ (by omega) (fun _ _ => by omega) (by omega) (by omega) (by omega)
      have rw1 : ∀ b, b < c → rW (upd t 2 (nI (w + 1))) w b = L b := fun b hb => by
        unfold rW
        rw [upd_ne (by omega)]
        exact (i4 b hb).1
      have ry1 : ∀ b, b < c → rY (upd t 2 (nI (w + 1))) w b = t (731 + 20 * w + b) := fun b hb => by
        unfold rY
        rw [upd_ne (by omega)]
      have hW' : zWW wv (upd t 2 (nI (w + 1))) c (w + 1) := ⟨hc20, by omega, fun y b hy hb => by
        by_cases q : y = w
        · subst q
          rw [rw1 b hb]
          exact eL b hb
        · rw [kW y b (by omega) hb, eoff y b (by omega) hb]
          exact hW.2.2 y b (by omega) hb⟩
      refine ⟨⟨by rw [lo _ (by decide) (by decide)]; exact m0, by rw [lo _ (by decide) (by decide)]; exact m1, upd_eq, by rw [lo _ (by decide) (by decide)]; exact m3, by rw [lo _ (by decide) (by decide)]; exact m4, hc1, hc20, hr1, hr16, by omega, hn, hl⟩, h1, ⟨by rw [lo _ (by decide) (by decide)]; exact h5, h5v⟩, hC.cg fun y b hy hb => eoffs _ (by omega) (fun _ _ => by omega) (by omega) (by omega) (by omega), hW', fun y b hy hb => ?_, fun b y hb hy => ?_, fun b hb => ?_, fun k hk => ?_, ⟨n, fun k hk => ?_⟩, hs, by rw [lo _ (by decide) (by decide)]; exact h6⟩
      · by_cases q : y = w
        · subst q
          rw [ry1 b hb]
          obtain ⟨-, q2, q3, -⟩ := i4 b hb
          exact ⟨q2, q3⟩
        · rw [kY y b (by omega) hb, i6 _ (by omega)]
          exact hL y b (by omega) hb
      · rw [eoffs _ (by omega) (fun _ _ => by omega) (by omega) (by omega) (by omega)]
        refine ⟨(hS b y hb hy).1, ?_⟩
        rcases (hS b y hb hy).2 with q | ⟨q1, q2, q3, q4⟩
        · exact Or.inl q
        · exact Or.inr ⟨q1, q2, by omega, zSlP_mono hW hW' kW hb q3 q4⟩
      · rw [zFl_in hb]
        by_cases q : b < c
        · rw [upd_ne (by omega), (i4 b q).2.2.2]
          exact ⟨rfl, Or.inl rfl⟩
        · rw [eoffs _ (by omega) (fun _ _ => by omega) (by omega) (by omega) (by omega)]
          obtain ⟨q1, q2⟩ := hMi b hb
          rcases q2 with z | z
          · rw [z]
            exact ⟨rfl, Or.inl rfl⟩
          · exact absurd z.1 q
      · obtain ⟨q0, q1, q2, q3, q4, q5⟩ := hQ k hk
        obtain ⟨r0, r1, r2, r3⟩ := i1 k hk
        rw [eoffs (7 + 4 * k) (by omega) (fun _ _ => by omega) (by omega) (by omega) (by omega), eoffs (7 + 4 * k + 1) (by omega) (fun _ _ => by omega) (by omega) (by omega) (by omega), eoffs (7 + 4 * k + 3) (by omega) (fun _ _ => by omega) (by omega) (by omega) (by omega), upd_ne (by omega : ¬ 7 + 4 * k + 2 = 2), r1, r2]
        exact ⟨q0, q1, rfl, q3, q4, q5⟩
      · obtain ⟨r0, r1, r2, r3⟩ := i1 k hk
        rw [upd_ne (by omega)]
        refine ⟨r2, ?_⟩
        have q := i3 k hk
        have q2 := (hnn k hk).2
        have ec : zCt (fun b => t (731 + 20 * w + b) == nI k) c = zCt (fun b => rY (upd t 2 (nI (w + 1))) w b == nI k) c := zCt_cg fun b hb => by rw [ry1 b hb]
        have es : zSN (fun y => zCt (fun b => rY (upd t 2 (nI (w + 1))) y b == nI k) c) w = zSN (fun y => zCt (fun b => rY s y b == nI k) c) w := zSN_cg fun y hy => zCt_cg fun b hb => by rw [kY y b hy hb]
        show n k + (zSN (fun y => zCt (fun b => rY (upd t 2 (nI (w + 1))) y b == nI k) c) w + zCt (fun b => rY (upd t 2 (nI (w + 1))) w b == nI k) c) ≤ 999
        rw [es, ← ec]
        omega
    · rw [if_neg hy, if_neg hy]
      refine ⟨rfl, rfl, ?_⟩
      have hW' : zWW wv s c w := hW.cg eoff fun _ _ _ _ => rfl
      exact ⟨⟨m0, m1, m2, m3, m4, hc1, hc20, hr1, hr16, hw, hn, hl⟩, h1, ⟨h5, h5v⟩, hC, hW', hL, hS.cg hW hW' (fun _ _ _ _ => rfl) (fun _ _ _ _ => rfl), hMi, hQ, hN, hs, h6⟩
theorem k_weave {c r lim : Nat} {tol : Int32} {cart sew : Nat → Int32} {cnt : Nat} {col len sbt : Nat → Int32} {shd : Nat → UInt32} : ∀ (d : Nat) (w : Nat) (wov lot lef mis s line : Nat → Int32), zRe c r w lim tol cart wov lot sew mis cnt col len lef sbt shd s → (zWs9 c r cnt cart col d (w, wov, lot, lef, mis)).1 = (rWs c r cnt d (s, line, w)).1 ∧ (rWs c r cnt d (s, line, w)).2.2.2 = (zWs9 c r cnt cart col d (w, wov, lot, lef, mis)).2.1 ∧ zRe c r (zWs9 c r cnt cart col d (w, wov, lot, lef, mis)).2.1 lim tol cart (zWs9 c r cnt cart col d (w, wov, lot, lef, mis)).2.2.1 (zWs9 c r cnt cart col d (w, wov, lot, lef, mis)).2.2.2.1 sew (zWs9 c r cnt cart col d (w, wov, lot, lef, mis)).2.2.2.2.2 cnt col len (zWs9 c r cnt cart col d (w, wov, lot, lef, mis)).2.2.2.2.1 sbt shd (rWs c r cnt d (s, line, w)).2.1
  | 0, w, wov, lot, lef, mis, s, line, h => ⟨rfl, rfl, h⟩
  | d + 1, w, wov, lot, lef, mis, s, line, h => by
    obtain ⟨k1, k2, k3⟩ := k_w1 h line
    have e1 : zWs9 c r cnt cart col (d + 1) (w, wov, lot, lef, mis) = if (zWvn c r cnt cart col (w, wov, lot, lef, mis)).1 then ((zWs9 c r cnt cart col d (zWvn c r cnt cart col (w, wov, lot, lef, mis)).2).1 + 1, (zWs9 c r cnt cart col d (zWvn c r cnt cart col (w, wov, lot, lef, mis)).2).2) else (0, (zWvn c r cnt cart col (w, wov, lot, lef, mis)).2) := rfl
    have e2 : rWs c r cnt (d + 1) (s, line, w) = if (rW1 c r cnt (s, line, w)).1 then ((rWs c r cnt d (rW1 c r cnt (s, line, w)).2).1 + 1, (rWs c r cnt d (rW1 c r cnt (s, line, w)).2).2) else (0, (rW1 c r cnt (s, line, w)).2) := rfl
    rw [e1, e2, k1]
    generalize zWvn c r cnt cart col (w, wov, lot, lef, mis) = A at k1 k2 k3 ⊢
    generalize rW1 c r cnt (s, line, w) = B at k1 k2 k3 ⊢
    obtain ⟨ab, aw, av, al, af, am⟩ := A
    obtain ⟨bb, bs, bl, bw⟩ := B
    have k2' : bw = aw := k2
    subst k2'
    obtain ⟨i1, i2, i3⟩ := k_weave d bw av al af am bs bl k3
    by_cases q : bb = true
    · rw [if_pos q, if_pos q]
      exact ⟨congrArg (· + 1) i1, i2, i3⟩
    · rw [if_neg q, if_neg q]
      exact ⟨rfl, rfl, k3⟩
