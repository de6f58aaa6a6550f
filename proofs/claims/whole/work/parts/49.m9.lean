theorem rRdN_w {txt : Nat → Int32} {typed n p : Nat} {w : Int32} {g : Nat → Int32} : (rRdN txt typed n p w g).2.2.1 = w := by
  unfold rRdN
  split
  · split <;> rfl
  · rfl
/-- the dimensions that the row itself tells -/
def sd (s : Nat → Int32) (j : Nat) : Nat := (s j).toNatClampNeg
theorem zMd_sd {s : Nat → Int32} {c r w cnt lim : Nat} (h : zMd s c r w cnt lim) : sd s 0 = c ∧ sd s 1 = r ∧ sd s 2 = w ∧ sd s 3 = cnt ∧ sd s 4 = lim := by
  obtain ⟨h0, h1, h2, h3, h4, h5, h6, h7, h8, h9, h10, h11⟩ := h
  unfold sd
  rw [h0, h1, h2, h3, h4]
  exact ⟨nI_clamp (by omega), nI_clamp (by omega), nI_clamp (by omega), nI_clamp (by omega), nI_clamp (by omega)⟩
def rYo (s : Nat → Int32) (c w : Nat) : Prop := ∀ y b, y < w → b < c → rY s y b = -1 ∨ ∃ j, j < 16 ∧ rY s y b = nI j
/-- a row of numbers that can be worked on -/
def rOk (s : Nat → Int32) : Prop := ∃ c r w cnt lim, zMd s c r w cnt lim ∧ rYo s c w
theorem rYo_eq {s s2 : Nat → Int32} {c w : Nat} (hc : c ≤ 20) (hw : w ≤ 16) (h : rYo s c w) (e : ∀ j, 731 ≤ j → j < 1051 → s2 j = s j) : rYo s2 c w := by
  intro y b hy hb
  have q : rY s2 y b = rY s y b := e _ (by omega) (by omega)
  rw [q]
  exact h y b hy hb
theorem zFr_g {a n b : Nat} (ha : a < 2 ^ 31) (h : zFr (nI a) (nI n) (nI b) = true) : a ≤ n := by
  unfold zFr at h
  rw [Bool.and_eq_true] at h
  refine Nat.le_of_not_lt fun q => ?_
  rw [decide_eq_true (nI_lt q ha)] at h
  exact absurd h.1 (by decide)
theorem rCl_md {s : Nat → Int32} {c r w cnt lim a b : Nat} (h : zMd s c r w cnt lim) (ha : 1 ≤ a ∧ a ≤ 20) (hb : 1 ≤ b ∧ b ≤ 16) : zMd (rCl s a b) a b 0 cnt lim := by
  have e : ∀ j, j < 71 → rCl s a b j = upd (upd (upd s 0 (nI a)) 1 (nI b)) 2 (nI 0) j := fun j hj => by
    unfold rCl
    rw [zFa_lo (by omega), zFa_lo (by omega), zFa_lo (by omega)]
  obtain ⟨h0, h1, h2, h3, h4, h5, h6, h7, h8, h9, h10, h11⟩ := h
  refine ⟨?_, ?_, ?_, ?_, ?_, ha.1, ha.2, hb.1, hb.2, Nat.zero_le _, h10, h11⟩
  · rw [e 0 (by omega)]; rfl
  · rw [e 1 (by omega)]; rfl
  · rw [e 2 (by omega)]; rfl
  · rw [e 3 (by omega)]; exact h3
  · rw [e 4 (by omega)]; exact h4
theorem rFlR_hi {x u y : Nat} {v : Int32} {q : (Nat → Int32) × Nat} {j : Nat} (hj : j < 91 ∨ 411 ≤ j) (hy : y < 16) : ∀ i, x + i ≤ 20 → (rFlR x u v y i q).1 j = q.1 j
  | 0, _ => rfl
  | i + 1, hi => by
    show upd (rFlR x u v y i q).1 (91 + 20 * y + (x + i)) v j = q.1 j
    rw [upd_ne (by omega)]
    exact rFlR_hi hj hy i (by omega)
theorem rFl_hi {x y u : Nat} {v : Int32} {q : (Nat → Int32) × Nat} {j : Nat} (hj : j < 91 ∨ 411 ≤ j) (hxu : x ≤ u) (hu : u < 20) : ∀ k, y + k ≤ 16 → (rFl x y u v k q).1 j = q.1 j
  | 0, _ => rfl
  | k + 1, hk => by
    show (rFlR x u v (y + k) (u + 1 - x) (rFl x y u v k q)).1 j = q.1 j
    rw [rFlR_hi hj (by omega) _ (by omega)]
    exact rFl_hi hj hxu hu k (by omega)
theorem rTk_hi {s : Nat → Int32} {v : Int32} {cnt j : Nat} (hn : cnt ≤ 16) (hj : 71 ≤ j) : rTk s v cnt j = s j := upd_ne (by have := (rIx_in (rIu_in (s := s) (v := v) hn) (show 2 ≤ 3 by decide)).2.2; omega)
theorem rWst_hi {L s : Nat → Int32} {w cnt b j : Nat} (hn : cnt ≤ 16) (hw : w < 16) (hb : b < 20) (hj : 731 ≤ j) (hne : ¬ j = 731 + 20 * w + b) : rWst L w cnt b s j = s j := by
  unfold rWst
  split
  · split
    · rw [upd_ne (by omega), upd_ne hne, upd_ne (by omega), rTk_hi hn (by omega)]
    · rw [upd_ne (by omega), upd_ne hne, rTk_hi hn (by omega), upd_ne (by omega), rTk_hi hn (by omega)]
  · rw [upd_ne (by omega), upd_ne hne, rTk_hi hn (by omega), upd_ne (by omega)]
theorem rWst_at {L s : Nat → Int32} {w cnt b : Nat} (hn : cnt ≤ 16) (hb : b < 20) : rWst L w cnt b s (731 + 20 * w + b) = -1 ∨ ∃ j, j < 16 ∧ rWst L w cnt b s (731 + 20 * w + b) = nI j := by
  unfold rWst
  split
  · split
    · rw [upd_ne (by omega)]
      exact Or.inl (if_pos rfl)
    · rw [upd_ne (by omega), show ∀ (f : Nat → Int32) (x : Int32), upd f (731 + 20 * w + b) x (731 + 20 * w + b) = x from fun f x => if_pos rfl]
      exact rIu_in hn
  · rw [upd_ne (by omega), show ∀ (f : Nat → Int32) (x : Int32), upd f (731 + 20 * w + b) x (731 + 20 * w + b) = x from fun f x => if_pos rfl]
    exact rIu_in hn
theorem rWst_it {L s : Nat → Int32} {w cnt : Nat} (hn : cnt ≤ 16) (hw : w < 16) : ∀ k, k ≤ 20 → (∀ j, 731 ≤ j → (j < 731 + 20 * w ∨ 731 + 20 * w + k ≤ j) → zIt (rWst L w cnt) k s j = s j) ∧ ∀ b, b < k → zIt (rWst L w cnt) k s (731 + 20 * w + b) = -1 ∨ ∃ j, j < 16 ∧ zIt (rWst L w cnt) k s (731 + 20 * w + b) = nI j
  | 0, _ => ⟨fun _ _ _ => rfl, fun b hb => absurd hb (Nat.not_lt_zero _)⟩
  | k + 1, hk => by
    obtain ⟨i1, i2⟩ := rWst_it (L := L) (s := s) hn hw k (by omega)
    refine ⟨fun j h1 h2 => ?_, fun b hb => ?_⟩
    · show rWst L w cnt k (zIt (rWst L w cnt) k s) j = s j
      rw [rWst_hi hn hw (by omega) h1 (by omega)]
      exact i1 j h1 (by omega)
    · show rWst L w cnt k (zIt (rWst L w cnt) k s) (731 + 20 * w + b) = -1 ∨ ∃ j, j < 16 ∧ rWst L w cnt k (zIt (rWst L w cnt) k s) (731 + 20 * w + b) = nI j
      by_cases e : b = k
      · subst e
        exact rWst_at hn (by omega)
      · rw [rWst_hi hn hw (by omega) (by omega) (by omega)]
        exact i2 b (by omega)
theorem rW1_yo {c r cnt lim : Nat} {q : (Nat → Int32) × (Nat → Int32) × Nat} (h : zMd q.1 c r q.2.2 cnt lim) (hY : rYo q.1 c q.2.2) : rYo (rW1 c r cnt q).2.1 c (rW1 c r cnt q).2.2.2 := by
  obtain ⟨h0, h1, h2, h3, h4, h5, h6, h7, h8, h9, h10, h11⟩ := h
  unfold rW1
  split
  · exact hY
  · rename_i hne
    split
    · obtain ⟨i1, i2⟩ := rWst_it (L := zFl (rDl q.1 c q.2.2) q.2.1 c) (s := q.1) (w := q.2.2) h10 (by omega) c h6
      intro y b hy hb
      have hy2 : y < q.2.2 + 1 := hy
      show upd (zIt (rWst (zFl (rDl q.1 c q.2.2) q.2.1 c) q.2.2 cnt) c q.1) 2 (nI (q.2.2 + 1)) (731 + 20 * y + b) = -1 ∨ ∃ j, j < 16 ∧ upd (zIt (rWst (zFl (rDl q.1 c q.2.2) q.2.1 c) q.2.2 cnt) c q.1) 2 (nI (q.2.2 + 1)) (731 + 20 * y + b) = nI j
      rw [upd_ne (by omega)]
      by_cases e : y = q.2.2
      · subst e
        exact i2 b hb
      · rw [i1 _ (by omega) (by omega)]
        exact hY y b (by omega) hb
    · exact hY
theorem rWs_ok {c r cnt lim : Nat} : ∀ (d : Nat) (q : (Nat → Int32) × (Nat → Int32) × Nat), zMd q.1 c r q.2.2 cnt lim → rYo q.1 c q.2.2 → zMd (rWs c r cnt d q).2.1 c r (rWs c r cnt d q).2.2.2 cnt lim ∧ rYo (rWs c r cnt d q).2.1 c (rWs c r cnt d q).2.2.2
  | 0, q, h, hY => ⟨h, hY⟩
  | d + 1, q, h, hY => by
    have h1 := rW1_md h
    have h2 := rW1_yo h hY
    unfold rWs
    split
    · exact rWs_ok d (rW1 c r cnt q).2 h1 h2
    · exact ⟨h1, h2⟩
theorem rOk_fg {s B F : Nat → Int32} {n c r w cnt lim : Nat} (h : zMd s c r w cnt lim) (hY : rYo s c w) : rOk (rFg s B F n) :=
  ⟨c, r, w, cnt, lim, zMd_fg h, rYo_eq h.2.2.2.2.2.2.1 (Nat.le_trans h.2.2.2.2.2.2.2.2.2.1 h.2.2.2.2.2.2.2.2.1) hY fun j _ h2 => rFg_lo h2⟩

theorem rOk_do {c r w cnt lim : Nat} {wd : Int32} {g : Nat → Int32} {q : zD7} (hM : zMd q.1 c r w cnt lim) (hY : rYo q.1 c w) (hg : ∀ j, j < 5 → ∃ n, n ≤ 999 ∧ g j = nI n) : rOk (rDo c r w cnt lim wd g q).2.1 := by
  have hok : rOk q.1 := ⟨c, r, w, cnt, lim, hM, hY⟩
  have hgn : ∀ j, j < 5 → g j = nI (gN g j) ∧ gN g j ≤ 999 := fun j hj => by
    obtain ⟨n, h1, h2⟩ := hg j hj
    unfold gN
    rw [h2, nI_clamp (by omega)]
    exact ⟨rfl, h1⟩
  have e0 := (hgn 0 (by decide)).1
  have e1 := (hgn 1 (by decide)).1
  have e2 := (hgn 2 (by decide)).1
  have e3 := (hgn 3 (by decide)).1
  have b0 := (hgn 0 (by decide)).2
  have b1 := (hgn 1 (by decide)).2
  have b2 := (hgn 2 (by decide)).2
  have b3 := (hgn 3 (by decide)).2
  have hM9 := hM
  obtain ⟨h0, h1, h2, h3, h4, hc1, hc, hr1, hr, hw, hn, hl⟩ := hM
  have same : ∀ s2 : Nat → Int32, (∀ j, j < 5 → s2 j = q.1 j) → (∀ j, 731 ≤ j → j < 1051 → s2 j = q.1 j) → rOk s2 := fun s2 a1 a2 => ⟨c, r, w, cnt, lim, zMd_eq hM9 a1, rYo_eq hc (by omega) hY a2⟩
  unfold rDo
  by_cases w0 : wd = 3554952
  · rw [if_pos w0]
    split
    · rename_i z
      rw [e0, e1, Bool.and_eq_true] at z
      exact ⟨_, _, 0, cnt, lim, rCl_md hM9 ⟨zFr_g (by decide) z.1, zFr_n (by omega) (by decide) z.1⟩ ⟨zFr_g (by decide) z.2, zFr_n (by omega) (by decide) z.2⟩, fun y b hy => absurd hy (Nat.not_lt_zero _)⟩
    · exact hok
  rw [if_neg w0]
  by_cases w1 : wd = 635184
  · rw [if_pos w1]
    split
    · rename_i z
      rw [e0, zIn_n (by omega) (by omega)] at z
      have z2 := of_decide_eq_true z
      split
      · exact same _ (fun j hj => upd_ne (by omega)) (fun j h1 h2 => upd_ne (by omega))
      · exact hok
    · exact hok
  rw [if_neg w1]
  by_cases w2 : wd = 206220
  · rw [if_pos w2]
    split
    · rename_i z
      split
      · exact hok
      · rename_i q2
        have q3 := not_or.mp q2
        have q4 := not_or.mp q3.2
        rw [e0, e1, e2, e3, zIn_n (by omega) (by omega), zIn_n (by omega) (by omega), zIn_n (by omega) (by omega), zIn_n (by omega) (by omega), Bool.and_eq_true, Bool.and_eq_true, Bool.and_eq_true] at z
        have z1 := of_decide_eq_true z.2.1
        have z2 := of_decide_eq_true z.2.2
        have z3 : gN g 0 ≤ gN g 2 := m_nlt (by omega) (by omega) (by rw [← e0, ← e2]; exact q3.1)
        have z4 : gN g 1 ≤ gN g 3 := m_nlt (by omega) (by omega) (by rw [← e1, ← e3]; exact q4.1)
        exact same _ (fun j hj => rFl_hi (Or.inl (by omega)) z3 (by omega) _ (by omega)) (fun j h1 h2 => rFl_hi (Or.inr (by omega)) z3 (by omega) _ (by omega))
    · exact hok
  rw [if_neg w2]
  by_cases w3 : wd = 12788
  · rw [if_pos w3]
    split
    · split
      · exact hok
      · rename_i z
        have hhi : ∀ j, ¬ j = 3 → (j < 7 ∨ 71 ≤ j) → rAd q.1 cnt (g 0) (g 1) (FP.i2f (g 2)).toInt32 j = q.1 j := fun j a1 a2 => by
          unfold rAd
          rw [upd_ne a1, upd_ne (by omega), upd_ne (by omega), upd_ne (by omega), upd_ne (by omega)]
        refine ⟨c, r, w, cnt + 1, lim, ⟨(hhi 0 (by decide) (by omega)).trans h0, (hhi 1 (by decide) (by omega)).trans h1, (hhi 2 (by decide) (by omega)).trans h2, by show rAd q.1 cnt (g 0) (g 1) (FP.i2f (g 2)).toInt32 3 = nI (cnt + 1); unfold rAd; exact if_pos rfl, (hhi 4 (by decide) (by omega)).trans h4, hc1, hc, hr1, hr, hw, by omega, hl⟩, rYo_eq hc (by omega) hY fun j a1 a2 => hhi j (by omega) (by omega)⟩
    · exact hok
  rw [if_neg w3]
  by_cases w4 : wd = 24282821
  · rw [if_pos w4]
    split
    · have z := rWs_ok (gN g 0) (q.1, q.2.1, w) hM9 hY
      exact ⟨_, _, _, _, _, z.1, z.2⟩
    · exact hok
  rw [if_neg w4]
  by_cases w5 : wd = 702607
  · rw [if_pos w5]
    split
    · split
      · exact hok
      · rename_i z
        have hY2 : ∀ y b, y < w → b < c → rY q.1 y b = -1 ∨ ∃ j, j < 16 ∧ rY q.1 y b = nI j := hY
        have hlo : ∀ j, (71 ≤ j ∨ j < 5) → rUw q.1 c (w - gN g 0) (gN g 0) q.1 j = q.1 j := fun j hj => rUw_hi hY2 hj (gN g 0) (by omega)
        have hmd : zMd (upd (rUw q.1 c (w - gN g 0) (gN g 0) q.1) 2 (nI (w - gN g 0))) c r (w - gN g 0) cnt lim := ⟨(upd_ne (by decide)).trans ((hlo 0 (by omega)).trans h0), (upd_ne (by decide)).trans ((hlo 1 (by omega)).trans h1), rfl, (upd_ne (by decide)).trans ((hlo 3 (by omega)).trans h3), (upd_ne (by decide)).trans ((hlo 4 (by omega)).trans h4), hc1, hc, hr1, hr, by omega, hn, hl⟩
        refine rOk_fg hmd (rYo_eq (s := q.1) hc (by omega) (fun y b hy hb => hY y b (by omega) hb) fun j a1 a2 => ?_)
        rw [upd_ne (by omega)]
        exact hlo j (by omega)
    · exact hok
  rw [if_neg w5]
  by_cases w6 : wd = 19639
  · rw [if_pos w6]
    split
    · split
      · exact hok
      · rename_i z _
        have hsl := rFd_sl (s := q.1) (lm := lim) (B := q.2.2.2.1) (F := q.2.2.2.2.1) (T := q.2.2.2.2.2.1) (show w ≤ 16 by omega) (c - 1) (by omega)
        have h160 := hsl.1
        rw [e0, zIn_n (by omega) (by omega)] at z
        obtain ⟨b, f, z1, z2, z3, -⟩ := (rSl_in hsl (of_decide_eq_true z)).2
        exact same _ (fun j hj => upd_ne (by omega)) (fun j a1 a2 => upd_ne (by omega))
    · exact hok
  rw [if_neg w6]
  split
  · rename_i z
    rw [e0] at z
    have z2 := zFr_n (by omega) (by decide) z
    exact rOk_fg (c := c) (r := r) (w := w) (cnt := cnt) (lim := gN g 0) ⟨(upd_ne (by decide)).trans h0, (upd_ne (by decide)).trans h1, (upd_ne (by decide)).trans h2, (upd_ne (by decide)).trans h3, rfl, hc1, hc, hr1, hr, hw, hn, z2⟩ (rYo_eq hc (by omega) hY fun j a1 a2 => upd_ne (by omega))
  · exact hok
/-- the numbers that are read are small -/
def rGo (g : Nat → Int32) : Prop := ∀ j, j < 5 → ∃ n, n ≤ 999 ∧ g j = nI n
theorem rGo_upd {g : Nat → Int32} {k : Nat} {x : Int32} (h : rGo g) (hx : ∃ n, n ≤ 999 ∧ x = nI n) : rGo (upd g k x) := by
  intro j hj
  by_cases e : j = k
  · rw [e, show upd g k x k = x from if_pos rfl]
    exact hx
  · rw [upd_ne e]
    exact h j hj
theorem rDg_ok {txt : Nat → Int32} {typed : Nat} : ∀ (d m p a : Nat), m + d ≤ 3 → a < 10 ^ m → ∃ n, n ≤ 999 ∧ (rDg txt typed d p (nI a)).2 = nI n
  | 0, m, p, a, hm, ha => ⟨a, by have : 10 ^ m ≤ 10 ^ 3 := Nat.pow_le_pow_right (by decide) (by omega); omega, rfl⟩
  | d + 1, m, p, a, hm, ha => by
    unfold rDg
    split
    · rename_i h
      have h2 := rTbl (by decide) h
      rw [h2.2] at h
      have hx : ∃ t, 48 ≤ t ∧ t ≤ 57 ∧ txt p = nI t := by
        have h3 := h
        unfold zFr at h3
        rw [Bool.and_eq_true] at h3
        have h4 : ¬ txt p < nI 48 := fun q => by rw [decide_eq_true q] at h3; exact absurd h3.1 (by decide)
        have h5 : ¬ nI 57 < txt p := fun q => by rw [decide_eq_true q] at h3; exact absurd h3.2 (by decide)
        have h6 : ¬ txt p < 0 := fun q => h4 (Int32.lt_trans q (by decide))
        obtain ⟨t, ht, e⟩ := nI_of h6
        rw [e] at h4 h5
        exact ⟨t, m_nlt (by omega) (by decide) h4, m_nlt (by decide) (by omega) h5, e⟩
      obtain ⟨t, t1, t2, e⟩ := hx
      have hp : 10 ^ m ≤ 10 ^ 3 := Nat.pow_le_pow_right (by decide) (by omega)
      rw [e, pk_mul, nI_add, pk_sub (by omega)]
      refine rDg_ok d (m + 1) (p + 1) _ (by omega) ?_
      rw [Nat.pow_succ]
      omega
    · exact ⟨a, by have : 10 ^ m ≤ 10 ^ 3 := Nat.pow_le_pow_right (by decide) (by omega); omega, rfl⟩
theorem rNr_ok {txt : Nat → Int32} {typed : Nat} : ∀ d k p g, rGo g → rGo (rNr txt typed d k p g).2.2
  | 0, _, _, _, h => h
  | d + 1, k, p, g, h => by
    unfold rNr
    split
    · exact h
    · split
      · exact rNr_ok d _ _ _ (rGo_upd h (rDg_ok 3 0 _ 0 (by decide) (by decide)))
      · exact h
theorem rRd_ok {txt : Nat → Int32} {typed p : Nat} {g : Nat → Int32} (h : rGo g) : rGo (rRd txt typed p g).2.2.2 := by
  unfold rRd
  split
  · exact h
  · rename_i n _
    have q := rNr_ok (txt := txt) (typed := typed) n 0 (rWl txt typed p (typed - p) p (nI 0)).1 g h
    unfold rRdN
    split
    · split <;> exact q
    · exact q
theorem rRd_num {txt : Nat → Int32} {typed p : Nat} {g : Nat → Int32} (hp : p ≤ typed) (h150 : typed ≤ 150) (h : (rRd txt typed p g).1 = -1) : ∃ n, rNc (rRd txt typed p g).2.2.1 = some n := by
  unfold rRd at *
  generalize rWl txt typed p (typed - p) p (nI 0) = R at *
  cases hc : rNc (if R.1 - p < 6 then R.2 else nI 0) with
  | none =>
    rw [hc] at h
    exact absurd h (by intro z; exact nI_m1 (a := p) (by omega) z)
  | some n =>
    show ∃ n9, rNc (rRdN txt typed n R.1 R.2 g).2.2.1 = some n9
    rw [rRdN_w]
    by_cases q : R.1 - p < 6
    · rw [if_pos q] at hc
      exact ⟨n, hc⟩
    · rw [if_neg q, show rNc (nI 0) = none by decide] at hc
      cases hc

theorem m_reads {G : zT} {S : zS} {X : zXr} {out : Nat → Int64} {s : (Nat → Int32)} {past : (Nat → Int32)} {aside : (Nat → Int32)} {pasts : Nat} {txt : (Nat → Int32)} {typed : Nat} {thrown : Int32} {line : (Nat → Int32)} {need : (Nat → Int32)} {left : (Nat → Int32)} {slits : Nat} {slB : (Nat → Int32)} {slF : (Nat → Int32)} {slT : (Nat → Int32)} {p0 : Nat} {wd9 : Int32} {got : (Nat → Int32)} {ans : Int32} {worst : UInt32} (hG : zAl G = false) (h150 : typed ≤ 150) (hat : p0 ≤ typed) : zRun G mX10_reads 0 0 [.ref 114] (zHp S X (s, past, aside, pasts, txt, typed, thrown, line, need, left, slits, slB, slF, slT, p0, wd9, got, ans, worst) out) (.inr (some (.int (rRd txt typed p0 got).1))) (zHp S X (s, past, aside, pasts, txt, typed, thrown, line, need, left, slits, slB, slF, slT, (rRd txt typed p0 got).2.1, (rRd txt typed p0 got).2.2.1, (rRd txt typed p0 got).2.2.2, ans, worst) out) := by
  unfold rRd
  cases hc : rNc (if (rWl txt typed p0 (typed - p0) p0 (nI 0)).1 - p0 < 6 then (rWl txt typed p0 (typed - p0) p0 (nI 0)).2 else nI 0) with
  | none => exact m_reads_bad hG h150 hat hc
  | some n =>
    have q := m_reads_ok (G := G) (S := S) (X := X) (out := out) (s := s) (past := past) (aside := aside) (pasts := pasts) (txt := txt) (typed := typed) (thrown := thrown) (line := line) (need := need) (left := left) (slits := slits) (slB := slB) (slF := slF) (slT := slT) (p0 := p0) (wd9 := wd9) (got := got) (ans := ans) (worst := worst) hG h150 hat n hc
    show zRun G mX10_reads 0 0 [.ref 114] (zHp S X (s, past, aside, pasts, txt, typed, thrown, line, need, left, slits, slB, slF, slT, p0, wd9, got, ans, worst) out) (.inr (some (.int (rRdN txt typed n (rWl txt typed p0 (typed - p0) p0 (nI 0)).1 (rWl txt typed p0 (typed - p0) p0 (nI 0)).2 got).1))) (zHp S X (s, past, aside, pasts, txt, typed, thrown, line, need, left, slits, slB, slF, slT, (rRdN txt typed n (rWl txt typed p0 (typed - p0) p0 (nI 0)).1 (rWl txt typed p0 (typed - p0) p0 (nI 0)).2 got).2.1, (rRdN txt typed n (rWl txt typed p0 (typed - p0) p0 (nI 0)).1 (rWl txt typed p0 (typed - p0) p0 (nI 0)).2 got).2.2.1, (rRdN txt typed n (rWl txt typed p0 (typed - p0) p0 (nI 0)).1 (rWl txt typed p0 (typed - p0) p0 (nI 0)).2 got).2.2.2, ans, worst) out)
    rw [rRdN_w]
    exact q

set_option maxHeartbeats 4000000 in
set_option maxRecDepth 100000 in
theorem m_fault {G : zT} {S : zS} {X : zXr} {out : Nat → Int64} {s : (Nat → Int32)} {past : (Nat → Int32)} {aside : (Nat → Int32)} {pasts : Nat} {txt : (Nat → Int32)} {typed : Nat} {thrown : Int32} {line : (Nat → Int32)} {need : (Nat → Int32)} {left : (Nat → Int32)} {slits : Nat} {slB : (Nat → Int32)} {slF : (Nat → Int32)} {slT : (Nat → Int32)} {at9 : Nat} {wd9 : Int32} {got : (Nat → Int32)} {ans : Int32} {worst : UInt32} (hG : zAl G = false) (h150 : typed ≤ 150) : zRun G mX10_fault 0 0 [.ref 114] (zHp S X (s, past, aside, pasts, txt, typed, thrown, line, need, left, slits, slB, slF, slT, at9, wd9, got, ans, worst) out) (.inr (some (.int ((rFt txt typed (typed + 1) (zPs txt typed 0) wd9 got).1)))) (zHp S X (s, past, aside, pasts, txt, typed, thrown, line, need, left, slits, slB, slF, slT, (rFt txt typed (typed + 1) (zPs txt typed 0) wd9 got).2.1, (rFt txt typed (typed + 1) (zPs txt typed 0) wd9 got).2.2.1, (rFt txt typed (typed + 1) (zPs txt typed 0) wd9 got).2.2.2, ans, worst) out) := by
  refine zRun_of (by decide +kernel) rfl rfl (Nat.le_of_ble_eq_true rfl) ?_
  suffices hs : ∀ (o9 : zO) (h9 : zH), (Sum.inr (some (.int ((rFt txt typed (typed + 1) (zPs txt typed 0) wd9 got).1))) : zO) = o9 → (zHp S X (s, past, aside, pasts, txt, typed, thrown, line, need, left, slits, slB, slF, slT, (rFt txt typed (typed + 1) (zPs txt typed 0) wd9 got).2.1, (rFt txt typed (typed + 1) (zPs txt typed 0) wd9 got).2.2.1, (rFt txt typed (typed + 1) (zPs txt typed 0) wd9 got).2.2.2, ans, worst) out) = h9 → zPW G mX10_fault 0 0 o9 h9 0 0 0 [(0, .ref 114)] [] (zHp S X (s, past, aside, pasts, txt, typed, thrown, line, need, left, slits, slB, slF, slT, at9, wd9, got, ans, worst) out) from hs _ _ rfl rfl
  intro o9 h9 ho9 hh9
  refine z_aload_n 0 dX10_fault_0 rfl rfl ?_
  refine z_iconst (v := nI 0) dX10_fault_1 (by decide) ?_
  refine z_puti 14 tyX10 zgo_114 rfl inX10 tyX10_ok nmX10 (by decide) zw_1192 rfl rfl (by decide +kernel) (Nat.le_of_ble_eq_true rfl) dX10_fault_2 ?_
  refine z_eqh (h2 := (zHp S X (s, past, aside, pasts, txt, typed, thrown, line, need, left, slits, slB, slF, slT, 0, wd9, got, ans, worst) out)) zsf_114_14 ?_
  refine z_aload_n 0 dX10_fault_5 rfl rfl ?_
  refine z_callV (N := mX10_passes) 0 [] [] lX10_passes ⟨zw_1591, zw_1593, zw_101⟩ rfl zgo_114 rfl rfl (Nat.le_of_ble_eq_true rfl) (by decide) ⟨zlt, zlt⟩ ⟨Nat.zero_le _, Nat.zero_le _⟩ zal (m_passes hG h150 (Nat.zero_le _)) dX10_fault_6 ?_
  have L9_1 : ∀ (d p : Nat) (n : Nat) (v9 : Int32) (g9 : Nat → Int32), p ≤ typed → typed + 1 ≤ p + d → (rFt txt typed (typed + 1) (zPs txt typed 0) wd9 got) = rFt txt typed n p v9 g9 → typed < p + n → p ≤ typed → zPW G mX10_fault 0 0 o9 h9 0 0 9 [(0, .ref 114)] [] (zHp S X (s, past, aside, pasts, txt, typed, thrown, line, need, left, slits, slB, slF, slT, p, v9, g9, ans, worst) out) := by
    intro d
    induction d with
    | zero => intro p n v9 g9 hk hd; exact absurd hd (by omega)
    | succ d ih =>
      intro p n v9 g9 hk_p hd_p he_p hn_p hle_p
      have ih9 := ih
      clear ih
      refine z_aload_n 0 dX10_fault_9 rfl rfl ?_
      refine z_get (v := .int (nI p)) 14 zgo_114 rfl inX10 (by decide) zw_1192 rfl rfl dX10_fault_10 ?_
      refine z_aload_n 0 dX10_fault_13 rfl rfl ?_
      refine z_get (v := .int (nI typed)) 5 zgo_114 rfl inX10 (by decide) zw_1183 rfl rfl dX10_fault_14 ?_
      refine z_icmp_ge (tgt := 39) dX10_fault_17 (by decide) (fun c_17 => ?_) (fun c_17 => ?_)
      · skip
        have f_17 := m_le (by omega) (by omega) c_17
        have heN : (rFt txt typed (typed + 1) (zPs txt typed 0) wd9 got) = (-1, p, v9, g9) := he_p.trans (rFt_e f_17)
        refine z_iconst (v := (-1)) dX10_fault_39 (by decide) ?_
        exact z_iret rfl dX10_fault_40 (zo_i ho9 (by rw [heN])) (zo_h hh9 (by rw [heN])) (Nat.zero_le _) (Nat.zero_le _)
      · skip
        have f_17 := m_nle (by omega) (by omega) c_17
        refine z_aload_n 0 dX10_fault_20 rfl rfl ?_
        refine z_callV (N := mX10_reads) 0 [] [] lX10_reads ⟨zw_1599, zw_1601, zw_103⟩ rfl zgo_114 rfl rfl (Nat.le_of_ble_eq_true rfl) (by decide) ⟨zlt, zlt⟩ ⟨Nat.zero_le _, Nat.zero_le _⟩ zal (m_reads hG h150 hle_p) dX10_fault_21 ?_
        refine z_istore_n (lv' := [(1, .int ((rRd txt typed p g9).1)), (0, .ref 114)]) dX10_fault_24 rfl (by decide) rfl ?_
        refine z_iload_n 0 dX10_fault_25 rfl rfl ?_
        refine z_iconst (v := (-1)) dX10_fault_26 (by decide) ?_
        refine z_icmp_eq (tgt := 32) dX10_fault_27 (by decide) (fun c_27 => ?_) (fun c_27 => ?_)
        · skip
          have hn0 : n = n - 1 + 1 := by omega
          have hps := rRd_pos hle_p h150 c_27
          have hzp := zPs_le (txt := txt) hps.2
          have he2 : (rFt txt typed (typed + 1) (zPs txt typed 0) wd9 got) = rFt txt typed (n - 1) (zPs txt typed (rRd txt typed p g9).2.1) (rRd txt typed p g9).2.2.1 (rRd txt typed p g9).2.2.2 := by
            rw [he_p, hn0]
            exact rFt_t f_17 c_27
          refine z_aload_n 1 dX10_fault_32 rfl rfl ?_
          refine z_callV (N := mX10_passes) 0 [] [] lX10_passes ⟨zw_1591, zw_1593, zw_101⟩ rfl zgo_114 rfl rfl (Nat.le_of_ble_eq_true rfl) (by decide) ⟨zlt, zlt⟩ ⟨Nat.zero_le _, Nat.zero_le _⟩ zal (m_passes hG h150 hps.2) dX10_fault_33 ?_
          refine z_goto (tgt := 9) dX10_fault_36 (by decide) ?_
          refine z_sub [1] (lv' := [(0, .ref 114)]) rfl ?_
          refine z_eqs (lv2 := [(0, .ref 114)]) (h2 := (zHp S X (s, past, aside, pasts, txt, typed, thrown, line, need, left, slits, slB, slF, slT, (zPs txt typed ((rRd txt typed p g9).2.1)), (rRd txt typed p g9).2.2.1, (rRd txt typed p g9).2.2.2, ans, worst) out)) (by rfl) (by rfl) ?_
          exact ih9 (zPs txt typed ((rRd txt typed p g9).2.1)) (n - 1) ((rRd txt typed p g9).2.2.1) ((rRd txt typed p g9).2.2.2) (by omega) (by omega) he2 (by omega) (by omega)
        · skip
          have hn0 : n = n - 1 + 1 := by omega
          have heN : (rFt txt typed (typed + 1) (zPs txt typed 0) wd9 got) = (rRd txt typed p g9) := by
            rw [he_p, hn0]
            exact rFt_f f_17 c_27
          refine z_iload_n 0 dX10_fault_30 rfl rfl ?_
          exact z_iret rfl dX10_fault_31 (zo_i ho9 (by rw [heN])) (zo_h hh9 (by rw [heN])) (Nat.zero_le _) (Nat.zero_le _)
  refine z_sub [0] (lv' := [(0, .ref 114)]) rfl ?_
  refine z_eqs (lv2 := [(0, .ref 114)]) (h2 := (zHp S X (s, past, aside, pasts, txt, typed, thrown, line, need, left, slits, slB, slF, slT, (zPs txt typed 0), wd9, got, ans, worst) out)) (by rfl) (by rfl) ?_
  exact L9_1 (typed + 1) (zPs txt typed 0) (typed + 1) wd9 got (by have := zPs_le (txt := txt) (Nat.zero_le typed); omega) (by omega) rfl (by omega) (zPs_le (Nat.zero_le _)).2

