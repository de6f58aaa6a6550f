theorem upd_upd {f : Nat → Int32} {k : Nat} {x y : Int32} : upd (upd f k x) k y = upd f k y := by
  funext j
  unfold upd
  by_cases h : j = k
  · rw [if_pos h, if_pos h]
  · rw [if_neg h, if_neg h, if_neg h]
theorem zFr_eq {a : Nat} {x : Int32} (ha : a < 2 ^ 31) : zFr (nI a) x (nI a) = true ↔ x = nI a := by
  unfold zFr
  refine ⟨fun h => ?_, fun h => ?_⟩
  · rw [Bool.and_eq_true] at h
    have h1 : ¬ x < nI a := fun q => by rw [decide_eq_true q] at h; exact absurd h.1 (by decide)
    have h2 : ¬ nI a < x := fun q => by rw [decide_eq_true q] at h; exact absurd h.2 (by decide)
    exact Int32.le_antisymm (Int32.not_lt.mp h2) (Int32.not_lt.mp h1)
  · rw [h, decide_eq_false (nI_nlt (Nat.le_refl _) ha)]
    rfl
theorem rTbl {txt : Nat → Int32} {typed p : Nat} {lo hi : Int32} (hlo : zFr lo (-1) hi = false) (h : zFr lo (zTb txt typed p) hi = true) : p < typed ∧ zTb txt typed p = txt p := by
  unfold zTb at *
  by_cases q : p < typed
  · exact ⟨q, if_pos q⟩
  · rw [if_neg q, hlo] at h
    cases h
theorem zPs_s {txt : Nat → Int32} {typed p : Nat} (h : zTb txt typed p = nI 32) : p < typed ∧ zPs txt typed p = zPs txt typed (p + 1) := by
  have hp : p < typed := by
    refine Decidable.byContradiction fun q => ?_
    unfold zTb at h
    rw [if_neg q] at h
    exact absurd h (by decide)
  refine ⟨hp, ?_⟩
  unfold zPs
  rw [show typed - p = typed - (p + 1) + 1 by omega]
  exact if_pos h
theorem zPs_e {txt : Nat → Int32} {typed p : Nat} (h : ¬ zTb txt typed p = nI 32) : zPs txt typed p = p := by
  unfold zPs
  cases typed - p with
  | zero => rfl
  | succ d => exact if_neg h
theorem zSk_le {txt : Nat → Int32} {typed : Nat} : ∀ d p, p + d ≤ typed → p ≤ zSk txt typed d p ∧ zSk txt typed d p ≤ typed
  | 0, p, h => ⟨Nat.le_refl _, h⟩
  | d + 1, p, h => by
    unfold zSk
    split
    · have := zSk_le (txt := txt) (typed := typed) d (p + 1) (by omega)
      exact ⟨by omega, this.2⟩
    · exact ⟨Nat.le_refl _, by omega⟩
theorem zPs_le {txt : Nat → Int32} {typed p : Nat} (h : p ≤ typed) : p ≤ zPs txt typed p ∧ zPs txt typed p ≤ typed := zSk_le _ _ (by omega)
/-- the letters of a word, as digits of 32 -/
def rWl (txt : Nat → Int32) (typed fr : Nat) : Nat → Nat → Int32 → Nat × Int32
  | 0, p, v => (p, v)
  | d + 1, p, v => if zFr (nI 97) (zTb txt typed p) (nI 122) then rWl txt typed fr d (p + 1) (if p - fr < 5 then nI 32 * v + txt p - nI 96 else nI 0) else (p, v)
theorem rWl_s {txt : Nat → Int32} {typed fr p : Nat} {v : Int32} (h : zFr (nI 97) (zTb txt typed p) (nI 122) = true) : rWl txt typed fr (typed - p) p v = rWl txt typed fr (typed - (p + 1)) (p + 1) (if p - fr < 5 then nI 32 * v + txt p - nI 96 else nI 0) := by
  have hp := (rTbl (by decide) h).1
  rw [show typed - p = typed - (p + 1) + 1 by omega]
  exact if_pos h
theorem rWl_e {txt : Nat → Int32} {typed fr p : Nat} {v : Int32} (h : zFr (nI 97) (zTb txt typed p) (nI 122) = false) : rWl txt typed fr (typed - p) p v = (p, v) := by
  cases typed - p with
  | zero => rfl
  | succ d => exact if_neg (by rw [h]; decide)
/-- how many numbers a word has -/
def rNc (w : Int32) : Option Nat := if w = 3554952 then some 2 else if w = 635184 then some 2 else if w = 206220 then some 5 else if w = 12788 then some 3 else if w = 24282821 then some 1 else if w = 702607 then some 1 else if w = 19639 then some 1 else if w = 12891444 then some 1 else none
def rNb (w : Int32) : Int32 := match rNc w with
  | some n => nI n
  | none => -1
theorem rNc_le {w : Int32} {n : Nat} (h : rNc w = some n) : n ≤ 5 := by
  unfold rNc at h
  repeat' (split at h)
  all_goals first | (cases h; decide) | cases h
def rDg (txt : Nat → Int32) (typed : Nat) : Nat → Nat → Int32 → Nat × Int32
  | 0, p, v => (p, v)
  | d + 1, p, v => if zFr (nI 48) (zTb txt typed p) (nI 57) then rDg txt typed d (p + 1) (nI 10 * v + txt p - nI 48) else (p, v)
/-- the numbers of a command: whether they are right, where it ends, the numbers -/
def rNr (txt : Nat → Int32) (typed : Nat) : Nat → Nat → Nat → (Nat → Int32) → Bool × Nat × (Nat → Int32)
  | 0, _, p, g => (true, p, g)
  | d + 1, k, p, g => if zPs txt typed p = p then (false, zPs txt typed p, g)
    else if zFr (nI 48) (zTb txt typed (zPs txt typed p)) (nI 57) then rNr txt typed d (k + 1) (rDg txt typed 3 (zPs txt typed p) (nI 0)).1 (upd g k (rDg txt typed 3 (zPs txt typed p) (nI 0)).2) else (false, zPs txt typed p, g)
def rRdN (txt : Nat → Int32) (typed n p : Nat) (w : Int32) (g : Nat → Int32) : Int32 × Nat × Int32 × (Nat → Int32) :=
  if (rNr txt typed n 0 p g).1 then
    (if zFr (nI 59) (zTb txt typed (zPs txt typed (rNr txt typed n 0 p g).2.1)) (nI 59) then (-1, zPs txt typed (rNr txt typed n 0 p g).2.1 + 1, w, (rNr txt typed n 0 p g).2.2) else (nI (zPs txt typed (rNr txt typed n 0 p g).2.1), zPs txt typed (rNr txt typed n 0 p g).2.1, w, (rNr txt typed n 0 p g).2.2))
  else (nI (rNr txt typed n 0 p g).2.1, (rNr txt typed n 0 p g).2.1, w, (rNr txt typed n 0 p g).2.2)
theorem rRdN_f {txt : Nat → Int32} {typed n p q : Nat} {w : Int32} {g g2 : Nat → Int32} (h : rNr txt typed n 0 p g = (false, q, g2)) : rRdN txt typed n p w g = (nI q, q, w, g2) := by
  unfold rRdN
  rw [h]
  rfl
theorem rRdN_t {txt : Nat → Int32} {typed n p q : Nat} {w : Int32} {g g2 : Nat → Int32} (h : rNr txt typed n 0 p g = (true, q, g2)) (h2 : zFr (nI 59) (zTb txt typed (zPs txt typed q)) (nI 59) = true) : rRdN txt typed n p w g = (-1, zPs txt typed q + 1, w, g2) := by
  unfold rRdN
  rw [h, if_pos rfl, if_pos h2]
theorem rRdN_n {txt : Nat → Int32} {typed n p q : Nat} {w : Int32} {g g2 : Nat → Int32} (h : rNr txt typed n 0 p g = (true, q, g2)) (h2 : zFr (nI 59) (zTb txt typed (zPs txt typed q)) (nI 59) = false) : rRdN txt typed n p w g = (nI (zPs txt typed q), zPs txt typed q, w, g2) := by
  unfold rRdN
  rw [h, if_pos rfl, if_neg (by rw [h2]; decide)]
/-- a command is read: -1 or where it is wrong, the place behind, the word, the numbers -/
def rRd (txt : Nat → Int32) (typed p : Nat) (g : Nat → Int32) : Int32 × Nat × Int32 × (Nat → Int32) :=
  match rNc (if (rWl txt typed p (typed - p) p (nI 0)).1 - p < 6 then (rWl txt typed p (typed - p) p (nI 0)).2 else nI 0) with
  | none => (nI p, (rWl txt typed p (typed - p) p (nI 0)).1, (rWl txt typed p (typed - p) p (nI 0)).2, g)
  | some n => rRdN txt typed n (rWl txt typed p (typed - p) p (nI 0)).1 (rWl txt typed p (typed - p) p (nI 0)).2 g
theorem rWl_le {txt : Nat → Int32} {typed fr : Nat} : ∀ d p v, p + d ≤ typed → p ≤ (rWl txt typed fr d p v).1 ∧ (rWl txt typed fr d p v).1 ≤ typed
  | 0, p, v, h => ⟨Nat.le_refl _, h⟩
  | d + 1, p, v, h => by
    unfold rWl
    split
    · have := rWl_le (txt := txt) (typed := typed) (fr := fr) d (p + 1) (if p - fr < 5 then nI 32 * v + txt p - nI 96 else nI 0) (by omega)
      exact ⟨by omega, this.2⟩
    · exact ⟨Nat.le_refl _, by show p ≤ typed; omega⟩
theorem rDg_le {txt : Nat → Int32} {typed : Nat} : ∀ d p v, p ≤ typed → p ≤ (rDg txt typed d p v).1 ∧ (rDg txt typed d p v).1 ≤ typed
  | 0, p, v, h => ⟨Nat.le_refl _, h⟩
  | d + 1, p, v, h => by
    unfold rDg
    split
    · rename_i q
      have hp := (rTbl (by decide) q).1
      have := rDg_le (txt := txt) (typed := typed) d (p + 1) (nI 10 * v + txt p - nI 48) (by omega)
      exact ⟨by omega, this.2⟩
    · exact ⟨Nat.le_refl _, h⟩
theorem rNr_le {txt : Nat → Int32} {typed : Nat} : ∀ d k p g, p ≤ typed → p ≤ (rNr txt typed d k p g).2.1 ∧ (rNr txt typed d k p g).2.1 ≤ typed
  | 0, k, p, g, h => ⟨Nat.le_refl _, h⟩
  | d + 1, k, p, g, h => by
    have h1 := zPs_le (txt := txt) h
    unfold rNr
    split
    · exact h1
    · split
      · have h2 := rDg_le (txt := txt) (typed := typed) 3 (zPs txt typed p) (nI 0) h1.2
        have h3 := rNr_le (txt := txt) (typed := typed) d (k + 1) (rDg txt typed 3 (zPs txt typed p) (nI 0)).1 (upd g k (rDg txt typed 3 (zPs txt typed p) (nI 0)).2) h2.2
        exact ⟨by omega, h3.2⟩
      · exact h1
/-- a command that is right ends behind its start -/
theorem rRd_pos {txt : Nat → Int32} {typed p : Nat} {g : Nat → Int32} (hp : p ≤ typed) (h150 : typed ≤ 150) (h : (rRd txt typed p g).1 = -1) : p < (rRd txt typed p g).2.1 ∧ (rRd txt typed p g).2.1 ≤ typed := by
  have hw := rWl_le (txt := txt) (typed := typed) (fr := p) (typed - p) p (nI 0) (by omega)
  unfold rRd at *
  generalize rWl txt typed p (typed - p) p (nI 0) = R at *
  cases hc : rNc (if R.1 - p < 6 then R.2 else nI 0) with
  | none =>
    rw [hc] at h
    exact absurd h (by intro z; exact nI_m1 (a := p) (by omega) z)
  | some n =>
    rw [hc] at h
    show p < (rRdN txt typed n R.1 R.2 g).2.1 ∧ (rRdN txt typed n R.1 R.2 g).2.1 ≤ typed
    have h' : (rRdN txt typed n R.1 R.2 g).1 = -1 := h
    have hr := rNr_le (txt := txt) (typed := typed) n 0 R.1 g hw.2
    rcases hN : rNr txt typed n 0 R.1 g with ⟨b, q, g2⟩
    rw [hN] at hr
    have hz := zPs_le (txt := txt) (typed := typed) (p := q) hr.2
    cases b with
    | false =>
      rw [rRdN_f hN] at h'
      exact absurd h' (by intro z; exact nI_m1 (a := q) (by have := hr.2; simp only at this; omega) z)
    | true =>
      cases h2 : zFr (nI 59) (zTb txt typed (zPs txt typed q)) (nI 59) with
      | false =>
        rw [rRdN_n hN h2] at h'
        exact absurd h' (by intro z; exact nI_m1 (a := zPs txt typed q) (by omega) z)
      | true =>
        rw [rRdN_t hN h2]
        have h3 := (rTbl (by decide) h2).1
        refine ⟨?_, h3⟩
        show p < zPs txt typed q + 1
        have := hr.1
        simp only at this
        omega
/-- the fault of a text: -1 or the place; the place, the word, the numbers that are left -/
def rFt (txt : Nat → Int32) (typed : Nat) : Nat → Nat → Int32 → (Nat → Int32) → Int32 × Nat × Int32 × (Nat → Int32)
  | 0, p, v, g => (-1, p, v, g)
  | d + 1, p, v, g => if p < typed then (if (rRd txt typed p g).1 = -1 then rFt txt typed d (zPs txt typed (rRd txt typed p g).2.1) (rRd txt typed p g).2.2.1 (rRd txt typed p g).2.2.2 else rRd txt typed p g) else (-1, p, v, g)
theorem rFt_t {txt : Nat → Int32} {typed d p : Nat} {v : Int32} {g : Nat → Int32} (hp : p < typed) (h : (rRd txt typed p g).1 = -1) : rFt txt typed (d + 1) p v g = rFt txt typed d (zPs txt typed (rRd txt typed p g).2.1) (rRd txt typed p g).2.2.1 (rRd txt typed p g).2.2.2 := by
  show (if p < typed then _ else _) = _
  rw [if_pos hp, if_pos h]
theorem rFt_f {txt : Nat → Int32} {typed d p : Nat} {v : Int32} {g : Nat → Int32} (hp : p < typed) (h : ¬ (rRd txt typed p g).1 = -1) : rFt txt typed (d + 1) p v g = rRd txt typed p g := by
  show (if p < typed then _ else _) = _
  rw [if_pos hp, if_neg h]
theorem rFt_e {txt : Nat → Int32} {typed d p : Nat} {v : Int32} {g : Nat → Int32} (hp : typed ≤ p) : rFt txt typed d p v g = (-1, p, v, g) := by
  cases d with
  | zero => rfl
  | succ d => exact if_neg (by omega)

set_option maxHeartbeats 4000000 in
set_option maxRecDepth 100000 in
theorem m_isAt {G : zT} {S : zS} {X : zXr} {out : Nat → Int64} {s : (Nat → Int32)} {past : (Nat → Int32)} {aside : (Nat → Int32)} {pasts : Nat} {txt : (Nat → Int32)} {typed : Nat} {thrown : Int32} {line : (Nat → Int32)} {need : (Nat → Int32)} {left : (Nat → Int32)} {slits : Nat} {slB : (Nat → Int32)} {slF : (Nat → Int32)} {slT : (Nat → Int32)} {at9 : Nat} {wd9 : Int32} {got : (Nat → Int32)} {ans : Int32} {worst : UInt32} (hG : zAl G = false) (h150 : typed ≤ 150) (hat : at9 ≤ typed) (lo hi : Int32) (hlo : zFr lo (-1) hi = false) : zRun G mX10_isAt 0 0 [.ref 114, .int lo, .int hi] (zHp S X (s, past, aside, pasts, txt, typed, thrown, line, need, left, slits, slB, slF, slT, at9, wd9, got, ans, worst) out) (.inr (some (.int (zB (zFr lo (zTb txt typed at9) hi))))) (zHp S X (s, past, aside, pasts, txt, typed, thrown, line, need, left, slits, slB, slF, slT, at9, wd9, got, ans, worst) out) := by
  refine zRun_of (by decide +kernel) rfl rfl (Nat.le_of_ble_eq_true rfl) ?_
  suffices hs : ∀ (o9 : zO) (h9 : zH), (Sum.inr (some (.int (zB (zFr lo (zTb txt typed at9) hi)))) : zO) = o9 → (zHp S X (s, past, aside, pasts, txt, typed, thrown, line, need, left, slits, slB, slF, slT, at9, wd9, got, ans, worst) out) = h9 → zPW G mX10_isAt 0 0 o9 h9 0 0 0 [(0, .ref 114), (1, .int lo), (2, .int hi)] [] (zHp S X (s, past, aside, pasts, txt, typed, thrown, line, need, left, slits, slB, slF, slT, at9, wd9, got, ans, worst) out) from hs _ _ rfl rfl
  intro o9 h9 ho9 hh9
  have J33_6 : zPW G mX10_isAt 0 0 o9 h9 0 0 33 [(0, .ref 114), (1, .int lo), (2, .int hi)] [.int (zB (zFr lo (zTb txt typed at9) hi))] (zHp S X (s, past, aside, pasts, txt, typed, thrown, line, need, left, slits, slB, slF, slT, at9, wd9, got, ans, worst) out) := by
    exact z_zret rfl (by exact zB_n _) dX10_isAt_33 (zo_i ho9 (by rfl)) (zo_h hh9 (by rfl)) (Nat.zero_le _) (Nat.zero_le _)
  refine z_aload_n 0 dX10_isAt_0 rfl rfl ?_
  refine z_get (v := .int (nI at9)) 14 zgo_114 rfl inX10 (by decide) zw_1192 rfl rfl dX10_isAt_1 ?_
  refine z_aload_n 0 dX10_isAt_4 rfl rfl ?_
  refine z_get (v := .int (nI typed)) 5 zgo_114 rfl inX10 (by decide) zw_1183 rfl rfl dX10_isAt_5 ?_
  refine z_icmp_ge (tgt := 32) dX10_isAt_8 (by decide) (fun c_8 => ?_) (fun c_8 => ?_)
  · skip
    have f_8 := m_le (by omega) (by omega) c_8
    refine z_iconst (v := nI 0) dX10_isAt_32 (by decide) ?_
    refine z_top (v2 := .int (zB (zFr lo (zTb txt typed at9) hi))) (by first | (rw [show zTb txt typed at9 = -1 from if_neg (by omega), hlo]; rfl) | (rw [show zTb txt typed at9 = txt at9 from if_pos (by omega), b_25]; rfl)) ?_
    exact J33_6
  · skip
    have f_8 := m_nle (by omega) (by omega) c_8
    refine z_aload_n 0 dX10_isAt_11 rfl rfl ?_
    refine z_get (v := .ref 118) 4 zgo_114 rfl inX10 (by decide) zw_1182 rfl rfl dX10_isAt_12 ?_
    refine z_aload_n 0 dX10_isAt_15 rfl rfl ?_
    refine z_get (v := .int (nI at9)) 14 zgo_114 rfl inX10 (by decide) zw_1192 rfl rfl dX10_isAt_16 ?_
    refine z_ialdN (f := txt) (n := 150) (j := at9) zga_118 (by omega) (by decide) dX10_isAt_19 ?_
    refine z_iload_n 1 dX10_isAt_20 rfl rfl ?_
    refine z_iload_n 2 dX10_isAt_21 rfl rfl ?_
    refine z_callS (N := mX10_in) 3 [.int (txt at9), .int lo, .int hi] [] lX10_in ⟨zw_1252, zw_1253⟩ rfl rfl rfl (Nat.le_of_ble_eq_true rfl) (by decide) ⟨zlt, zlt⟩ hG ⟨Nat.zero_le _, Nat.zero_le _⟩ (m_in hG (txt at9) lo hi) dX10_isAt_22 ?_
    refine z_if_eq (tgt := 32) dX10_isAt_25 (by decide) (fun c_25 => ?_) (fun c_25 => ?_)
    · skip
      have b_25 := zB_0.mp c_25
      refine z_iconst (v := nI 0) dX10_isAt_32 (by decide) ?_
      refine z_top (v2 := .int (zB (zFr lo (zTb txt typed at9) hi))) (by first | (rw [show zTb txt typed at9 = -1 from if_neg (by omega), hlo]; rfl) | (rw [show zTb txt typed at9 = txt at9 from if_pos (by omega), b_25]; rfl)) ?_
      exact J33_6
    · skip
      have b_25 := zB_tt c_25
      refine z_iconst (v := nI 1) dX10_isAt_28 (by decide) ?_
      refine z_goto (tgt := 33) dX10_isAt_29 (by decide) ?_
      refine z_top (v2 := .int (zB (zFr lo (zTb txt typed at9) hi))) (by first | (rw [show zTb txt typed at9 = -1 from if_neg (by omega), hlo]; rfl) | (rw [show zTb txt typed at9 = txt at9 from if_pos (by omega), b_25]; rfl)) ?_
      exact J33_6

set_option maxHeartbeats 4000000 in
set_option maxRecDepth 100000 in
theorem m_passes {G : zT} {S : zS} {X : zXr} {out : Nat → Int64} {s : (Nat → Int32)} {past : (Nat → Int32)} {aside : (Nat → Int32)} {pasts : Nat} {txt : (Nat → Int32)} {typed : Nat} {thrown : Int32} {line : (Nat → Int32)} {need : (Nat → Int32)} {left : (Nat → Int32)} {slits : Nat} {slB : (Nat → Int32)} {slF : (Nat → Int32)} {slT : (Nat → Int32)} {at9 : Nat} {wd9 : Int32} {got : (Nat → Int32)} {ans : Int32} {worst : UInt32} (hG : zAl G = false) (h150 : typed ≤ 150) (hat : at9 ≤ typed) : zRun G mX10_passes 0 0 [.ref 114] (zHp S X (s, past, aside, pasts, txt, typed, thrown, line, need, left, slits, slB, slF, slT, at9, wd9, got, ans, worst) out) (.inr none) (zHp S X (s, past, aside, pasts, txt, typed, thrown, line, need, left, slits, slB, slF, slT, (zPs txt typed at9), wd9, got, ans, worst) out) := by
  refine zRun_of (by decide +kernel) rfl rfl (Nat.le_of_ble_eq_true rfl) ?_
  suffices hs : ∀ (o9 : zO) (h9 : zH), (Sum.inr none : zO) = o9 → (zHp S X (s, past, aside, pasts, txt, typed, thrown, line, need, left, slits, slB, slF, slT, (zPs txt typed at9), wd9, got, ans, worst) out) = h9 → zPW G mX10_passes 0 0 o9 h9 0 0 0 [(0, .ref 114)] [] (zHp S X (s, past, aside, pasts, txt, typed, thrown, line, need, left, slits, slB, slF, slT, at9, wd9, got, ans, worst) out) from hs _ _ rfl rfl
  intro o9 h9 ho9 hh9
  have L0_1 : ∀ (d p : Nat), p ≤ typed → typed + 1 ≤ p + d → zPs txt typed at9 = zPs txt typed p → p ≤ typed → zPW G mX10_passes 0 0 o9 h9 0 0 0 [(0, .ref 114)] [] (zHp S X (s, past, aside, pasts, txt, typed, thrown, line, need, left, slits, slB, slF, slT, p, wd9, got, ans, worst) out) := by
    intro d
    induction d with
    | zero => intro p hk hd; exact absurd hd (by omega)
    | succ d ih =>
      intro p hk_p hd_p he_p hle_p
      have ih0 := ih
      clear ih
      refine z_aload_n 0 dX10_passes_0 rfl rfl ?_
      refine z_bipush (v := nI 32) dX10_passes_1 (by decide) ?_
      refine z_bipush (v := nI 32) dX10_passes_3 (by decide) ?_
      refine z_callV (N := mX10_isAt) 2 [.int (nI 32), .int (nI 32)] [] lX10_isAt ⟨zw_1595, zw_1597, zw_102⟩ rfl zgo_114 rfl rfl (Nat.le_of_ble_eq_true rfl) (by decide) ⟨zlt, zlt⟩ ⟨Nat.zero_le _, Nat.zero_le _⟩ (fun _ => rfl) (m_isAt hG h150 hle_p (nI 32) (nI 32) (by decide)) dX10_passes_5 ?_
      refine z_if_eq (tgt := 24) dX10_passes_8 (by decide) (fun c_8 => ?_) (fun c_8 => ?_)
      · skip
        have b_8 := zB_0.mp c_8
        have he2 : zPs txt typed at9 = p := he_p.trans (zPs_e (fun q => by rw [(zFr_eq (by decide)).mpr q] at b_8; cases b_8))
        exact z_vret rfl dX10_passes_24 ho9.symm (zo_h hh9 (by rw [he2])) (Nat.zero_le _) (Nat.zero_le _)
      · skip
        have b_8 := zB_tt c_8
        have q1 := zPs_s ((zFr_eq (by decide)).mp b_8)
        have he2 : zPs txt typed at9 = zPs txt typed (p + 1) := he_p.trans q1.2
        refine z_aload_n 0 dX10_passes_11 rfl rfl ?_
        refine z_dup dX10_passes_12 rfl ?_
        refine z_get (v := .int (nI p)) 14 zgo_114 rfl inX10 (by decide) zw_1192 rfl rfl dX10_passes_13 ?_
        refine z_iconst (v := nI 1) dX10_passes_16 (by decide) ?_
        refine z_iaddN (a := p) (b := 1) dX10_passes_17 ?_
        refine z_puti 14 tyX10 zgo_114 rfl inX10 tyX10_ok nmX10 (by decide) zw_1192 rfl rfl (by decide +kernel) (Nat.le_of_ble_eq_true rfl) dX10_passes_18 ?_
        refine z_eqh (h2 := (zHp S X (s, past, aside, pasts, txt, typed, thrown, line, need, left, slits, slB, slF, slT, (p + 1), wd9, got, ans, worst) out)) zsf_114_14 ?_
        refine z_goto (tgt := 0) dX10_passes_21 (by decide) ?_
        refine z_sub [0] (lv' := [(0, .ref 114)]) rfl ?_
        refine z_eqs (lv2 := [(0, .ref 114)]) (h2 := (zHp S X (s, past, aside, pasts, txt, typed, thrown, line, need, left, slits, slB, slF, slT, (p + 1), wd9, got, ans, worst) out)) (by rfl) (by rfl) ?_
        exact ih0 (p + 1) (by omega) (by omega) he2 (by omega)
  refine z_sub [0] (lv' := [(0, .ref 114)]) rfl ?_
  refine z_eqs (lv2 := [(0, .ref 114)]) (h2 := (zHp S X (s, past, aside, pasts, txt, typed, thrown, line, need, left, slits, slB, slF, slT, at9, wd9, got, ans, worst) out)) (by rfl) (by rfl) ?_
  exact L0_1 (typed + 1) at9 (by omega) (by omega) rfl hat

set_option maxHeartbeats 4000000 in
set_option maxRecDepth 100000 in
theorem m_numbers {G : zT} {S : zS} {X : zXr} {Y : zYr} {out : Nat → Int64} (hG : zAl G = false) (x : Int32) : zRun G mX10_numbers 0 0 [.int x] (zHp S X Y out) (.inr (some (.int (rNb x)))) (zHp S X Y out) := by
  refine zRun_of (by decide +kernel) rfl rfl (Nat.le_of_ble_eq_true rfl) ?_
  suffices hs : ∀ (o9 : zO) (h9 : zH), (Sum.inr (some (.int (rNb x))) : zO) = o9 → (zHp S X Y out) = h9 → zPW G mX10_numbers 0 0 o9 h9 0 0 0 [(0, .int x)] [] (zHp S X Y out) from hs _ _ rfl rfl
  intro o9 h9 ho9 hh9
  refine z_iload_n 0 dX10_numbers_0 rfl rfl ?_
  by_cases w0 : x = 3554952
  · subst w0
    refine z_lookup (off := 75) (tgt := 76) dX10_numbers_1 (by decide) (by decide) (by decide) ?_
    refine z_iconst (v := nI 2) dX10_numbers_76 (by decide) ?_
    exact z_iret rfl dX10_numbers_77 (zo_i ho9 (by first | decide | rfl)) (zo_h hh9 (by rfl)) (Nat.zero_le _) (Nat.zero_le _)
  by_cases w1 : x = 635184
  · subst w1
    refine z_lookup (off := 75) (tgt := 76) dX10_numbers_1 (by decide) (by decide) (by decide) ?_
    refine z_iconst (v := nI 2) dX10_numbers_76 (by decide) ?_
    exact z_iret rfl dX10_numbers_77 (zo_i ho9 (by first | decide | rfl)) (zo_h hh9 (by rfl)) (Nat.zero_le _) (Nat.zero_le _)
  by_cases w2 : x = 206220
  · subst w2
    refine z_lookup (off := 77) (tgt := 78) dX10_numbers_1 (by decide) (by decide) (by decide) ?_
    refine z_iconst (v := nI 5) dX10_numbers_78 (by decide) ?_
    exact z_iret rfl dX10_numbers_79 (zo_i ho9 (by first | decide | rfl)) (zo_h hh9 (by rfl)) (Nat.zero_le _) (Nat.zero_le _)
  by_cases w3 : x = 12788
  · subst w3
    refine z_lookup (off := 79) (tgt := 80) dX10_numbers_1 (by decide) (by decide) (by decide) ?_
    refine z_iconst (v := nI 3) dX10_numbers_80 (by decide) ?_
    exact z_iret rfl dX10_numbers_81 (zo_i ho9 (by first | decide | rfl)) (zo_h hh9 (by rfl)) (Nat.zero_le _) (Nat.zero_le _)
  by_cases w4 : x = 24282821
  · subst w4
    refine z_lookup (off := 81) (tgt := 82) dX10_numbers_1 (by decide) (by decide) (by decide) ?_
    refine z_iconst (v := nI 1) dX10_numbers_82 (by decide) ?_
    exact z_iret rfl dX10_numbers_83 (zo_i ho9 (by first | decide | rfl)) (zo_h hh9 (by rfl)) (Nat.zero_le _) (Nat.zero_le _)
  by_cases w5 : x = 702607
  · subst w5
    refine z_lookup (off := 81) (tgt := 82) dX10_numbers_1 (by decide) (by decide) (by decide) ?_
    refine z_iconst (v := nI 1) dX10_numbers_82 (by decide) ?_
    exact z_iret rfl dX10_numbers_83 (zo_i ho9 (by first | decide | rfl)) (zo_h hh9 (by rfl)) (Nat.zero_le _) (Nat.zero_le _)
  by_cases w6 : x = 19639
  · subst w6
    refine z_lookup (off := 81) (tgt := 82) dX10_numbers_1 (by decide) (by decide) (by decide) ?_
    refine z_iconst (v := nI 1) dX10_numbers_82 (by decide) ?_
    exact z_iret rfl dX10_numbers_83 (zo_i ho9 (by first | decide | rfl)) (zo_h hh9 (by rfl)) (Nat.zero_le _) (Nat.zero_le _)
  by_cases w7 : x = 12891444
  · subst w7
    refine z_lookup (off := 81) (tgt := 82) dX10_numbers_1 (by decide) (by decide) (by decide) ?_
    refine z_iconst (v := nI 1) dX10_numbers_82 (by decide) ?_
    exact z_iret rfl dX10_numbers_83 (zo_i ho9 (by first | decide | rfl)) (zo_h hh9 (by rfl)) (Nat.zero_le _) (Nat.zero_le _)
  refine z_lookup (off := 83) (tgt := 84) dX10_numbers_1 (by decide) (by simp only [Op.lookupswitch.offset_cons, Op.lookupswitch.offset_nil]; rw [if_neg (fun q => w3 (Int32.toInt_inj.mp q.symm)), if_neg (fun q => w6 (Int32.toInt_inj.mp q.symm)), if_neg (fun q => w2 (Int32.toInt_inj.mp q.symm)), if_neg (fun q => w1 (Int32.toInt_inj.mp q.symm)), if_neg (fun q => w5 (Int32.toInt_inj.mp q.symm)), if_neg (fun q => w0 (Int32.toInt_inj.mp q.symm)), if_neg (fun q => w7 (Int32.toInt_inj.mp q.symm)), if_neg (fun q => w4 (Int32.toInt_inj.mp q.symm))]) (by decide) ?_
  refine z_iconst (v := (-1)) dX10_numbers_84 (by decide) ?_
  exact z_iret rfl dX10_numbers_85 (zo_i ho9 (by show rNb x = -1; unfold rNb rNc; rw [if_neg w0, if_neg w1, if_neg w2, if_neg w3, if_neg w4, if_neg w5, if_neg w6, if_neg w7])) (zo_h hh9 (by rfl)) (Nat.zero_le _) (Nat.zero_le _)

set_option maxHeartbeats 4000000 in
set_option maxRecDepth 100000 in
theorem m_reads_bad {G : zT} {S : zS} {X : zXr} {out : Nat → Int64} {s : (Nat → Int32)} {past : (Nat → Int32)} {aside : (Nat → Int32)} {pasts : Nat} {txt : (Nat → Int32)} {typed : Nat} {thrown : Int32} {line : (Nat → Int32)} {need : (Nat → Int32)} {left : (Nat → Int32)} {slits : Nat} {slB : (Nat → Int32)} {slF : (Nat → Int32)} {slT : (Nat → Int32)} {p0 : Nat} {wd9 : Int32} {got : (Nat → Int32)} {ans : Int32} {worst : UInt32} (hG : zAl G = false) (h150 : typed ≤ 150) (hat : p0 ≤ typed) (hmany : rNc (if (rWl txt typed p0 (typed - p0) p0 (nI 0)).1 - p0 < 6 then (rWl txt typed p0 (typed - p0) p0 (nI 0)).2 else nI 0) = none) : zRun G mX10_reads 0 0 [.ref 114] (zHp S X (s, past, aside, pasts, txt, typed, thrown, line, need, left, slits, slB, slF, slT, p0, wd9, got, ans, worst) out) (.inr (some (.int (nI p0)))) (zHp S X (s, past, aside, pasts, txt, typed, thrown, line, need, left, slits, slB, slF, slT, (rWl txt typed p0 (typed - p0) p0 (nI 0)).1, (rWl txt typed p0 (typed - p0) p0 (nI 0)).2, got, ans, worst) out) := by
  refine zRun_of (by decide +kernel) rfl rfl (Nat.le_of_ble_eq_true rfl) ?_
  suffices hs : ∀ (o9 : zO) (h9 : zH), (Sum.inr (some (.int (nI p0))) : zO) = o9 → (zHp S X (s, past, aside, pasts, txt, typed, thrown, line, need, left, slits, slB, slF, slT, (rWl txt typed p0 (typed - p0) p0 (nI 0)).1, (rWl txt typed p0 (typed - p0) p0 (nI 0)).2, got, ans, worst) out) = h9 → zPW G mX10_reads 0 0 o9 h9 0 0 0 [(0, .ref 114)] [] (zHp S X (s, past, aside, pasts, txt, typed, thrown, line, need, left, slits, slB, slF, slT, p0, wd9, got, ans, worst) out) from hs _ _ rfl rfl
  intro o9 h9 ho9 hh9
  refine z_aload_n 0 dX10_reads_0 rfl rfl ?_
  refine z_get (v := .int (nI p0)) 14 zgo_114 rfl inX10 (by decide) zw_1192 rfl rfl dX10_reads_1 ?_
  refine z_istore_n (lv' := [(1, .int (nI p0)), (0, .ref 114)]) dX10_reads_4 rfl (by decide) rfl ?_
  refine z_aload_n 1 dX10_reads_5 rfl rfl ?_
  refine z_iconst (v := nI 0) dX10_reads_6 (by decide) ?_
  refine z_puti 15 tyX10 zgo_114 rfl inX10 tyX10_ok nmX10 (by decide) zw_1193 rfl rfl (by decide +kernel) (Nat.le_of_ble_eq_true rfl) dX10_reads_7 ?_
  refine z_eqh (h2 := (zHp S X (s, past, aside, pasts, txt, typed, thrown, line, need, left, slits, slB, slF, slT, p0, (nI 0), got, ans, worst) out)) zsf_114_15 ?_
  have L10_1 : ∀ (d p : Nat) (v : Int32), p ≤ typed → typed + 1 ≤ p + d → (rWl txt typed p0 (typed - p0) p0 (nI 0)) = rWl txt typed p0 (typed - p) p v → p0 ≤ p → p ≤ typed → zPW G mX10_reads 0 0 o9 h9 0 0 10 [(1, .int (nI p0)), (0, .ref 114)] [] (zHp S X (s, past, aside, pasts, txt, typed, thrown, line, need, left, slits, slB, slF, slT, p, v, got, ans, worst) out) := by
    intro d
    induction d with
    | zero => intro p v hk hd; exact absurd hd (by omega)
    | succ d ih =>
      intro p v hk_p hd_p he_p hge_p hle_p
      have ih10 := ih
      clear ih
      refine z_aload_n 1 dX10_reads_10 rfl rfl ?_
      refine z_bipush (v := nI 97) dX10_reads_11 (by decide) ?_
      refine z_bipush (v := nI 122) dX10_reads_13 (by decide) ?_
      refine z_callV (N := mX10_isAt) 2 [.int (nI 97), .int (nI 122)] [] lX10_isAt ⟨zw_1595, zw_1597, zw_102⟩ rfl zgo_114 rfl rfl (Nat.le_of_ble_eq_true rfl) (by decide) ⟨zlt, zlt⟩ ⟨Nat.zero_le _, Nat.zero_le _⟩ (fun _ => rfl) (m_isAt hG h150 (by omega) (nI 97) (nI 122) (by decide)) dX10_reads_15 ?_
      refine z_if_eq (tgt := 72) dX10_reads_18 (by decide) (fun c_18 => ?_) (fun c_18 => ?_)
      · skip
        have b_18 := zB_0.mp c_18
        have he2 : (rWl txt typed p0 (typed - p0) p0 (nI 0)) = (p, v) := he_p.trans (rWl_e b_18)
        have hp2 : p = (rWl txt typed p0 (typed - p0) p0 (nI 0)).1 := by rw [he2]
        have hv2 : v = (rWl txt typed p0 (typed - p0) p0 (nI 0)).2 := by rw [he2]
        clear ih10 he2 he_p hd_p hk_p b_18 c_18
        subst hp2
        subst hv2
        have J91_34 : zPW G mX10_reads 0 0 o9 h9 0 0 91 [(1, .int (nI p0)), (0, .ref 114)] [.int (if (rWl txt typed p0 (typed - p0) p0 (nI 0)).1 - p0 < 6 then (rWl txt typed p0 (typed - p0) p0 (nI 0)).2 else nI 0)] (zHp S X (s, past, aside, pasts, txt, typed, thrown, line, need, left, slits, slB, slF, slT, (rWl txt typed p0 (typed - p0) p0 (nI 0)).1, (rWl txt typed p0 (typed - p0) p0 (nI 0)).2, got, ans, worst) out) := by
          refine z_callS (N := mX10_numbers) 1 [.int (if (rWl txt typed p0 (typed - p0) p0 (nI 0)).1 - p0 < 6 then (rWl txt typed p0 (typed - p0) p0 (nI 0)).2 else nI 0)] [] lX10_numbers ⟨zw_1603, zw_1604⟩ rfl rfl rfl (Nat.le_of_ble_eq_true rfl) (by decide) ⟨zlt, zlt⟩ hG ⟨Nat.zero_le _, Nat.zero_le _⟩ (m_numbers hG (if (rWl txt typed p0 (typed - p0) p0 (nI 0)).1 - p0 < 6 then (rWl txt typed p0 (typed - p0) p0 (nI 0)).2 else nI 0)) dX10_reads_91 ?_
          refine z_top (v2 := .int ((-1))) (by show Value.int (rNb _) = _; unfold rNb; rw [hmany]) ?_
          refine z_istore_n (lv' := [(2, .int ((-1))), (1, .int (nI p0)), (0, .ref 114)]) dX10_reads_94 rfl (by decide) rfl ?_
          refine z_iload_n 0 dX10_reads_95 rfl rfl ?_
          refine z_if_ge (tgt := 101) dX10_reads_96 (by decide) (fun c_96 => ?_) (fun c_96 => ?_)
          · exfalso; revert c_96; decide
          · skip
            refine z_iload_n 1 dX10_reads_99 rfl rfl ?_
            exact z_iret rfl dX10_reads_100 (zo_i ho9 (by rfl)) (zo_h hh9 (by rfl)) (Nat.zero_le _) (Nat.zero_le _)
        refine z_aload_n 1 dX10_reads_72 rfl rfl ?_
        refine z_get (v := .int (nI ((rWl txt typed p0 (typed - p0) p0 (nI 0)).1))) 14 zgo_114 rfl inX10 (by decide) zw_1192 rfl rfl dX10_reads_73 ?_
        refine z_iload_n 0 dX10_reads_76 rfl rfl ?_
        refine z_isubN (a := (rWl txt typed p0 (typed - p0) p0 (nI 0)).1) (b := p0) (by omega) dX10_reads_77 ?_
        refine z_bipush (v := nI 6) dX10_reads_78 (by decide) ?_
        refine z_icmp_ge (tgt := 90) dX10_reads_80 (by decide) (fun c_80 => ?_) (fun c_80 => ?_)
        · skip
          have f_80 := m_le (by omega) (by omega) c_80
          refine z_iconst (v := nI 0) dX10_reads_90 (by decide) ?_
          refine z_top (v2 := .int (if (rWl txt typed p0 (typed - p0) p0 (nI 0)).1 - p0 < 6 then (rWl txt typed p0 (typed - p0) p0 (nI 0)).2 else nI 0)) (by first | rw [if_pos f_80] | rw [if_neg (by omega)]) ?_
          exact J91_34
        · skip
          have f_80 := m_nle (by omega) (by omega) c_80
          refine z_aload_n 1 dX10_reads_83 rfl rfl ?_
          refine z_get (v := .int ((rWl txt typed p0 (typed - p0) p0 (nI 0)).2)) 15 zgo_114 rfl inX10 (by decide) zw_1193 rfl rfl dX10_reads_84 ?_
          refine z_goto (tgt := 91) dX10_reads_87 (by decide) ?_
          refine z_top (v2 := .int (if (rWl txt typed p0 (typed - p0) p0 (nI 0)).1 - p0 < 6 then (rWl txt typed p0 (typed - p0) p0 (nI 0)).2 else nI 0)) (by first | rw [if_pos f_80] | rw [if_neg (by omega)]) ?_
          exact J91_34
      · skip
        have b_18 := zB_tt c_18
        have q1 := (rTbl (by decide) b_18).1
        have he2 := he_p.trans (rWl_s b_18)
        refine z_aload_n 1 dX10_reads_21 rfl rfl ?_
        have J56_67 : zPW G mX10_reads 0 0 o9 h9 0 0 56 [(1, .int (nI p0)), (0, .ref 114)] [.int (if p - p0 < 5 then nI 32 * v + txt p - nI 96 else nI 0), .ref 114] (zHp S X (s, past, aside, pasts, txt, typed, thrown, line, need, left, slits, slB, slF, slT, p, v, got, ans, worst) out) := by
          refine z_puti 15 tyX10 zgo_114 rfl inX10 tyX10_ok nmX10 (by decide) zw_1193 rfl rfl (by decide +kernel) (Nat.le_of_ble_eq_true rfl) dX10_reads_56 ?_
          refine z_eqh (h2 := (zHp S X (s, past, aside, pasts, txt, typed, thrown, line, need, left, slits, slB, slF, slT, p, (if p - p0 < 5 then nI 32 * v + txt p - nI 96 else nI 0), got, ans, worst) out)) zsf_114_15 ?_
          refine z_aload_n 1 dX10_reads_59 rfl rfl ?_
          refine z_dup dX10_reads_60 rfl ?_
          refine z_get (v := .int (nI p)) 14 zgo_114 rfl inX10 (by decide) zw_1192 rfl rfl dX10_reads_61 ?_
          refine z_iconst (v := nI 1) dX10_reads_64 (by decide) ?_
          refine z_iaddN (a := p) (b := 1) dX10_reads_65 ?_
          refine z_puti 14 tyX10 zgo_114 rfl inX10 tyX10_ok nmX10 (by decide) zw_1192 rfl rfl (by decide +kernel) (Nat.le_of_ble_eq_true rfl) dX10_reads_66 ?_
          refine z_eqh (h2 := (zHp S X (s, past, aside, pasts, txt, typed, thrown, line, need, left, slits, slB, slF, slT, (p + 1), (if p - p0 < 5 then nI 32 * v + txt p - nI 96 else nI 0), got, ans, worst) out)) zsf_114_14 ?_
          refine z_goto (tgt := 10) dX10_reads_69 (by decide) ?_
          refine z_sub [0, 1] (lv' := [(1, .int (nI p0)), (0, .ref 114)]) rfl ?_
          refine z_eqs (lv2 := [(1, .int (nI p0)), (0, .ref 114)]) (h2 := (zHp S X (s, past, aside, pasts, txt, typed, thrown, line, need, left, slits, slB, slF, slT, (p + 1), (if p - p0 < 5 then nI 32 * v + txt p - nI 96 else nI 0), got, ans, worst) out)) (by rfl) (by rfl) ?_
          exact ih10 (p + 1) (if p - p0 < 5 then nI 32 * v + txt p - nI 96 else nI 0) (by omega) (by omega) he2 (by omega) (by omega)
        refine z_aload_n 1 dX10_reads_22 rfl rfl ?_
        refine z_get (v := .int (nI p)) 14 zgo_114 rfl inX10 (by decide) zw_1192 rfl rfl dX10_reads_23 ?_
        refine z_iload_n 0 dX10_reads_26 rfl rfl ?_
        refine z_isubN (a := p) (b := p0) (by omega) dX10_reads_27 ?_
        refine z_iconst (v := nI 5) dX10_reads_28 (by decide) ?_
        refine z_icmp_ge (tgt := 55) dX10_reads_29 (by decide) (fun c_29 => ?_) (fun c_29 => ?_)
        · skip
          have f_29 := m_le (by omega) (by omega) c_29
          refine z_iconst (v := nI 0) dX10_reads_55 (by decide) ?_
          refine z_top (v2 := .int (if p - p0 < 5 then nI 32 * v + txt p - nI 96 else nI 0)) (by first | rw [if_pos f_29] | rw [if_neg (by omega)]) ?_
          exact J56_67
        · skip
          have f_29 := m_nle (by omega) (by omega) c_29
          refine z_bipush (v := nI 32) dX10_reads_32 (by decide) ?_
          refine z_aload_n 1 dX10_reads_34 rfl rfl ?_
          refine z_get (v := .int v) 15 zgo_114 rfl inX10 (by decide) zw_1193 rfl rfl dX10_reads_35 ?_
          refine z_imul dX10_reads_38 ?_
          refine z_aload_n 1 dX10_reads_39 rfl rfl ?_
          refine z_get (v := .ref 118) 4 zgo_114 rfl inX10 (by decide) zw_1182 rfl rfl dX10_reads_40 ?_
          refine z_aload_n 1 dX10_reads_43 rfl rfl ?_
          refine z_get (v := .int (nI p)) 14 zgo_114 rfl inX10 (by decide) zw_1192 rfl rfl dX10_reads_44 ?_
          refine z_ialdN (f := txt) (n := 150) (j := p) zga_118 (by omega) (by decide) dX10_reads_47 ?_
          refine z_iadd dX10_reads_48 ?_
          refine z_bipush (v := nI 96) dX10_reads_49 (by decide) ?_
          refine z_isub dX10_reads_51 ?_
          refine z_goto (tgt := 56) dX10_reads_52 (by decide) ?_
          refine z_top (v2 := .int (if p - p0 < 5 then nI 32 * v + txt p - nI 96 else nI 0)) (by first | rw [if_pos f_29] | rw [if_neg (by omega)]) ?_
          exact J56_67
  refine z_sub [0, 1] (lv' := [(1, .int (nI p0)), (0, .ref 114)]) rfl ?_
  refine z_eqs (lv2 := [(1, .int (nI p0)), (0, .ref 114)]) (h2 := (zHp S X (s, past, aside, pasts, txt, typed, thrown, line, need, left, slits, slB, slF, slT, p0, (nI 0), got, ans, worst) out)) (by rfl) (by rfl) ?_
  exact L10_1 (typed + 1) p0 (nI 0) (by omega) (by omega) rfl (Nat.le_refl _) hat

set_option maxHeartbeats 4000000 in
set_option maxRecDepth 100000 in
theorem m_reads_ok {G : zT} {S : zS} {X : zXr} {out : Nat → Int64} {s : (Nat → Int32)} {past : (Nat → Int32)} {aside : (Nat → Int32)} {pasts : Nat} {txt : (Nat → Int32)} {typed : Nat} {thrown : Int32} {line : (Nat → Int32)} {need : (Nat → Int32)} {left : (Nat → Int32)} {slits : Nat} {slB : (Nat → Int32)} {slF : (Nat → Int32)} {slT : (Nat → Int32)} {p0 : Nat} {wd9 : Int32} {got : (Nat → Int32)} {ans : Int32} {worst : UInt32} (hG : zAl G = false) (h150 : typed ≤ 150) (hat : p0 ≤ typed) (n : Nat) (hmany : rNc (if (rWl txt typed p0 (typed - p0) p0 (nI 0)).1 - p0 < 6 then (rWl txt typed p0 (typed - p0) p0 (nI 0)).2 else nI 0) = some n) : zRun G mX10_reads 0 0 [.ref 114] (zHp S X (s, past, aside, pasts, txt, typed, thrown, line, need, left, slits, slB, slF, slT, p0, wd9, got, ans, worst) out) (.inr (some (.int ((rRdN txt typed n (rWl txt typed p0 (typed - p0) p0 (nI 0)).1 (rWl txt typed p0 (typed - p0) p0 (nI 0)).2 got).1)))) (zHp S X (s, past, aside, pasts, txt, typed, thrown, line, need, left, slits, slB, slF, slT, (rRdN txt typed n (rWl txt typed p0 (typed - p0) p0 (nI 0)).1 (rWl txt typed p0 (typed - p0) p0 (nI 0)).2 got).2.1, (rWl txt typed p0 (typed - p0) p0 (nI 0)).2, (rRdN txt typed n (rWl txt typed p0 (typed - p0) p0 (nI 0)).1 (rWl txt typed p0 (typed - p0) p0 (nI 0)).2 got).2.2.2, ans, worst) out) := by
  have hn5 := rNc_le hmany
  refine zRun_of (by decide +kernel) rfl rfl (Nat.le_of_ble_eq_true rfl) ?_
  suffices hs : ∀ (o9 : zO) (h9 : zH), (Sum.inr (some (.int ((rRdN txt typed n (rWl txt typed p0 (typed - p0) p0 (nI 0)).1 (rWl txt typed p0 (typed - p0) p0 (nI 0)).2 got).1))) : zO) = o9 → (zHp S X (s, past, aside, pasts, txt, typed, thrown, line, need, left, slits, slB, slF, slT, (rRdN txt typed n (rWl txt typed p0 (typed - p0) p0 (nI 0)).1 (rWl txt typed p0 (typed - p0) p0 (nI 0)).2 got).2.1, (rWl txt typed p0 (typed - p0) p0 (nI 0)).2, (rRdN txt typed n (rWl txt typed p0 (typed - p0) p0 (nI 0)).1 (rWl txt typed p0 (typed - p0) p0 (nI 0)).2 got).2.2.2, ans, worst) out) = h9 → zPW G mX10_reads 0 0 o9 h9 0 0 0 [(0, .ref 114)] [] (zHp S X (s, past, aside, pasts, txt, typed, thrown, line, need, left, slits, slB, slF, slT, p0, wd9, got, ans, worst) out) from hs _ _ rfl rfl
  intro o9 h9 ho9 hh9
  refine z_aload_n 0 dX10_reads_0 rfl rfl ?_
  refine z_get (v := .int (nI p0)) 14 zgo_114 rfl inX10 (by decide) zw_1192 rfl rfl dX10_reads_1 ?_
  refine z_istore_n (lv' := [(1, .int (nI p0)), (0, .ref 114)]) dX10_reads_4 rfl (by decide) rfl ?_
  refine z_aload_n 1 dX10_reads_5 rfl rfl ?_
  refine z_iconst (v := nI 0) dX10_reads_6 (by decide) ?_
  refine z_puti 15 tyX10 zgo_114 rfl inX10 tyX10_ok nmX10 (by decide) zw_1193 rfl rfl (by decide +kernel) (Nat.le_of_ble_eq_true rfl) dX10_reads_7 ?_
  refine z_eqh (h2 := (zHp S X (s, past, aside, pasts, txt, typed, thrown, line, need, left, slits, slB, slF, slT, p0, (nI 0), got, ans, worst) out)) zsf_114_15 ?_
  have L10_1 : ∀ (d p : Nat) (v : Int32), p ≤ typed → typed + 1 ≤ p + d → (rWl txt typed p0 (typed - p0) p0 (nI 0)) = rWl txt typed p0 (typed - p) p v → p0 ≤ p → p ≤ typed → zPW G mX10_reads 0 0 o9 h9 0 0 10 [(1, .int (nI p0)), (0, .ref 114)] [] (zHp S X (s, past, aside, pasts, txt, typed, thrown, line, need, left, slits, slB, slF, slT, p, v, got, ans, worst) out) := by
    intro d
    induction d with
    | zero => intro p v hk hd; exact absurd hd (by omega)
    | succ d ih =>
      intro p v hk_p hd_p he_p hge_p hle_p
      have ih10 := ih
      clear ih
      refine z_aload_n 1 dX10_reads_10 rfl rfl ?_
      refine z_bipush (v := nI 97) dX10_reads_11 (by decide) ?_
      refine z_bipush (v := nI 122) dX10_reads_13 (by decide) ?_
      refine z_callV (N := mX10_isAt) 2 [.int (nI 97), .int (nI 122)] [] lX10_isAt ⟨zw_1595, zw_1597, zw_102⟩ rfl zgo_114 rfl rfl (Nat.le_of_ble_eq_true rfl) (by decide) ⟨zlt, zlt⟩ ⟨Nat.zero_le _, Nat.zero_le _⟩ (fun _ => rfl) (m_isAt hG h150 (by omega) (nI 97) (nI 122) (by decide)) dX10_reads_15 ?_
      refine z_if_eq (tgt := 72) dX10_reads_18 (by decide) (fun c_18 => ?_) (fun c_18 => ?_)
      · skip
        have b_18 := zB_0.mp c_18
        have he2 : (rWl txt typed p0 (typed - p0) p0 (nI 0)) = (p, v) := he_p.trans (rWl_e b_18)
        have hp2 : p = (rWl txt typed p0 (typed - p0) p0 (nI 0)).1 := by rw [he2]
        have hv2 : v = (rWl txt typed p0 (typed - p0) p0 (nI 0)).2 := by rw [he2]
        clear ih10 he2 he_p hd_p hk_p b_18 c_18
        subst hp2
        subst hv2
        have J91_35 : zPW G mX10_reads 0 0 o9 h9 0 0 91 [(1, .int (nI p0)), (0, .ref 114)] [.int (if (rWl txt typed p0 (typed - p0) p0 (nI 0)).1 - p0 < 6 then (rWl txt typed p0 (typed - p0) p0 (nI 0)).2 else nI 0)] (zHp S X (s, past, aside, pasts, txt, typed, thrown, line, need, left, slits, slB, slF, slT, (rWl txt typed p0 (typed - p0) p0 (nI 0)).1, (rWl txt typed p0 (typed - p0) p0 (nI 0)).2, got, ans, worst) out) := by
          refine z_callS (N := mX10_numbers) 1 [.int (if (rWl txt typed p0 (typed - p0) p0 (nI 0)).1 - p0 < 6 then (rWl txt typed p0 (typed - p0) p0 (nI 0)).2 else nI 0)] [] lX10_numbers ⟨zw_1603, zw_1604⟩ rfl rfl rfl (Nat.le_of_ble_eq_true rfl) (by decide) ⟨zlt, zlt⟩ hG ⟨Nat.zero_le _, Nat.zero_le _⟩ (m_numbers hG (if (rWl txt typed p0 (typed - p0) p0 (nI 0)).1 - p0 < 6 then (rWl txt typed p0 (typed - p0) p0 (nI 0)).2 else nI 0)) dX10_reads_91 ?_
          refine z_top (v2 := .int (nI n)) (by show Value.int (rNb _) = _; unfold rNb; rw [hmany]) ?_
          refine z_istore_n (lv' := [(2, .int (nI n)), (1, .int (nI p0)), (0, .ref 114)]) dX10_reads_94 rfl (by decide) rfl ?_
          refine z_iload_n 0 dX10_reads_95 rfl rfl ?_
          refine z_if_ge (tgt := 101) dX10_reads_96 (by decide) (fun c_96 => ?_) (fun c_96 => ?_)
          · skip
            refine z_iconst (v := nI 0) dX10_reads_101 (by decide) ?_
            refine z_istore_n (lv' := [(3, .int (nI 0)), (2, .int (nI n)), (1, .int (nI p0)), (0, .ref 114)]) dX10_reads_102 rfl (by decide) rfl ?_
            have L103_2 : ∀ (d k : Nat) (p9 : Nat) (g9 : Nat → Int32), k ≤ n → n + 1 ≤ k + d → rNr txt typed n 0 (rWl txt typed p0 (typed - p0) p0 (nI 0)).1 got = rNr txt typed (n - k) k p9 g9 → p9 ≤ typed → zPW G mX10_reads 0 0 o9 h9 0 0 103 [(3, .int (nI k)), (2, .int (nI n)), (1, .int (nI p0)), (0, .ref 114)] [] (zHp S X (s, past, aside, pasts, txt, typed, thrown, line, need, left, slits, slB, slF, slT, p9, (rWl txt typed p0 (typed - p0) p0 (nI 0)).2, g9, ans, worst) out) := by
              intro d
              induction d with
              | zero => intro k p9 g9 hk hd; exact absurd hd (by omega)
              | succ d ih =>
                intro k p9 g9 hk_k hd_k he_k hle_k
                have ih103 := ih
                clear ih
                refine z_iload_n 0 dX10_reads_103 rfl rfl ?_
                refine z_iload_n 1 dX10_reads_104 rfl rfl ?_
                refine z_icmp_ge (tgt := 225) dX10_reads_105 (by decide) (fun c_105 => ?_) (fun c_105 => ?_)
                · skip
                  have f_105 := m_le (by omega) (by omega) c_105
                  have e_k : k = n := by omega
                  rw [e_k]
                  have heN : rNr txt typed n 0 (rWl txt typed p0 (typed - p0) p0 (nI 0)).1 got = (true, p9, g9) := by
                    rw [he_k, show n - k = 0 by omega]
                    rfl
                  have hz9 := zPs_le (txt := txt) hle_k
                  refine z_aload_n 3 dX10_reads_225 rfl rfl ?_
                  refine z_callV (N := mX10_passes) 0 [] [] lX10_passes ⟨zw_1591, zw_1593, zw_101⟩ rfl zgo_114 rfl rfl (Nat.le_of_ble_eq_true rfl) (by decide) ⟨zlt, zlt⟩ ⟨Nat.zero_le _, Nat.zero_le _⟩ zal (m_passes hG h150 (by omega)) dX10_reads_226 ?_
                  refine z_aload_n 3 dX10_reads_229 rfl rfl ?_
                  refine z_bipush (v := nI 59) dX10_reads_230 (by decide) ?_
                  refine z_bipush (v := nI 59) dX10_reads_232 (by decide) ?_
                  refine z_callV (N := mX10_isAt) 2 [.int (nI 59), .int (nI 59)] [] lX10_isAt ⟨zw_1595, zw_1597, zw_102⟩ rfl zgo_114 rfl rfl (Nat.le_of_ble_eq_true rfl) (by decide) ⟨zlt, zlt⟩ ⟨Nat.zero_le _, Nat.zero_le _⟩ (fun _ => rfl) (m_isAt hG h150 (by omega) (nI 59) (nI 59) (by decide)) dX10_reads_234 ?_
                  refine z_if_ne (tgt := 245) dX10_reads_237 (by decide) (fun c_237 => ?_) (fun c_237 => ?_)
                  · skip
                    have b_237 := zB_tt c_237
                    refine z_aload_n 3 dX10_reads_245 rfl rfl ?_
                    refine z_dup dX10_reads_246 rfl ?_
                    refine z_get (v := .int (nI (zPs txt typed p9))) 14 zgo_114 rfl inX10 (by decide) zw_1192 rfl rfl dX10_reads_247 ?_
                    refine z_iconst (v := nI 1) dX10_reads_250 (by decide) ?_
                    refine z_iaddN (a := zPs txt typed p9) (b := 1) dX10_reads_251 ?_
                    refine z_puti 14 tyX10 zgo_114 rfl inX10 tyX10_ok nmX10 (by decide) zw_1192 rfl rfl (by decide +kernel) (Nat.le_of_ble_eq_true rfl) dX10_reads_252 ?_
                    refine z_eqh (h2 := (zHp S X (s, past, aside, pasts, txt, typed, thrown, line, need, left, slits, slB, slF, slT, (zPs txt typed p9 + 1), (rWl txt typed p0 (typed - p0) p0 (nI 0)).2, g9, ans, worst) out)) zsf_114_14 ?_
                    refine z_iconst (v := (-1)) dX10_reads_255 (by decide) ?_
                    exact z_iret rfl dX10_reads_256 (zo_i ho9 (by rw [rRdN_t heN b_237])) (zo_h hh9 (by rw [rRdN_t heN b_237])) (Nat.zero_le _) (Nat.zero_le _)
                  · skip
                    have b_237 := zB_0.mp c_237
                    refine z_aload_n 3 dX10_reads_240 rfl rfl ?_
                    refine z_get (v := .int (nI (zPs txt typed p9))) 14 zgo_114 rfl inX10 (by decide) zw_1192 rfl rfl dX10_reads_241 ?_
                    exact z_iret rfl dX10_reads_244 (zo_i ho9 (by rw [rRdN_n heN b_237])) (zo_h hh9 (by rw [rRdN_n heN b_237])) (Nat.zero_le _) (Nat.zero_le _)
                · skip
                  have f_105 := m_nle (by omega) (by omega) c_105
                  have hz9 := zPs_le (txt := txt) hle_k
                  refine z_aload_n 3 dX10_reads_108 rfl rfl ?_
                  refine z_get (v := .int (nI p9)) 14 zgo_114 rfl inX10 (by decide) zw_1192 rfl rfl dX10_reads_109 ?_
                  refine z_istore (lv' := [(4, .int (nI p9)), (3, .int (nI k)), (2, .int (nI n)), (1, .int (nI p0)), (0, .ref 114)]) dX10_reads_112 (by decide) rfl ?_
                  refine z_aload_n 4 dX10_reads_114 rfl rfl ?_
                  refine z_callV (N := mX10_passes) 0 [] [] lX10_passes ⟨zw_1591, zw_1593, zw_101⟩ rfl zgo_114 rfl rfl (Nat.le_of_ble_eq_true rfl) (by decide) ⟨zlt, zlt⟩ ⟨Nat.zero_le _, Nat.zero_le _⟩ zal (m_passes hG h150 (by omega)) dX10_reads_115 ?_
                  refine z_aload_n 4 dX10_reads_118 rfl rfl ?_
                  refine z_get (v := .int (nI (zPs txt typed p9))) 14 zgo_114 rfl inX10 (by decide) zw_1192 rfl rfl dX10_reads_119 ?_
                  refine z_iload 0 dX10_reads_122 rfl ?_
                  refine z_icmp_eq (tgt := 138) dX10_reads_124 (by decide) (fun c_124 => ?_) (fun c_124 => ?_)
                  · skip
                    have f_124 := m_eq (by omega) (by omega) c_124
                    have heN : rNr txt typed n 0 (rWl txt typed p0 (typed - p0) p0 (nI 0)).1 got = (false, (zPs txt typed p9), g9) := by
                      rw [he_k, show n - k = n - (k + 1) + 1 by omega]
                      exact if_pos f_124
                    refine z_aload_n 4 dX10_reads_138 rfl rfl ?_
                    refine z_get (v := .int (nI (zPs txt typed p9))) 14 zgo_114 rfl inX10 (by decide) zw_1192 rfl rfl dX10_reads_139 ?_
                    exact z_iret rfl dX10_reads_142 (zo_i ho9 (by rw [rRdN_f heN])) (zo_h hh9 (by rw [rRdN_f heN])) (Nat.zero_le _) (Nat.zero_le _)
                  · skip
                    have f_124 := m_ne (by omega) (by omega) c_124
                    refine z_aload_n 4 dX10_reads_127 rfl rfl ?_
                    refine z_bipush (v := nI 48) dX10_reads_128 (by decide) ?_
                    refine z_bipush (v := nI 57) dX10_reads_130 (by decide) ?_
                    refine z_callV (N := mX10_isAt) 2 [.int (nI 48), .int (nI 57)] [] lX10_isAt ⟨zw_1595, zw_1597, zw_102⟩ rfl zgo_114 rfl rfl (Nat.le_of_ble_eq_true rfl) (by decide) ⟨zlt, zlt⟩ ⟨Nat.zero_le _, Nat.zero_le _⟩ (fun _ => rfl) (m_isAt hG h150 (by omega) (nI 48) (nI 57) (by decide)) dX10_reads_132 ?_
                    refine z_if_ne (tgt := 143) dX10_reads_135 (by decide) (fun c_135 => ?_) (fun c_135 => ?_)
                    · skip
                      have b_135 := zB_tt c_135
                      have heS : rNr txt typed (n - k) k p9 g9 = rNr txt typed (n - (k + 1)) (k + 1) (rDg txt typed 3 (zPs txt typed p9) (nI 0)).1 (upd g9 k (rDg txt typed 3 (zPs txt typed p9) (nI 0)).2) := by
                        rw [show n - k = n - (k + 1) + 1 by omega]
                        exact (if_neg f_124).trans (if_pos b_135)
                      refine z_aload_n 4 dX10_reads_143 rfl rfl ?_
                      refine z_get (v := .ref 125) 16 zgo_114 rfl inX10 (by decide) zw_1194 rfl rfl dX10_reads_144 ?_
                      refine z_iload_n 1 dX10_reads_147 rfl rfl ?_
                      refine z_iconst (v := nI 0) dX10_reads_148 (by decide) ?_
                      refine z_iastN (f := g9) (n := 5) (j := k) zga_125 (by omega) (by decide) dX10_reads_149 ?_
                      refine z_eqh (h2 := (zHp S X (s, past, aside, pasts, txt, typed, thrown, line, need, left, slits, slB, slF, slT, (zPs txt typed p9), (rWl txt typed p0 (typed - p0) p0 (nI 0)).2, (upd g9 k (nI 0)), ans, worst) out)) zsa_125 ?_
                      refine z_aload_n 4 dX10_reads_150 rfl rfl ?_
                      refine z_get (v := .int (nI (zPs txt typed p9))) 14 zgo_114 rfl inX10 (by decide) zw_1192 rfl rfl dX10_reads_151 ?_
                      refine z_istore (lv' := [(5, .int (nI (zPs txt typed p9))), (4, .int (nI p9)), (3, .int (nI k)), (2, .int (nI n)), (1, .int (nI p0)), (0, .ref 114)]) dX10_reads_154 (by decide) rfl ?_
                      have L156_3 : ∀ (d m : Nat) (v9 : Int32), m ≤ 3 → 3 + 1 ≤ m + d → rDg txt typed 3 (zPs txt typed p9) (nI 0) = rDg txt typed (3 - m) ((zPs txt typed p9) + m) v9 → (zPs txt typed p9) + m ≤ typed → zPW G mX10_reads 0 0 o9 h9 0 0 156 [(5, .int (nI (zPs txt typed p9))), (4, .int (nI p9)), (3, .int (nI k)), (2, .int (nI n)), (1, .int (nI p0)), (0, .ref 114)] [] (zHp S X (s, past, aside, pasts, txt, typed, thrown, line, need, left, slits, slB, slF, slT, ((zPs txt typed p9) + m), (rWl txt typed p0 (typed - p0) p0 (nI 0)).2, (upd g9 k v9), ans, worst) out) := by
                        intro d
                        induction d with
                        | zero => intro m v9 hk hd; exact absurd hd (by omega)
                        | succ d ih =>
                          intro m v9 hk_m hd_m he_m hle_m
                          have ih156 := ih
                          clear ih
                          refine z_aload_n 5 dX10_reads_156 rfl rfl ?_
                          refine z_get (v := .int (nI ((zPs txt typed p9) + m))) 14 zgo_114 rfl inX10 (by decide) zw_1192 rfl rfl dX10_reads_157 ?_
                          refine z_iload 0 dX10_reads_160 rfl ?_
                          refine z_iconst (v := nI 3) dX10_reads_162 (by decide) ?_
                          refine z_iaddN (a := zPs txt typed p9) (b := 3) dX10_reads_163 ?_
                          refine z_icmp_ge (tgt := 219) dX10_reads_164 (by decide) (fun c_164 => ?_) (fun c_164 => ?_)
                          · skip
                            have f_164 := m_le (by omega) (by omega) c_164
                            have e9 : m = 3 := by omega
                            have he9 : rNr txt typed n 0 (rWl txt typed p0 (typed - p0) p0 (nI 0)).1 got = rNr txt typed (n - (k + 1)) (k + 1) ((zPs txt typed p9) + m) (upd g9 k v9) := by
                              rw [he_k, heS, he_m, e9]
                              rfl
                            have hle9 : (zPs txt typed p9) + m ≤ typed := hle_m
                            refine z_iinc (v := nI (k + 1)) (lv' := [(3, .int (nI (k + 1))), (5, .int (nI (zPs txt typed p9))), (4, .int (nI p9)), (2, .int (nI n)), (1, .int (nI p0)), (0, .ref 114)]) 2 dX10_reads_219 rfl (nI_1 _) (by decide) rfl ?_
                            refine z_goto (tgt := 103) dX10_reads_222 (by decide) ?_
                            refine z_sub [0, 3, 4, 5] (lv' := [(3, .int (nI (k + 1))), (2, .int (nI n)), (1, .int (nI p0)), (0, .ref 114)]) rfl ?_
                            refine z_eqs (lv2 := [(3, .int (nI ((k + 1)))), (2, .int (nI n)), (1, .int (nI p0)), (0, .ref 114)]) (h2 := (zHp S X (s, past, aside, pasts, txt, typed, thrown, line, need, left, slits, slB, slF, slT, ((zPs txt typed p9) + m), (rWl txt typed p0 (typed - p0) p0 (nI 0)).2, (upd g9 k v9), ans, worst) out)) (by rfl) (by rfl) ?_
                            exact ih103 (k + 1) ((zPs txt typed p9) + m) (upd g9 k v9) (by omega) (by omega) he9 hle9
                          · skip
                            have f_164 := m_nle (by omega) (by omega) c_164
                            refine z_aload_n 5 dX10_reads_167 rfl rfl ?_
                            refine z_bipush (v := nI 48) dX10_reads_168 (by decide) ?_
                            refine z_bipush (v := nI 57) dX10_reads_170 (by decide) ?_
                            refine z_callV (N := mX10_isAt) 2 [.int (nI 48), .int (nI 57)] [] lX10_isAt ⟨zw_1595, zw_1597, zw_102⟩ rfl zgo_114 rfl rfl (Nat.le_of_ble_eq_true rfl) (by decide) ⟨zlt, zlt⟩ ⟨Nat.zero_le _, Nat.zero_le _⟩ (fun _ => rfl) (m_isAt hG h150 (by omega) (nI 48) (nI 57) (by decide)) dX10_reads_172 ?_
                            refine z_if_eq (tgt := 219) dX10_reads_175 (by decide) (fun c_175 => ?_) (fun c_175 => ?_)
                            · skip
                              have b_175 := zB_0.mp c_175
                              have he9 : rNr txt typed n 0 (rWl txt typed p0 (typed - p0) p0 (nI 0)).1 got = rNr txt typed (n - (k + 1)) (k + 1) ((zPs txt typed p9) + m) (upd g9 k v9) := by
                                rw [he_k, heS, he_m, show rDg txt typed (3 - m) ((zPs txt typed p9) + m) v9 = ((zPs txt typed p9) + m, v9) by
                                  rw [show 3 - m = 3 - (m + 1) + 1 by omega]
                                  exact if_neg (by rw [b_175]; decide)]
                              have hle9 : (zPs txt typed p9) + m ≤ typed := hle_m
                              refine z_iinc (v := nI (k + 1)) (lv' := [(3, .int (nI (k + 1))), (5, .int (nI (zPs txt typed p9))), (4, .int (nI p9)), (2, .int (nI n)), (1, .int (nI p0)), (0, .ref 114)]) 2 dX10_reads_219 rfl (nI_1 _) (by decide) rfl ?_
                              refine z_goto (tgt := 103) dX10_reads_222 (by decide) ?_
                              refine z_sub [0, 3, 4, 5] (lv' := [(3, .int (nI (k + 1))), (2, .int (nI n)), (1, .int (nI p0)), (0, .ref 114)]) rfl ?_
                              refine z_eqs (lv2 := [(3, .int (nI ((k + 1)))), (2, .int (nI n)), (1, .int (nI p0)), (0, .ref 114)]) (h2 := (zHp S X (s, past, aside, pasts, txt, typed, thrown, line, need, left, slits, slB, slF, slT, ((zPs txt typed p9) + m), (rWl txt typed p0 (typed - p0) p0 (nI 0)).2, (upd g9 k v9), ans, worst) out)) (by rfl) (by rfl) ?_
                              exact ih103 (k + 1) ((zPs txt typed p9) + m) (upd g9 k v9) (by omega) (by omega) he9 hle9
                            · skip
                              have b_175 := zB_tt c_175
                              have q1 := (rTbl (by decide) b_175).1
                              have he2 : rDg txt typed 3 (zPs txt typed p9) (nI 0) = rDg txt typed (3 - (m + 1)) ((zPs txt typed p9) + m + 1) (nI 10 * v9 + txt ((zPs txt typed p9) + m) - nI 48) := by
                                rw [he_m, show 3 - m = 3 - (m + 1) + 1 by omega]
                                exact if_pos b_175
                              refine z_aload_n 5 dX10_reads_178 rfl rfl ?_
                              refine z_get (v := .ref 125) 16 zgo_114 rfl inX10 (by decide) zw_1194 rfl rfl dX10_reads_179 ?_
                              refine z_iload_n 2 dX10_reads_182 rfl rfl ?_
                              refine z_bipush (v := nI 10) dX10_reads_183 (by decide) ?_
                              refine z_aload_n 5 dX10_reads_185 rfl rfl ?_
                              refine z_get (v := .ref 125) 16 zgo_114 rfl inX10 (by decide) zw_1194 rfl rfl dX10_reads_186 ?_
                              refine z_iload_n 2 dX10_reads_189 rfl rfl ?_
                              refine z_ialdN (f := (upd g9 k v9)) (n := 5) (j := k) zga_125 (by omega) (by decide) dX10_reads_190 ?_
                              refine z_top (v2 := .int v9) (by exact congrArg Value.int (if_pos rfl)) ?_
                              refine z_imul dX10_reads_191 ?_
                              refine z_aload_n 5 dX10_reads_192 rfl rfl ?_
                              refine z_get (v := .ref 118) 4 zgo_114 rfl inX10 (by decide) zw_1182 rfl rfl dX10_reads_193 ?_
                              refine z_aload_n 5 dX10_reads_196 rfl rfl ?_
                              refine z_get (v := .int (nI ((zPs txt typed p9) + m))) 14 zgo_114 rfl inX10 (by decide) zw_1192 rfl rfl dX10_reads_197 ?_
                              refine z_ialdN (f := txt) (n := 150) (j := (zPs txt typed p9) + m) zga_118 (by omega) (by decide) dX10_reads_200 ?_
                              refine z_iadd dX10_reads_201 ?_
                              refine z_bipush (v := nI 48) dX10_reads_202 (by decide) ?_
                              refine z_isub dX10_reads_204 ?_
                              refine z_iastN (f := (upd g9 k v9)) (n := 5) (j := k) zga_125 (by omega) (by decide) dX10_reads_205 ?_
                              refine z_eqh (h2 := (zHp S X (s, past, aside, pasts, txt, typed, thrown, line, need, left, slits, slB, slF, slT, ((zPs txt typed p9) + m), (rWl txt typed p0 (typed - p0) p0 (nI 0)).2, (upd (upd g9 k v9) k ((((nI 10) * v9) + (txt ((zPs txt typed p9) + m))) - (nI 48))), ans, worst) out)) zsa_125 ?_
                              refine z_eqh (h2 := (zHp S X (s, past, aside, pasts, txt, typed, thrown, line, need, left, slits, slB, slF, slT, ((zPs txt typed p9) + m), (rWl txt typed p0 (typed - p0) p0 (nI 0)).2, (upd g9 k ((((nI 10) * v9) + (txt ((zPs txt typed p9) + m))) - (nI 48))), ans, worst) out)) (by rw [upd_upd]) ?_
                              refine z_aload_n 5 dX10_reads_206 rfl rfl ?_
                              refine z_dup dX10_reads_207 rfl ?_
                              refine z_get (v := .int (nI ((zPs txt typed p9) + m))) 14 zgo_114 rfl inX10 (by decide) zw_1192 rfl rfl dX10_reads_208 ?_
                              refine z_iconst (v := nI 1) dX10_reads_211 (by decide) ?_
                              refine z_iaddN (a := (zPs txt typed p9) + m) (b := 1) dX10_reads_212 ?_
                              refine z_puti 14 tyX10 zgo_114 rfl inX10 tyX10_ok nmX10 (by decide) zw_1192 rfl rfl (by decide +kernel) (Nat.le_of_ble_eq_true rfl) dX10_reads_213 ?_
                              refine z_eqh (h2 := (zHp S X (s, past, aside, pasts, txt, typed, thrown, line, need, left, slits, slB, slF, slT, ((zPs txt typed p9) + m + 1), (rWl txt typed p0 (typed - p0) p0 (nI 0)).2, (upd g9 k ((((nI 10) * v9) + (txt ((zPs txt typed p9) + m))) - (nI 48))), ans, worst) out)) zsf_114_14 ?_
                              refine z_goto (tgt := 156) dX10_reads_216 (by decide) ?_
                              refine z_sub [0, 1, 2, 3, 4, 5] (lv' := [(5, .int (nI (zPs txt typed p9))), (4, .int (nI p9)), (3, .int (nI k)), (2, .int (nI n)), (1, .int (nI p0)), (0, .ref 114)]) rfl ?_
                              refine z_eqs (lv2 := [(5, .int (nI (zPs txt typed p9))), (4, .int (nI p9)), (3, .int (nI k)), (2, .int (nI n)), (1, .int (nI p0)), (0, .ref 114)]) (h2 := (zHp S X (s, past, aside, pasts, txt, typed, thrown, line, need, left, slits, slB, slF, slT, ((zPs txt typed p9) + (m + 1)), (rWl txt typed p0 (typed - p0) p0 (nI 0)).2, (upd g9 k ((((nI 10) * v9) + (txt ((zPs txt typed p9) + m))) - (nI 48))), ans, worst) out)) (by rfl) (by rfl) ?_
                              exact ih156 (m + 1) ((((nI 10) * v9) + (txt ((zPs txt typed p9) + m))) - (nI 48)) (by omega) (by omega) he2 (by omega)
                      refine z_sub [0, 1, 2, 3, 4, 5] (lv' := [(5, .int (nI (zPs txt typed p9))), (4, .int (nI p9)), (3, .int (nI k)), (2, .int (nI n)), (1, .int (nI p0)), (0, .ref 114)]) rfl ?_
                      refine z_eqs (lv2 := [(5, .int (nI (zPs txt typed p9))), (4, .int (nI p9)), (3, .int (nI k)), (2, .int (nI n)), (1, .int (nI p0)), (0, .ref 114)]) (h2 := (zHp S X (s, past, aside, pasts, txt, typed, thrown, line, need, left, slits, slB, slF, slT, ((zPs txt typed p9) + 0), (rWl txt typed p0 (typed - p0) p0 (nI 0)).2, (upd g9 k (nI 0)), ans, worst) out)) (by rfl) (by rfl) ?_
                      exact L156_3 (3 + 1) 0 (nI 0) (by omega) (by omega) rfl (by omega)
                    · skip
                      have b_135 := zB_0.mp c_135
                      have heN : rNr txt typed n 0 (rWl txt typed p0 (typed - p0) p0 (nI 0)).1 got = (false, (zPs txt typed p9), g9) := by
                        rw [he_k, show n - k = n - (k + 1) + 1 by omega]
                        exact (if_neg f_124).trans (if_neg (by rw [b_135]; decide))
                      refine z_aload_n 4 dX10_reads_138 rfl rfl ?_
                      refine z_get (v := .int (nI (zPs txt typed p9))) 14 zgo_114 rfl inX10 (by decide) zw_1192 rfl rfl dX10_reads_139 ?_
                      exact z_iret rfl dX10_reads_142 (zo_i ho9 (by rw [rRdN_f heN])) (zo_h hh9 (by rw [rRdN_f heN])) (Nat.zero_le _) (Nat.zero_le _)
            refine z_sub [0, 1, 2, 3] (lv' := [(3, .int (nI 0)), (2, .int (nI n)), (1, .int (nI p0)), (0, .ref 114)]) rfl ?_
            refine z_eqs (lv2 := [(3, .int (nI 0)), (2, .int (nI n)), (1, .int (nI p0)), (0, .ref 114)]) (h2 := (zHp S X (s, past, aside, pasts, txt, typed, thrown, line, need, left, slits, slB, slF, slT, (rWl txt typed p0 (typed - p0) p0 (nI 0)).1, (rWl txt typed p0 (typed - p0) p0 (nI 0)).2, got, ans, worst) out)) (by rfl) (by rfl) ?_
            exact L103_2 (n + 1) 0 ((rWl txt typed p0 (typed - p0) p0 (nI 0)).1) got (by omega) (by omega) rfl (by omega)
          · exfalso; exact c_96 (nI_pos' (by omega))
        refine z_aload_n 1 dX10_reads_72 rfl rfl ?_
        refine z_get (v := .int (nI ((rWl txt typed p0 (typed - p0) p0 (nI 0)).1))) 14 zgo_114 rfl inX10 (by decide) zw_1192 rfl rfl dX10_reads_73 ?_
        refine z_iload_n 0 dX10_reads_76 rfl rfl ?_
        refine z_isubN (a := (rWl txt typed p0 (typed - p0) p0 (nI 0)).1) (b := p0) (by omega) dX10_reads_77 ?_
        refine z_bipush (v := nI 6) dX10_reads_78 (by decide) ?_
        refine z_icmp_ge (tgt := 90) dX10_reads_80 (by decide) (fun c_80 => ?_) (fun c_80 => ?_)
        · skip
          have f_80 := m_le (by omega) (by omega) c_80
          refine z_iconst (v := nI 0) dX10_reads_90 (by decide) ?_
          refine z_top (v2 := .int (if (rWl txt typed p0 (typed - p0) p0 (nI 0)).1 - p0 < 6 then (rWl txt typed p0 (typed - p0) p0 (nI 0)).2 else nI 0)) (by first | rw [if_pos f_80] | rw [if_neg (by omega)]) ?_
          exact J91_35
        · skip
          have f_80 := m_nle (by omega) (by omega) c_80
          refine z_aload_n 1 dX10_reads_83 rfl rfl ?_
          refine z_get (v := .int ((rWl txt typed p0 (typed - p0) p0 (nI 0)).2)) 15 zgo_114 rfl inX10 (by decide) zw_1193 rfl rfl dX10_reads_84 ?_
          refine z_goto (tgt := 91) dX10_reads_87 (by decide) ?_
          refine z_top (v2 := .int (if (rWl txt typed p0 (typed - p0) p0 (nI 0)).1 - p0 < 6 then (rWl txt typed p0 (typed - p0) p0 (nI 0)).2 else nI 0)) (by first | rw [if_pos f_80] | rw [if_neg (by omega)]) ?_
          exact J91_35
      · skip
        have b_18 := zB_tt c_18
        have q1 := (rTbl (by decide) b_18).1
        have he2 := he_p.trans (rWl_s b_18)
        refine z_aload_n 1 dX10_reads_21 rfl rfl ?_
        have J56_248 : zPW G mX10_reads 0 0 o9 h9 0 0 56 [(1, .int (nI p0)), (0, .ref 114)] [.int (if p - p0 < 5 then nI 32 * v + txt p - nI 96 else nI 0), .ref 114] (zHp S X (s, past, aside, pasts, txt, typed, thrown, line, need, left, slits, slB, slF, slT, p, v, got, ans, worst) out) := by
          refine z_puti 15 tyX10 zgo_114 rfl inX10 tyX10_ok nmX10 (by decide) zw_1193 rfl rfl (by decide +kernel) (Nat.le_of_ble_eq_true rfl) dX10_reads_56 ?_
          refine z_eqh (h2 := (zHp S X (s, past, aside, pasts, txt, typed, thrown, line, need, left, slits, slB, slF, slT, p, (if p - p0 < 5 then nI 32 * v + txt p - nI 96 else nI 0), got, ans, worst) out)) zsf_114_15 ?_
          refine z_aload_n 1 dX10_reads_59 rfl rfl ?_
          refine z_dup dX10_reads_60 rfl ?_
          refine z_get (v := .int (nI p)) 14 zgo_114 rfl inX10 (by decide) zw_1192 rfl rfl dX10_reads_61 ?_
          refine z_iconst (v := nI 1) dX10_reads_64 (by decide) ?_
          refine z_iaddN (a := p) (b := 1) dX10_reads_65 ?_
          refine z_puti 14 tyX10 zgo_114 rfl inX10 tyX10_ok nmX10 (by decide) zw_1192 rfl rfl (by decide +kernel) (Nat.le_of_ble_eq_true rfl) dX10_reads_66 ?_
          refine z_eqh (h2 := (zHp S X (s, past, aside, pasts, txt, typed, thrown, line, need, left, slits, slB, slF, slT, (p + 1), (if p - p0 < 5 then nI 32 * v + txt p - nI 96 else nI 0), got, ans, worst) out)) zsf_114_14 ?_
          refine z_goto (tgt := 10) dX10_reads_69 (by decide) ?_
          refine z_sub [0, 1] (lv' := [(1, .int (nI p0)), (0, .ref 114)]) rfl ?_
          refine z_eqs (lv2 := [(1, .int (nI p0)), (0, .ref 114)]) (h2 := (zHp S X (s, past, aside, pasts, txt, typed, thrown, line, need, left, slits, slB, slF, slT, (p + 1), (if p - p0 < 5 then nI 32 * v + txt p - nI 96 else nI 0), got, ans, worst) out)) (by rfl) (by rfl) ?_
          exact ih10 (p + 1) (if p - p0 < 5 then nI 32 * v + txt p - nI 96 else nI 0) (by omega) (by omega) he2 (by omega) (by omega)
        refine z_aload_n 1 dX10_reads_22 rfl rfl ?_
        refine z_get (v := .int (nI p)) 14 zgo_114 rfl inX10 (by decide) zw_1192 rfl rfl dX10_reads_23 ?_
        refine z_iload_n 0 dX10_reads_26 rfl rfl ?_
        refine z_isubN (a := p) (b := p0) (by omega) dX10_reads_27 ?_
        refine z_iconst (v := nI 5) dX10_reads_28 (by decide) ?_
        refine z_icmp_ge (tgt := 55) dX10_reads_29 (by decide) (fun c_29 => ?_) (fun c_29 => ?_)
        · skip
          have f_29 := m_le (by omega) (by omega) c_29
          refine z_iconst (v := nI 0) dX10_reads_55 (by decide) ?_
          refine z_top (v2 := .int (if p - p0 < 5 then nI 32 * v + txt p - nI 96 else nI 0)) (by first | rw [if_pos f_29] | rw [if_neg (by omega)]) ?_
          exact J56_248
        · skip
          have f_29 := m_nle (by omega) (by omega) c_29
          refine z_bipush (v := nI 32) dX10_reads_32 (by decide) ?_
          refine z_aload_n 1 dX10_reads_34 rfl rfl ?_
          refine z_get (v := .int v) 15 zgo_114 rfl inX10 (by decide) zw_1193 rfl rfl dX10_reads_35 ?_
          refine z_imul dX10_reads_38 ?_
          refine z_aload_n 1 dX10_reads_39 rfl rfl ?_
          refine z_get (v := .ref 118) 4 zgo_114 rfl inX10 (by decide) zw_1182 rfl rfl dX10_reads_40 ?_
          refine z_aload_n 1 dX10_reads_43 rfl rfl ?_
          refine z_get (v := .int (nI p)) 14 zgo_114 rfl inX10 (by decide) zw_1192 rfl rfl dX10_reads_44 ?_
          refine z_ialdN (f := txt) (n := 150) (j := p) zga_118 (by omega) (by decide) dX10_reads_47 ?_
          refine z_iadd dX10_reads_48 ?_
          refine z_bipush (v := nI 96) dX10_reads_49 (by decide) ?_
          refine z_isub dX10_reads_51 ?_
          refine z_goto (tgt := 56) dX10_reads_52 (by decide) ?_
          refine z_top (v2 := .int (if p - p0 < 5 then nI 32 * v + txt p - nI 96 else nI 0)) (by first | rw [if_pos f_29] | rw [if_neg (by omega)]) ?_
          exact J56_248
  refine z_sub [0, 1] (lv' := [(1, .int (nI p0)), (0, .ref 114)]) rfl ?_
  refine z_eqs (lv2 := [(1, .int (nI p0)), (0, .ref 114)]) (h2 := (zHp S X (s, past, aside, pasts, txt, typed, thrown, line, need, left, slits, slB, slF, slT, p0, (nI 0), got, ans, worst) out)) (by rfl) (by rfl) ?_
  exact L10_1 (typed + 1) p0 (nI 0) (by omega) (by omega) rfl (Nat.le_refl _) hat

