theorem zMd_upd {s : Nat → Int32} {c r w cnt lim j : Nat} {x : Int32} (h : zMd s c r w cnt lim) (hj : 5 ≤ j) : zMd (upd s j x) c r w cnt lim := by
  obtain ⟨h0, h1, h2, h3, h4, h⟩ := h
  unfold zMd upd
  exact ⟨by rw [if_neg (by omega), h0], by rw [if_neg (by omega), h1], by rw [if_neg (by omega), h2], by rw [if_neg (by omega), h3], by rw [if_neg (by omega), h4], h⟩
theorem rIx_lo {l : Int32} {t : Nat} (h : l = -1 ∨ ∃ j, j < 16 ∧ l = nI j) (ht : t ≤ 3) : 3 + t ≤ rIx l t := by
  rcases h with rfl | ⟨j, hj, rfl⟩
  · rcases (show t = 0 ∨ t = 1 ∨ t = 2 ∨ t = 3 by omega) with rfl | rfl | rfl | rfl <;> decide
  · rw [rIx_n (by omega)]
    omega
theorem zMd_tk {s : Nat → Int32} {c r w cnt lim : Nat} {v : Int32} (h : zMd s c r w cnt lim) : zMd (rTk s v cnt) c r w cnt lim := zMd_upd h (rIx_lo (t := 2) (rIu_in h.2.2.2.2.2.2.2.2.2.2.1) (by decide))
def rWst (L : Nat → Int32) (w cnt b : Nat) (s : Nat → Int32) : Nat → Int32 :=
  if rBeg L b then
    (if rIu s (L b) 0 cnt < 0 then upd (upd (upd (rTk s (L b) cnt) (411 + 20 * w + b) (L b)) (731 + 20 * w + b) (-1)) (71 + b) (-1)
     else upd (upd (rTk (upd (rTk s (L b) cnt) (411 + 20 * w + b) (L b)) (L b) cnt) (731 + 20 * w + b) (rIu (upd (rTk s (L b) cnt) (411 + 20 * w + b) (L b)) (L b) 0 cnt)) (71 + b) (-1))
  else upd (upd (rTk (upd s (411 + 20 * w + b) (L b)) (L b) cnt) (731 + 20 * w + b) (rIu (upd s (411 + 20 * w + b) (L b)) (L b) 0 cnt)) (71 + b) (-1)
theorem zMd_wst {s L : Nat → Int32} {c r w cnt lim w9 b : Nat} (h : zMd s c r w cnt lim) : zMd (rWst L w9 cnt b s) c r w cnt lim := by
  unfold rWst
  by_cases q : rBeg L b = true
  · rw [if_pos q]
    by_cases q2 : rIu s (L b) 0 cnt < 0
    · rw [if_pos q2]
      exact zMd_upd (zMd_upd (zMd_upd (zMd_tk h) (by omega)) (by omega)) (by omega)
    · rw [if_neg q2]
      exact zMd_upd (zMd_upd (zMd_tk (zMd_upd (zMd_tk h) (by omega))) (by omega)) (by omega)
  · rw [if_neg q]
    exact zMd_upd (zMd_upd (zMd_tk (zMd_upd h (by omega))) (by omega)) (by omega)
theorem zMd_it {s L : Nat → Int32} {c r w cnt lim w9 : Nat} (h : zMd s c r w cnt lim) (k : Nat) : zMd (zIt (rWst L w9 cnt) k s) c r w cnt lim := zIt_inv (P := fun s => zMd s c r w cnt lim) (fun _ _ q => zMd_wst q) k s h
/-- there is yarn enough of the color v for the line -/
def rEno (s L : Nat → Int32) (c cnt v : Nat) : Bool := decide (nI (zCt (fun b => L b == nI v && rBeg L b) c + zCt (fun b => L b == nI v) c) ≤ rUn s (nI v) cnt)
def rFr (s : Nat → Int32) (w b : Nat) : Nat → Nat
  | 0 => 0
  | y + 1 => if rPt s w y b then rFr s w b y else y + 1
theorem rFr_le {s : Nat → Int32} {w b : Nat} : ∀ y, rFr s w b y ≤ y
  | 0 => Nat.le_refl _
  | y + 1 => by
    unfold rFr
    by_cases h : rPt s w y b = true
    · rw [if_pos h]
      exact Nat.le_succ_of_le (rFr_le y)
    · rw [if_neg h]
      exact Nat.le_refl _
def rPu (s : Nat → Int32) (w lm b y : Nat) : Bool := !rPt s w (y + 1) b && decide (lm < y + 1 - rFr s w b (y + 1))
abbrev zF4 : Type := Nat × (Nat → Int32) × (Nat → Int32) × (Nat → Int32)
def rPsh (s : Nat → Int32) (w b y : Nat) (q : zF4) : zF4 := (q.1 + 1, upd q.2.1 q.1 (nI b), upd q.2.2.1 q.1 (nI (rFr s w b (y + 1))), upd q.2.2.2 q.1 (nI y))
def rFdI (s : Nat → Int32) (w lm b k : Nat) (q : zF4) : zF4 := zIt (fun y q => if rPu s w lm b y then rPsh s w b y q else q) k q
def rFd (s : Nat → Int32) (w lm k : Nat) (q : zF4) : zF4 := zIt (fun b q => rFdI s w lm b w q) k q
theorem rFdI_t {s : Nat → Int32} {w lm b y : Nat} {q : zF4} (h : rPu s w lm b y = true) : rFdI s w lm b (y + 1) q = rPsh s w b y (rFdI s w lm b y q) := if_pos h
theorem rFdI_f {s : Nat → Int32} {w lm b y : Nat} {q : zF4} (h : rPu s w lm b y = false) : rFdI s w lm b (y + 1) q = rFdI s w lm b y q := if_neg (by rw [h]; decide)
theorem rPu_no {s : Nat → Int32} {w lm b y : Nat} (h : rPu s w lm b y = true) : rPu s w lm b (y + 1) = false := by
  unfold rPu at h ⊢
  have h1 : rPt s w (y + 1) b = false := by
    cases q : rPt s w (y + 1) b
    · rfl
    · rw [q] at h; cases h
  rw [show rFr s w b (y + 1 + 1) = y + 1 + 1 from if_neg (by rw [h1]; decide), decide_eq_false (by omega), Bool.and_false]
theorem zCt_half {P : Nat → Bool} (h : ∀ y, P y = true → P (y + 1) = false) : ∀ k, 2 * zCt P k ≤ k + 1 ∧ (P k = true → 2 * zCt P k ≤ k)
  | 0 => ⟨by simp [zCt], fun _ => by simp [zCt]⟩
  | k + 1 => by
    obtain ⟨a, b⟩ := zCt_half h k
    cases q : P k
    · rw [← zCt_F q]
      exact ⟨by omega, fun _ => by omega⟩
    · have := b q
      rw [← zCt_T q]
      refine ⟨by omega, fun z => ?_⟩
      rw [h k q] at z
      cases z
theorem rFdI_n {s : Nat → Int32} {w lm b : Nat} {q : zF4} : ∀ k, (rFdI s w lm b k q).1 = q.1 + zCt (rPu s w lm b) k
  | 0 => rfl
  | k + 1 => by
    cases h : rPu s w lm b k
    · rw [rFdI_f h, rFdI_n k, ← zCt_F h]; rfl
    · rw [rFdI_t h]
      show (rFdI s w lm b k q).1 + 1 = _
      rw [rFdI_n k, ← zCt_T h, Nat.add_assoc]
theorem rPu_ct {s : Nat → Int32} {w lm b k : Nat} (hk : k ≤ 16) : zCt (rPu s w lm b) k ≤ 8 := by
  have := (zCt_half (P := rPu s w lm b) (fun _ => rPu_no) k).1
  omega
theorem rFd_n {s : Nat → Int32} {w lm : Nat} {q : zF4} (hw : w ≤ 16) : ∀ k, (rFd s w lm k q).1 ≤ q.1 + 8 * k
  | 0 => Nat.le_refl _
  | k + 1 => by
    show (rFdI s w lm k w (rFd s w lm k q)).1 ≤ _
    rw [rFdI_n]
    have := rFd_n (s := s) (lm := lm) (q := q) hw k
    have := rPu_ct (s := s) (w := w) (lm := lm) (b := k) hw
    omega
theorem rFd_lt {s : Nat → Int32} {w lm b y : Nat} {B F T : Nat → Int32} (hw : w ≤ 16) (hb : b ≤ 18) (hy : y < w) : (rFdI s w lm b y (rFd s w lm b (0, B, F, T))).1 < 160 := by
  rw [rFdI_n]
  have h1 := rFd_n (s := s) (lm := lm) (q := (0, B, F, T)) hw b
  have h2 := rPu_ct (s := s) (w := w) (lm := lm) (b := b) (k := y) (by omega)
  have h3 : (rFd s w lm b (0, B, F, T)).1 ≤ 0 + 8 * b := h1
  omega
/-- the slits' rows hold numbers of columns and rows -/
def rSl (q : zF4) : Prop := q.1 ≤ 160 ∧ ∀ j, j < q.1 → ∃ b f t, q.2.1 j = nI b ∧ q.2.2.1 j = nI f ∧ q.2.2.2 j = nI t ∧ b < 19 ∧ f ≤ t ∧ t < 16
theorem rSl_psh {s : Nat → Int32} {w b y : Nat} {q : zF4} (h : ∀ j, j < q.1 → ∃ b f t, q.2.1 j = nI b ∧ q.2.2.1 j = nI f ∧ q.2.2.2 j = nI t ∧ b < 19 ∧ f ≤ t ∧ t < 16) (hb : b < 19) (hy : y < 16) (hf : rFr s w b (y + 1) ≤ y) : ∀ j, j < (rPsh s w b y q).1 → ∃ b1 f t, (rPsh s w b y q).2.1 j = nI b1 ∧ (rPsh s w b y q).2.2.1 j = nI f ∧ (rPsh s w b y q).2.2.2 j = nI t ∧ b1 < 19 ∧ f ≤ t ∧ t < 16 := by
  intro j hj
  have hj2 : j < q.1 + 1 := hj
  show ∃ b1 f t, upd q.2.1 q.1 (nI b) j = nI b1 ∧ upd q.2.2.1 q.1 (nI (rFr s w b (y + 1))) j = nI f ∧ upd q.2.2.2 q.1 (nI y) j = nI t ∧ b1 < 19 ∧ f ≤ t ∧ t < 16
  by_cases e : j = q.1
  · exact ⟨b, rFr s w b (y + 1), y, if_pos e, if_pos e, if_pos e, hb, hf, hy⟩
  · obtain ⟨b1, f, t, a1, a2, a3, a4⟩ := h j (by omega)
    exact ⟨b1, f, t, (if_neg e).trans a1, (if_neg e).trans a2, (if_neg e).trans a3, a4⟩
theorem rFdI_sl {s : Nat → Int32} {w lm b : Nat} {q : zF4} (h : ∀ j, j < q.1 → ∃ b f t, q.2.1 j = nI b ∧ q.2.2.1 j = nI f ∧ q.2.2.2 j = nI t ∧ b < 19 ∧ f ≤ t ∧ t < 16) (hb : b < 19) : ∀ k, k ≤ 16 → ∀ j, j < (rFdI s w lm b k q).1 → ∃ b1 f t, (rFdI s w lm b k q).2.1 j = nI b1 ∧ (rFdI s w lm b k q).2.2.1 j = nI f ∧ (rFdI s w lm b k q).2.2.2 j = nI t ∧ b1 < 19 ∧ f ≤ t ∧ t < 16
  | 0, _ => h
  | k + 1, hk => by
    cases q9 : rPu s w lm b k
    · rw [rFdI_f q9]
      exact rFdI_sl h hb k (by omega)
    · rw [rFdI_t q9]
      refine rSl_psh (rFdI_sl h hb k (by omega)) hb (by omega) ?_
      unfold rPu at q9
      rw [Bool.and_eq_true] at q9
      have := of_decide_eq_true q9.2
      omega
theorem rFd_sl {s : Nat → Int32} {w lm : Nat} {B F T : Nat → Int32} (hw : w ≤ 16) : ∀ k, k ≤ 19 → rSl (rFd s w lm k (0, B, F, T))
  | k, hk => by
    refine ⟨?_, ?_⟩
    · have h1 := rFd_n (s := s) (lm := lm) (q := (0, B, F, T)) hw k
      have h3 : (rFd s w lm k (0, B, F, T)).1 ≤ 0 + 8 * k := h1
      omega
    · have : ∀ k, k ≤ 19 → ∀ j, j < (rFd s w lm k (0, B, F, T)).1 → ∃ b f t, (rFd s w lm k (0, B, F, T)).2.1 j = nI b ∧ (rFd s w lm k (0, B, F, T)).2.2.1 j = nI f ∧ (rFd s w lm k (0, B, F, T)).2.2.2 j = nI t ∧ b < 19 ∧ f ≤ t ∧ t < 16 := by
        intro k
        induction k with
        | zero => intro _ j hj; exact absurd hj (Nat.not_lt_zero _)
        | succ k ih =>
          intro hk
          exact rFdI_sl (ih (by omega)) (by omega) w hw
      exact this k hk
def rSx (B F : Nat → Int32) (k : Nat) : Nat := (nI 1051 + nI 16 * B k + F k).toNatClampNeg
theorem rSl_in {q : zF4} (h : rSl q) {k : Nat} (hk : k < q.1) : vp_in (nI 1051 + nI 16 * q.2.1 k + q.2.2.1 k) 1371 ∧ ∃ b f, b < 19 ∧ f < 16 ∧ rSx q.2.1 q.2.2.1 k = 1051 + 16 * b + f ∧ q.2.1 k = nI b ∧ q.2.2.1 k = nI f := by
  obtain ⟨b, f, t, a1, a2, a3, a4, a5, a6⟩ := h.2 k hk
  unfold rSx
  rw [a1, a2, pk_mul, nI_add, nI_add]
  exact ⟨vp_in_nI (by omega) (by decide), b, f, a4, by omega, nI_clamp (by omega), rfl, rfl⟩
theorem zFa_ulo {o n j : Nat} {g f : Nat → Int32} {x : Int32} (h : j < o) : upd (zFa o g f n) j x = zFa o g (upd f j x) n := by
  funext i
  show (if i = j then x else (if o ≤ i ∧ i < o + n then g (i - o) else f i)) = (if o ≤ i ∧ i < o + n then g (i - o) else (if i = j then x else f i))
  by_cases e : i = j
  · rw [if_pos e, if_neg (by omega), if_pos e]
  · rw [if_neg e, if_neg e]
theorem rAny_s {P : Nat → Bool} {n : Nat} : rAny P (n + 1) = (rAny P n || P n) := rfl
def rFgP (s B F : Nat → Int32) (n k : Nat) : Bool := decide (s (1051 + k) = nI 1) && rAny (fun j => nI 16 * B j + F j == nI k) n
/-- sewn slits that are none any more are forgotten -/
def rFg (s B F : Nat → Int32) (n : Nat) : Nat → Int32 := zFa 1051 (fun k => zB (rFgP s B F n k)) s 320
theorem rFg_lo {s B F : Nat → Int32} {n j : Nat} (h : j < 1051) : rFg s B F n j = s j := zFa_lo h
theorem zMd_fg {s B F : Nat → Int32} {n c r w cnt lim : Nat} (h : zMd s c r w cnt lim) : zMd (rFg s B F n) c r w cnt lim := by
  obtain ⟨h0, h1, h2, h3, h4, h⟩ := h
  exact ⟨by rw [rFg_lo (by omega), h0], by rw [rFg_lo (by omega), h1], by rw [rFg_lo (by omega), h2], by rw [rFg_lo (by omega), h3], by rw [rFg_lo (by omega), h4], h⟩
def rSwR (s B F T : Nat → Int32) (n : Nat) : Int32 := zSm (fun k => if s (rSx B F k) == nI 1 then T k - F k + nI 1 else nI 0) n
def rCl (s : Nat → Int32) (a b : Nat) : Nat → Int32 := zFa 71 (fun _ => -1) (zFa 1051 (fun _ => nI 0) (zFa 91 (fun _ => nI 0) (upd (upd (upd s 0 (nI a)) 1 (nI b)) 2 (nI 0)) 320) 320) 20
def rFlS (x : Nat) (v : Int32) (y i : Nat) (q : (Nat → Int32) × Nat) : (Nat → Int32) × Nat := (upd q.1 (91 + 20 * y + (x + i)) v, q.2 + (if q.1 (91 + 20 * y + (x + i)) = v then 0 else 1))
def rFlR (x u : Nat) (v : Int32) (y i : Nat) (q : (Nat → Int32) × Nat) : (Nat → Int32) × Nat := zIt (rFlS x v y) i q
def rFl (x y u : Nat) (v : Int32) (j : Nat) (q : (Nat → Int32) × Nat) : (Nat → Int32) × Nat := zIt (fun j q => rFlR x u v (y + j) (u + 1 - x) q) j q
theorem rFlR_t {x u y i : Nat} {v : Int32} {q : (Nat → Int32) × Nat} (h : (rFlR x u v y i q).1 (91 + 20 * y + (x + i)) = v) : rFlR x u v y (i + 1) q = (upd (rFlR x u v y i q).1 (91 + 20 * y + (x + i)) v, (rFlR x u v y i q).2 + 0) := by
  show (upd (rFlR x u v y i q).1 (91 + 20 * y + (x + i)) v, (rFlR x u v y i q).2 + (if (rFlR x u v y i q).1 (91 + 20 * y + (x + i)) = v then 0 else 1)) = _
  rw [if_pos h]
theorem rFlR_f {x u y i : Nat} {v : Int32} {q : (Nat → Int32) × Nat} (h : ¬ (rFlR x u v y i q).1 (91 + 20 * y + (x + i)) = v) : rFlR x u v y (i + 1) q = (upd (rFlR x u v y i q).1 (91 + 20 * y + (x + i)) v, (rFlR x u v y i q).2 + 1) := by
  show (upd (rFlR x u v y i q).1 (91 + 20 * y + (x + i)) v, (rFlR x u v y i q).2 + (if (rFlR x u v y i q).1 (91 + 20 * y + (x + i)) = v then 0 else 1)) = _
  rw [if_neg h]
theorem rFlR_n {x u y : Nat} {v : Int32} {q : (Nat → Int32) × Nat} : ∀ i, (rFlR x u v y i q).2 ≤ q.2 + i
  | 0 => Nat.le_refl _
  | i + 1 => by
    show (rFlR x u v y i q).2 + (if _ then 0 else 1) ≤ _
    have := rFlR_n (x := x) (u := u) (y := y) (v := v) (q := q) i
    split <;> omega
theorem rFl_n {x y u : Nat} {v : Int32} {q : (Nat → Int32) × Nat} : ∀ j, (rFl x y u v j q).2 ≤ q.2 + (u + 1 - x) * j
  | 0 => Nat.le_refl _
  | j + 1 => by
    show (rFlR x u v (y + j) (u + 1 - x) (rFl x y u v j q)).2 ≤ _
    have h1 := rFlR_n (x := x) (u := u) (y := y + j) (v := v) (q := rFl x y u v j q) (u + 1 - x)
    have h2 := rFl_n (x := x) (y := y) (u := u) (v := v) (q := q) j
    have h3 : (u + 1 - x) * (j + 1) = (u + 1 - x) * j + (u + 1 - x) := Nat.mul_succ _ _
    omega
def rGb (s : Nat → Int32) (l : Int32) : Nat → Int32 := upd s (rIx l 2) (s (rIx l 2) + nI 1)
def rUwR (s0 : Nat → Int32) (y k : Nat) (s : Nat → Int32) : Nat → Int32 := zIt (fun b s => rGb s (rY s0 y b)) k s
def rUw (s0 : Nat → Int32) (c y0 j : Nat) (s : Nat → Int32) : Nat → Int32 := zIt (fun j s => rUwR s0 (y0 + j) c s) j s

set_option maxHeartbeats 4000000 in
set_option maxRecDepth 100000 in
theorem m_weavesOne_full {G : zT} {S : zS} {X : zXr} {out : Nat → Int64} {s : (Nat → Int32)} {past : (Nat → Int32)} {aside : (Nat → Int32)} {pasts : Nat} {txt : (Nat → Int32)} {typed : Nat} {thrown : Int32} {line : (Nat → Int32)} {need : (Nat → Int32)} {left : (Nat → Int32)} {slits : Nat} {slB : (Nat → Int32)} {slF : (Nat → Int32)} {slT : (Nat → Int32)} {at9 : Nat} {wd9 : Int32} {got : (Nat → Int32)} {ans : Int32} {worst : UInt32} (hG : zAl G = false) {c r w cnt lim : Nat} (hM : zMd s c r w cnt lim) (hwr : w = r) : zRun G mX10_weavesOne 0 0 [.ref 114] (zHp S X (s, past, aside, pasts, txt, typed, thrown, line, need, left, slits, slB, slF, slT, at9, wd9, got, ans, worst) out) (.inr (some (.int (nI 0)))) (zHp S X (s, past, aside, pasts, txt, typed, thrown, line, need, left, slits, slB, slF, slT, at9, wd9, got, ans, worst) out) := by
  have hM9 := hM
  obtain ⟨h0, h1, h2, h3, h4, hc1, hc, hr1, hr, hw, hn, hl⟩ := hM
  refine zRun_of (by decide +kernel) rfl rfl (Nat.le_of_ble_eq_true rfl) ?_
  suffices hs : ∀ (o9 : zO) (h9 : zH), (Sum.inr (some (.int (nI 0))) : zO) = o9 → (zHp S X (s, past, aside, pasts, txt, typed, thrown, line, need, left, slits, slB, slF, slT, at9, wd9, got, ans, worst) out) = h9 → zPW G mX10_weavesOne 0 0 o9 h9 0 0 0 [(0, .ref 114)] [] (zHp S X (s, past, aside, pasts, txt, typed, thrown, line, need, left, slits, slB, slF, slT, at9, wd9, got, ans, worst) out) from hs _ _ rfl rfl
  intro o9 h9 ho9 hh9
  refine z_aload_n 0 dX10_weavesOne_0 rfl rfl ?_
  refine z_get (v := .ref 115) 0 zgo_114 rfl inX10 (by decide) zw_1178 rfl rfl dX10_weavesOne_1 ?_
  refine z_iconst (v := nI 2) dX10_weavesOne_4 (by decide) ?_
  refine z_ialdN (f := s) (n := 1371) (j := 2) zga_115 (by omega) (by decide) dX10_weavesOne_5 ?_
  refine z_top (v2 := .int (nI w)) (by rw [h2]) ?_
  refine z_aload_n 0 dX10_weavesOne_6 rfl rfl ?_
  refine z_get (v := .ref 115) 0 zgo_114 rfl inX10 (by decide) zw_1178 rfl rfl dX10_weavesOne_7 ?_
  refine z_iconst (v := nI 1) dX10_weavesOne_10 (by decide) ?_
  refine z_ialdN (f := s) (n := 1371) (j := 1) zga_115 (by omega) (by decide) dX10_weavesOne_11 ?_
  refine z_top (v2 := .int (nI r)) (by rw [h1]) ?_
  refine z_icmp_ne (tgt := 17) dX10_weavesOne_12 (by decide) (fun c_12 => ?_) (fun c_12 => ?_)
  · exfalso; exact c_12 (by rw [hwr])
  · skip
    refine z_iconst (v := nI 0) dX10_weavesOne_15 (by decide) ?_
    exact z_zret rfl (by decide) dX10_weavesOne_16 (zo_i ho9 (by rfl)) (zo_h hh9 (by rfl)) (Nat.zero_le _) (Nat.zero_le _)

set_option maxHeartbeats 4000000 in
set_option maxRecDepth 100000 in
theorem m_weavesOne_yes {G : zT} {S : zS} {X : zXr} {out : Nat → Int64} {s : (Nat → Int32)} {past : (Nat → Int32)} {aside : (Nat → Int32)} {pasts : Nat} {txt : (Nat → Int32)} {typed : Nat} {thrown : Int32} {line : (Nat → Int32)} {need : (Nat → Int32)} {left : (Nat → Int32)} {slits : Nat} {slB : (Nat → Int32)} {slF : (Nat → Int32)} {slT : (Nat → Int32)} {at9 : Nat} {wd9 : Int32} {got : (Nat → Int32)} {ans : Int32} {worst : UInt32} (hG : zAl G = false) {c r w cnt lim : Nat} (hM : zMd s c r w cnt lim) (hwr : w < r) (hall : ∀ v, v < 8 → rEno s (zFl (rDl s c w) line c) c cnt v = true) : zRun G mX10_weavesOne 0 0 [.ref 114] (zHp S X (s, past, aside, pasts, txt, typed, thrown, line, need, left, slits, slB, slF, slT, at9, wd9, got, ans, worst) out) (.inr (some (.int (nI 1)))) (zHp S X ((upd (zIt (rWst (zFl (rDl s c w) line c) w cnt) c s) 2 (nI (w + 1))), past, aside, pasts, txt, typed, thrown, (zFl (rDl s c w) line c), need, left, slits, slB, slF, slT, at9, wd9, got, ans, worst) out) := by
  have hM9 := hM
  obtain ⟨h0, h1, h2, h3, h4, hc1, hc, hr1, hr, hw, hn, hl⟩ := hM
  have h00 : ¬ (nI 0 < 0) := by decide
  refine zRun_of (by decide +kernel) rfl rfl (Nat.le_of_ble_eq_true rfl) ?_
  suffices hs : ∀ (o9 : zO) (h9 : zH), (Sum.inr (some (.int (nI 1))) : zO) = o9 → (zHp S X ((upd (zIt (rWst (zFl (rDl s c w) line c) w cnt) c s) 2 (nI (w + 1))), past, aside, pasts, txt, typed, thrown, (zFl (rDl s c w) line c), need, left, slits, slB, slF, slT, at9, wd9, got, ans, worst) out) = h9 → zPW G mX10_weavesOne 0 0 o9 h9 0 0 0 [(0, .ref 114)] [] (zHp S X (s, past, aside, pasts, txt, typed, thrown, line, need, left, slits, slB, slF, slT, at9, wd9, got, ans, worst) out) from hs _ _ rfl rfl
  intro o9 h9 ho9 hh9
  refine z_aload_n 0 dX10_weavesOne_0 rfl rfl ?_
  refine z_get (v := .ref 115) 0 zgo_114 rfl inX10 (by decide) zw_1178 rfl rfl dX10_weavesOne_1 ?_
  refine z_iconst (v := nI 2) dX10_weavesOne_4 (by decide) ?_
  refine z_ialdN (f := s) (n := 1371) (j := 2) zga_115 (by omega) (by decide) dX10_weavesOne_5 ?_
  refine z_top (v2 := .int (nI w)) (by rw [h2]) ?_
  refine z_aload_n 0 dX10_weavesOne_6 rfl rfl ?_
  refine z_get (v := .ref 115) 0 zgo_114 rfl inX10 (by decide) zw_1178 rfl rfl dX10_weavesOne_7 ?_
  refine z_iconst (v := nI 1) dX10_weavesOne_10 (by decide) ?_
  refine z_ialdN (f := s) (n := 1371) (j := 1) zga_115 (by omega) (by decide) dX10_weavesOne_11 ?_
  refine z_top (v2 := .int (nI r)) (by rw [h1]) ?_
  refine z_icmp_ne (tgt := 17) dX10_weavesOne_12 (by decide) (fun c_12 => ?_) (fun c_12 => ?_)
  · skip
    have f_12 := m_ne (by omega) (by omega) c_12
    refine z_aload_n 0 dX10_weavesOne_17 rfl rfl ?_
    refine z_get (v := .ref 115) 0 zgo_114 rfl inX10 (by decide) zw_1178 rfl rfl dX10_weavesOne_18 ?_
    refine z_iconst (v := nI 2) dX10_weavesOne_21 (by decide) ?_
    refine z_ialdN (f := s) (n := 1371) (j := 2) zga_115 (by omega) (by decide) dX10_weavesOne_22 ?_
    refine z_top (v2 := .int (nI w)) (by rw [h2]) ?_
    refine z_istore_n (lv' := [(1, .int (nI w)), (0, .ref 114)]) dX10_weavesOne_23 rfl (by decide) rfl ?_
    refine z_aload_n 1 dX10_weavesOne_24 rfl rfl ?_
    refine z_iload_n 0 dX10_weavesOne_25 rfl rfl ?_
    refine z_iconst (v := nI 1) dX10_weavesOne_26 (by decide) ?_
    refine z_callV (N := mX10_draws) 2 [.int (nI w), .int (nI 1)] [] lX10_draws ⟨zw_1356, zw_1358, zw_62⟩ rfl zgo_114 rfl rfl (Nat.le_of_ble_eq_true rfl) (by decide) ⟨zlt, zlt⟩ ⟨Nat.zero_le _, Nat.zero_le _⟩ zal (m_draws1 hG (by first | exact zMd_it hM9 _ | exact zMd_tk (zMd_it hM9 _) | exact zMd_upd (zMd_tk (zMd_it hM9 _)) (by omega) | exact zMd_upd (zMd_it hM9 _) (by omega) | exact hM9) w (by omega)) dX10_weavesOne_27 ?_
    refine z_iconst (v := nI 0) dX10_weavesOne_30 (by decide) ?_
    refine z_istore_n (lv' := [(2, .int (nI 0)), (1, .int (nI w)), (0, .ref 114)]) dX10_weavesOne_31 rfl (by decide) rfl ?_
    have L32_1 : ∀ (d k : Nat), k ≤ 8 → 8 + 1 ≤ k + d → zPW G mX10_weavesOne 0 0 o9 h9 0 0 32 [(2, .int (nI k)), (1, .int (nI w)), (0, .ref 114)] [] (zHp S X (s, past, aside, pasts, txt, typed, thrown, (zFl (rDl s c w) line c), need, left, slits, slB, slF, slT, at9, wd9, got, ans, worst) out) := by
      intro d
      induction d with
      | zero => intro k hk hd; exact absurd hd (by omega)
      | succ d ih =>
        intro k hk_k hd_k
        have ih32 := ih
        clear ih
        refine z_iload_n 0 dX10_weavesOne_32 rfl rfl ?_
        refine z_bipush (v := nI 8) dX10_weavesOne_33 (by decide) ?_
        refine z_icmp_ge (tgt := 65) dX10_weavesOne_35 (by decide) (fun c_35 => ?_) (fun c_35 => ?_)
        · skip
          have f_35 := m_le (by omega) (by omega) c_35
          have e_k : k = 8 := by omega
          rw [e_k]
          refine z_iconst (v := nI 0) dX10_weavesOne_65 (by decide) ?_
          refine z_istore_n (lv' := [(2, .int (nI 0)), (1, .int (nI w)), (0, .ref 114)]) dX10_weavesOne_66 rfl (by decide) rfl ?_
          have L67_2 : ∀ (d j : Nat), j ≤ c → c + 1 ≤ j + d → zPW G mX10_weavesOne 0 0 o9 h9 0 0 67 [(2, .int (nI j)), (1, .int (nI w)), (0, .ref 114)] [] (zHp S X ((zIt (rWst (zFl (rDl s c w) line c) w cnt) j s), past, aside, pasts, txt, typed, thrown, (zFl (rDl s c w) line c), need, left, slits, slB, slF, slT, at9, wd9, got, ans, worst) out) := by
            intro d
            induction d with
            | zero => intro j hk hd; exact absurd hd (by omega)
            | succ d ih =>
              intro j hk_j hd_j
              have ih67 := ih
              clear ih
              refine z_iload_n 0 dX10_weavesOne_67 rfl rfl ?_
              refine z_aload_n 2 dX10_weavesOne_68 rfl rfl ?_
              refine z_get (v := .ref 115) 0 zgo_114 rfl inX10 (by decide) zw_1178 rfl rfl dX10_weavesOne_69 ?_
              refine z_iconst (v := nI 0) dX10_weavesOne_72 (by decide) ?_
              refine z_ialdN (f := (zIt (rWst (zFl (rDl s c w) line c) w cnt) j s)) (n := 1371) (j := 0) zga_115 (by omega) (by decide) dX10_weavesOne_73 ?_
              refine z_top (v2 := .int (nI c)) (by rw [(zMd_it hM9 _).1]) ?_
              refine z_icmp_ge (tgt := 170) dX10_weavesOne_74 (by decide) (fun c_74 => ?_) (fun c_74 => ?_)
              · skip
                have f_74 := m_le (by omega) (by omega) c_74
                have e_j : j = c := by omega
                rw [e_j]
                refine z_aload_n 2 dX10_weavesOne_170 rfl rfl ?_
                refine z_get (v := .ref 115) 0 zgo_114 rfl inX10 (by decide) zw_1178 rfl rfl dX10_weavesOne_171 ?_
                refine z_iconst (v := nI 2) dX10_weavesOne_174 (by decide) ?_
                refine z_dup2 dX10_weavesOne_175 rfl rfl ?_
                refine z_ialdN (f := (zIt (rWst (zFl (rDl s c w) line c) w cnt) c s)) (n := 1371) (j := 2) zga_115 (by omega) (by decide) dX10_weavesOne_176 ?_
                refine z_top (v2 := .int (nI w)) (by rw [(zMd_it hM9 _).2.2.1]) ?_
                refine z_iconst (v := nI 1) dX10_weavesOne_177 (by decide) ?_
                refine z_iaddN (a := w) (b := 1) dX10_weavesOne_178 ?_
                refine z_iastN (f := (zIt (rWst (zFl (rDl s c w) line c) w cnt) c s)) (n := 1371) (j := 2) zga_115 (by omega) (by decide) dX10_weavesOne_179 ?_
                refine z_eqh (h2 := (zHp S X ((upd (zIt (rWst (zFl (rDl s c w) line c) w cnt) c s) 2 (nI (w + 1))), past, aside, pasts, txt, typed, thrown, (zFl (rDl s c w) line c), need, left, slits, slB, slF, slT, at9, wd9, got, ans, worst) out)) zsa_115 ?_
                refine z_iconst (v := nI 1) dX10_weavesOne_180 (by decide) ?_
                exact z_zret rfl (by decide) dX10_weavesOne_181 (zo_i ho9 (by rfl)) (zo_h hh9 (by rfl)) (Nat.zero_le _) (Nat.zero_le _)
              · skip
                have f_74 := m_nle (by omega) (by omega) c_74
                refine z_aload_n 2 dX10_weavesOne_77 rfl rfl ?_
                refine z_iload_n 0 dX10_weavesOne_78 rfl rfl ?_
                refine z_callV (N := mX10_begins) 1 [.int (nI j)] [] lX10_begins ⟨zw_1368, zw_1370, zw_65⟩ rfl zgo_114 rfl rfl (Nat.le_of_ble_eq_true rfl) (by decide) ⟨zlt, zlt⟩ ⟨Nat.zero_le _, Nat.zero_le _⟩ (fun _ => rfl) (m_begins hG j (by omega)) dX10_weavesOne_79 ?_
                refine z_if_eq (tgt := 98) dX10_weavesOne_82 (by decide) (fun c_82 => ?_) (fun c_82 => ?_)
                · skip
                  have b_82 := zB_0.mp c_82
                  refine z_iconst (v := nI 0) dX10_weavesOne_98 (by decide) ?_
                  refine z_istore_n (lv' := [(3, .int (nI 0)), (2, .int (nI j)), (1, .int (nI w)), (0, .ref 114)]) dX10_weavesOne_99 rfl (by decide) rfl ?_
                  refine z_aload_n 3 dX10_weavesOne_100 rfl rfl ?_
                  refine z_get (v := .ref 115) 0 zgo_114 rfl inX10 (by decide) zw_1178 rfl rfl dX10_weavesOne_101 ?_
                  refine z_sipush (v := nI 411) dX10_weavesOne_104 (by decide) ?_
                  refine z_bipush (v := nI 20) dX10_weavesOne_107 (by decide) ?_
                  refine z_iload_n 2 dX10_weavesOne_109 rfl rfl ?_
                  refine z_imulN (a := 20) (b := w) dX10_weavesOne_110 ?_
                  refine z_iaddN (a := 411) (b := 20 * w) dX10_weavesOne_111 ?_
                  refine z_iload_n 1 dX10_weavesOne_112 rfl rfl ?_
                  refine z_iaddN (a := 411 + 20 * w) (b := j) dX10_weavesOne_113 ?_
                  refine z_aload_n 3 dX10_weavesOne_114 rfl rfl ?_
                  refine z_get (v := .ref 119) 7 zgo_114 rfl inX10 (by decide) zw_1185 rfl rfl dX10_weavesOne_115 ?_
                  refine z_iload_n 1 dX10_weavesOne_118 rfl rfl ?_
                  refine z_ialdN (f := (zFl (rDl s c w) line c)) (n := 20) (j := j) zga_119 (by omega) (by decide) dX10_weavesOne_119 ?_
                  refine z_iastN (f := (zIt (rWst (zFl (rDl s c w) line c) w cnt) j s)) (n := 1371) (j := 411 + 20 * w + j) zga_115 (by omega) (by decide) dX10_weavesOne_120 ?_
                  refine z_eqh (h2 := (zHp S X ((upd (zIt (rWst (zFl (rDl s c w) line c) w cnt) j s) (411 + 20 * w + j) ((zFl (rDl s c w) line c) j)), past, aside, pasts, txt, typed, thrown, (zFl (rDl s c w) line c), need, left, slits, slB, slF, slT, at9, wd9, got, ans, worst) out)) zsa_115 ?_
                  refine z_aload_n 3 dX10_weavesOne_121 rfl rfl ?_
                  refine z_get (v := .ref 115) 0 zgo_114 rfl inX10 (by decide) zw_1178 rfl rfl dX10_weavesOne_122 ?_
                  refine z_sipush (v := nI 731) dX10_weavesOne_125 (by decide) ?_
                  refine z_bipush (v := nI 20) dX10_weavesOne_128 (by decide) ?_
                  refine z_iload_n 2 dX10_weavesOne_130 rfl rfl ?_
                  refine z_imulN (a := 20) (b := w) dX10_weavesOne_131 ?_
                  refine z_iaddN (a := 731) (b := 20 * w) dX10_weavesOne_132 ?_
                  refine z_iload_n 1 dX10_weavesOne_133 rfl rfl ?_
                  refine z_iaddN (a := 731 + 20 * w) (b := j) dX10_weavesOne_134 ?_
                  refine z_iload_n 0 dX10_weavesOne_135 rfl rfl ?_
                  refine z_if_ge (tgt := 143) dX10_weavesOne_136 (by decide) (fun c_136 => ?_) (fun c_136 => ?_)
                  · skip
                    have g_136 := Int32.not_lt.mpr c_136
                    refine z_aload_n 3 dX10_weavesOne_143 rfl rfl ?_
                    refine z_aload_n 3 dX10_weavesOne_144 rfl rfl ?_
                    refine z_get (v := .ref 119) 7 zgo_114 rfl inX10 (by decide) zw_1185 rfl rfl dX10_weavesOne_145 ?_
                    refine z_iload_n 1 dX10_weavesOne_148 rfl rfl ?_
                    refine z_ialdN (f := (zFl (rDl s c w) line c)) (n := 20) (j := j) zga_119 (by omega) (by decide) dX10_weavesOne_149 ?_
                    refine z_callV (N := mX10_takes) 1 [.int ((zFl (rDl s c w) line c) j)] [.int (nI (731 + 20 * w + j)), .ref 115] lX10_takes ⟨zw_1384, zw_1386, zw_69⟩ rfl zgo_114 rfl rfl (Nat.le_of_ble_eq_true rfl) (by decide) ⟨zlt, zlt⟩ ⟨Nat.zero_le _, Nat.zero_le _⟩ zal (m_takes hG (by first | exact zMd_it hM9 _ | exact zMd_tk (zMd_it hM9 _) | exact zMd_upd (zMd_tk (zMd_it hM9 _)) (by omega) | exact zMd_upd (zMd_it hM9 _) (by omega) | exact hM9) ((zFl (rDl s c w) line c) j)) dX10_weavesOne_150 ?_
                    refine z_iastN (f := (rTk (upd (zIt (rWst (zFl (rDl s c w) line c) w cnt) j s) (411 + 20 * w + j) ((zFl (rDl s c w) line c) j)) ((zFl (rDl s c w) line c) j) cnt)) (n := 1371) (j := 731 + 20 * w + j) zga_115 (by omega) (by decide) dX10_weavesOne_153 ?_
                    refine z_eqh (h2 := (zHp S X ((upd (rTk (upd (zIt (rWst (zFl (rDl s c w) line c) w cnt) j s) (411 + 20 * w + j) ((zFl (rDl s c w) line c) j)) ((zFl (rDl s c w) line c) j) cnt) (731 + 20 * w + j) (rIu (upd (zIt (rWst (zFl (rDl s c w) line c) w cnt) j s) (411 + 20 * w + j) ((zFl (rDl s c w) line c) j)) ((zFl (rDl s c w) line c) j) 0 cnt)), past, aside, pasts, txt, typed, thrown, (zFl (rDl s c w) line c), need, left, slits, slB, slF, slT, at9, wd9, got, ans, worst) out)) zsa_115 ?_
                    refine z_aload_n 3 dX10_weavesOne_154 rfl rfl ?_
                    refine z_get (v := .ref 115) 0 zgo_114 rfl inX10 (by decide) zw_1178 rfl rfl dX10_weavesOne_155 ?_
                    refine z_bipush (v := nI 71) dX10_weavesOne_158 (by decide) ?_
                    refine z_iload_n 1 dX10_weavesOne_160 rfl rfl ?_
                    refine z_iaddN (a := 71) (b := j) dX10_weavesOne_161 ?_
                    refine z_iconst (v := (-1)) dX10_weavesOne_162 (by decide) ?_
                    refine z_iastN (f := (upd (rTk (upd (zIt (rWst (zFl (rDl s c w) line c) w cnt) j s) (411 + 20 * w + j) ((zFl (rDl s c w) line c) j)) ((zFl (rDl s c w) line c) j) cnt) (731 + 20 * w + j) (rIu (upd (zIt (rWst (zFl (rDl s c w) line c) w cnt) j s) (411 + 20 * w + j) ((zFl (rDl s c w) line c) j)) ((zFl (rDl s c w) line c) j) 0 cnt))) (n := 1371) (j := 71 + j) zga_115 (by omega) (by decide) dX10_weavesOne_163 ?_
                    refine z_eqh (h2 := (zHp S X ((upd (upd (rTk (upd (zIt (rWst (zFl (rDl s c w) line c) w cnt) j s) (411 + 20 * w + j) ((zFl (rDl s c w) line c) j)) ((zFl (rDl s c w) line c) j) cnt) (731 + 20 * w + j) (rIu (upd (zIt (rWst (zFl (rDl s c w) line c) w cnt) j s) (411 + 20 * w + j) ((zFl (rDl s c w) line c) j)) ((zFl (rDl s c w) line c) j) 0 cnt)) (71 + j) (-1)), past, aside, pasts, txt, typed, thrown, (zFl (rDl s c w) line c), need, left, slits, slB, slF, slT, at9, wd9, got, ans, worst) out)) zsa_115 ?_
                    refine z_iinc (v := nI (j + 1)) (lv' := [(2, .int (nI (j + 1))), (3, .int (nI 0)), (1, .int (nI w)), (0, .ref 114)]) 1 dX10_weavesOne_164 rfl (nI_1 _) (by decide) rfl ?_
                    refine z_goto (tgt := 67) dX10_weavesOne_167 (by decide) ?_
                    refine z_sub [0, 2, 3] (lv' := [(2, .int (nI (j + 1))), (1, .int (nI w)), (0, .ref 114)]) rfl ?_
                    refine z_eqs (lv2 := [(2, .int (nI ((j + 1)))), (1, .int (nI w)), (0, .ref 114)]) (h2 := (zHp S X ((zIt (rWst (zFl (rDl s c w) line c) w cnt) (j + 1) s), past, aside, pasts, txt, typed, thrown, (zFl (rDl s c w) line c), need, left, slits, slB, slF, slT, at9, wd9, got, ans, worst) out)) (by rfl) (by simp [zIt, rWst, h00, c_12, f_12, c_35, f_35, c_74, f_74, b_82, c_136, g_136]) ?_
                    exact ih67 (j + 1) (by omega) (by omega)
                  · exfalso; revert c_136; decide
                · skip
                  have b_82 := zB_tt c_82
                  refine z_aload_n 2 dX10_weavesOne_85 rfl rfl ?_
                  refine z_aload_n 2 dX10_weavesOne_86 rfl rfl ?_
                  refine z_get (v := .ref 119) 7 zgo_114 rfl inX10 (by decide) zw_1185 rfl rfl dX10_weavesOne_87 ?_
                  refine z_iload_n 0 dX10_weavesOne_90 rfl rfl ?_
                  refine z_ialdN (f := (zFl (rDl s c w) line c)) (n := 20) (j := j) zga_119 (by omega) (by decide) dX10_weavesOne_91 ?_
                  refine z_callV (N := mX10_takes) 1 [.int ((zFl (rDl s c w) line c) j)] [] lX10_takes ⟨zw_1384, zw_1386, zw_69⟩ rfl zgo_114 rfl rfl (Nat.le_of_ble_eq_true rfl) (by decide) ⟨zlt, zlt⟩ ⟨Nat.zero_le _, Nat.zero_le _⟩ zal (m_takes hG (by first | exact zMd_it hM9 _ | exact zMd_tk (zMd_it hM9 _) | exact zMd_upd (zMd_tk (zMd_it hM9 _)) (by omega) | exact zMd_upd (zMd_it hM9 _) (by omega) | exact hM9) ((zFl (rDl s c w) line c) j)) dX10_weavesOne_92 ?_
                  refine z_goto (tgt := 99) dX10_weavesOne_95 (by decide) ?_
                  refine z_istore_n (lv' := [(3, .int (rIu (zIt (rWst (zFl (rDl s c w) line c) w cnt) j s) ((zFl (rDl s c w) line c) j) 0 cnt)), (2, .int (nI j)), (1, .int (nI w)), (0, .ref 114)]) dX10_weavesOne_99 rfl (by decide) rfl ?_
                  refine z_aload_n 3 dX10_weavesOne_100 rfl rfl ?_
                  refine z_get (v := .ref 115) 0 zgo_114 rfl inX10 (by decide) zw_1178 rfl rfl dX10_weavesOne_101 ?_
                  refine z_sipush (v := nI 411) dX10_weavesOne_104 (by decide) ?_
                  refine z_bipush (v := nI 20) dX10_weavesOne_107 (by decide) ?_
                  refine z_iload_n 2 dX10_weavesOne_109 rfl rfl ?_
                  refine z_imulN (a := 20) (b := w) dX10_weavesOne_110 ?_
                  refine z_iaddN (a := 411) (b := 20 * w) dX10_weavesOne_111 ?_
                  refine z_iload_n 1 dX10_weavesOne_112 rfl rfl ?_
                  refine z_iaddN (a := 411 + 20 * w) (b := j) dX10_weavesOne_113 ?_
                  refine z_aload_n 3 dX10_weavesOne_114 rfl rfl ?_
                  refine z_get (v := .ref 119) 7 zgo_114 rfl inX10 (by decide) zw_1185 rfl rfl dX10_weavesOne_115 ?_
                  refine z_iload_n 1 dX10_weavesOne_118 rfl rfl ?_
                  refine z_ialdN (f := (zFl (rDl s c w) line c)) (n := 20) (j := j) zga_119 (by omega) (by decide) dX10_weavesOne_119 ?_
                  refine z_iastN (f := (rTk (zIt (rWst (zFl (rDl s c w) line c) w cnt) j s) ((zFl (rDl s c w) line c) j) cnt)) (n := 1371) (j := 411 + 20 * w + j) zga_115 (by omega) (by decide) dX10_weavesOne_120 ?_
                  refine z_eqh (h2 := (zHp S X ((upd (rTk (zIt (rWst (zFl (rDl s c w) line c) w cnt) j s) ((zFl (rDl s c w) line c) j) cnt) (411 + 20 * w + j) ((zFl (rDl s c w) line c) j)), past, aside, pasts, txt, typed, thrown, (zFl (rDl s c w) line c), need, left, slits, slB, slF, slT, at9, wd9, got, ans, worst) out)) zsa_115 ?_
                  refine z_aload_n 3 dX10_weavesOne_121 rfl rfl ?_
                  refine z_get (v := .ref 115) 0 zgo_114 rfl inX10 (by decide) zw_1178 rfl rfl dX10_weavesOne_122 ?_
                  refine z_sipush (v := nI 731) dX10_weavesOne_125 (by decide) ?_
                  refine z_bipush (v := nI 20) dX10_weavesOne_128 (by decide) ?_
                  refine z_iload_n 2 dX10_weavesOne_130 rfl rfl ?_
                  refine z_imulN (a := 20) (b := w) dX10_weavesOne_131 ?_
                  refine z_iaddN (a := 731) (b := 20 * w) dX10_weavesOne_132 ?_
                  refine z_iload_n 1 dX10_weavesOne_133 rfl rfl ?_
                  refine z_iaddN (a := 731 + 20 * w) (b := j) dX10_weavesOne_134 ?_
                  refine z_iload_n 0 dX10_weavesOne_135 rfl rfl ?_
                  refine z_if_ge (tgt := 143) dX10_weavesOne_136 (by decide) (fun c_136 => ?_) (fun c_136 => ?_)
                  · skip
                    have g_136 := Int32.not_lt.mpr c_136
                    refine z_aload_n 3 dX10_weavesOne_143 rfl rfl ?_
                    refine z_aload_n 3 dX10_weavesOne_144 rfl rfl ?_
                    refine z_get (v := .ref 119) 7 zgo_114 rfl inX10 (by decide) zw_1185 rfl rfl dX10_weavesOne_145 ?_
                    refine z_iload_n 1 dX10_weavesOne_148 rfl rfl ?_
                    refine z_ialdN (f := (zFl (rDl s c w) line c)) (n := 20) (j := j) zga_119 (by omega) (by decide) dX10_weavesOne_149 ?_
                    refine z_callV (N := mX10_takes) 1 [.int ((zFl (rDl s c w) line c) j)] [.int (nI (731 + 20 * w + j)), .ref 115] lX10_takes ⟨zw_1384, zw_1386, zw_69⟩ rfl zgo_114 rfl rfl (Nat.le_of_ble_eq_true rfl) (by decide) ⟨zlt, zlt⟩ ⟨Nat.zero_le _, Nat.zero_le _⟩ zal (m_takes hG (by first | exact zMd_it hM9 _ | exact zMd_tk (zMd_it hM9 _) | exact zMd_upd (zMd_tk (zMd_it hM9 _)) (by omega) | exact zMd_upd (zMd_it hM9 _) (by omega) | exact hM9) ((zFl (rDl s c w) line c) j)) dX10_weavesOne_150 ?_
                    refine z_iastN (f := (rTk (upd (rTk (zIt (rWst (zFl (rDl s c w) line c) w cnt) j s) ((zFl (rDl s c w) line c) j) cnt) (411 + 20 * w + j) ((zFl (rDl s c w) line c) j)) ((zFl (rDl s c w) line c) j) cnt)) (n := 1371) (j := 731 + 20 * w + j) zga_115 (by omega) (by decide) dX10_weavesOne_153 ?_
                    refine z_eqh (h2 := (zHp S X ((upd (rTk (upd (rTk (zIt (rWst (zFl (rDl s c w) line c) w cnt) j s) ((zFl (rDl s c w) line c) j) cnt) (411 + 20 * w + j) ((zFl (rDl s c w) line c) j)) ((zFl (rDl s c w) line c) j) cnt) (731 + 20 * w + j) (rIu (upd (rTk (zIt (rWst (zFl (rDl s c w) line c) w cnt) j s) ((zFl (rDl s c w) line c) j) cnt) (411 + 20 * w + j) ((zFl (rDl s c w) line c) j)) ((zFl (rDl s c w) line c) j) 0 cnt)), past, aside, pasts, txt, typed, thrown, (zFl (rDl s c w) line c), need, left, slits, slB, slF, slT, at9, wd9, got, ans, worst) out)) zsa_115 ?_
                    refine z_aload_n 3 dX10_weavesOne_154 rfl rfl ?_
                    refine z_get (v := .ref 115) 0 zgo_114 rfl inX10 (by decide) zw_1178 rfl rfl dX10_weavesOne_155 ?_
                    refine z_bipush (v := nI 71) dX10_weavesOne_158 (by decide) ?_
                    refine z_iload_n 1 dX10_weavesOne_160 rfl rfl ?_
                    refine z_iaddN (a := 71) (b := j) dX10_weavesOne_161 ?_
                    refine z_iconst (v := (-1)) dX10_weavesOne_162 (by decide) ?_
                    refine z_iastN (f := (upd (rTk (upd (rTk (zIt (rWst (zFl (rDl s c w) line c) w cnt) j s) ((zFl (rDl s c w) line c) j) cnt) (411 + 20 * w + j) ((zFl (rDl s c w) line c) j)) ((zFl (rDl s c w) line c) j) cnt) (731 + 20 * w + j) (rIu (upd (rTk (zIt (rWst (zFl (rDl s c w) line c) w cnt) j s) ((zFl (rDl s c w) line c) j) cnt) (411 + 20 * w + j) ((zFl (rDl s c w) line c) j)) ((zFl (rDl s c w) line c) j) 0 cnt))) (n := 1371) (j := 71 + j) zga_115 (by omega) (by decide) dX10_weavesOne_163 ?_
                    refine z_eqh (h2 := (zHp S X ((upd (upd (rTk (upd (rTk (zIt (rWst (zFl (rDl s c w) line c) w cnt) j s) ((zFl (rDl s c w) line c) j) cnt) (411 + 20 * w + j) ((zFl (rDl s c w) line c) j)) ((zFl (rDl s c w) line c) j) cnt) (731 + 20 * w + j) (rIu (upd (rTk (zIt (rWst (zFl (rDl s c w) line c) w cnt) j s) ((zFl (rDl s c w) line c) j) cnt) (411 + 20 * w + j) ((zFl (rDl s c w) line c) j)) ((zFl (rDl s c w) line c) j) 0 cnt)) (71 + j) (-1)), past, aside, pasts, txt, typed, thrown, (zFl (rDl s c w) line c), need, left, slits, slB, slF, slT, at9, wd9, got, ans, worst) out)) zsa_115 ?_
                    refine z_iinc (v := nI (j + 1)) (lv' := [(2, .int (nI (j + 1))), (3, .int (rIu (zIt (rWst (zFl (rDl s c w) line c) w cnt) j s) ((zFl (rDl s c w) line c) j) 0 cnt)), (1, .int (nI w)), (0, .ref 114)]) 1 dX10_weavesOne_164 rfl (nI_1 _) (by decide) rfl ?_
                    refine z_goto (tgt := 67) dX10_weavesOne_167 (by decide) ?_
                    refine z_sub [0, 2, 3] (lv' := [(2, .int (nI (j + 1))), (1, .int (nI w)), (0, .ref 114)]) rfl ?_
                    refine z_eqs (lv2 := [(2, .int (nI ((j + 1)))), (1, .int (nI w)), (0, .ref 114)]) (h2 := (zHp S X ((zIt (rWst (zFl (rDl s c w) line c) w cnt) (j + 1) s), past, aside, pasts, txt, typed, thrown, (zFl (rDl s c w) line c), need, left, slits, slB, slF, slT, at9, wd9, got, ans, worst) out)) (by rfl) (by simp [zIt, rWst, h00, c_12, f_12, c_35, f_35, c_74, f_74, b_82, c_136, g_136]) ?_
                    exact ih67 (j + 1) (by omega) (by omega)
                  · skip
                    have g_136 := Int32.not_le.mp c_136
                    refine z_iconst (v := (-1)) dX10_weavesOne_139 (by decide) ?_
                    refine z_goto (tgt := 153) dX10_weavesOne_140 (by decide) ?_
                    refine z_iastN (f := (upd (rTk (zIt (rWst (zFl (rDl s c w) line c) w cnt) j s) ((zFl (rDl s c w) line c) j) cnt) (411 + 20 * w + j) ((zFl (rDl s c w) line c) j))) (n := 1371) (j := 731 + 20 * w + j) zga_115 (by omega) (by decide) dX10_weavesOne_153 ?_
                    refine z_eqh (h2 := (zHp S X ((upd (upd (rTk (zIt (rWst (zFl (rDl s c w) line c) w cnt) j s) ((zFl (rDl s c w) line c) j) cnt) (411 + 20 * w + j) ((zFl (rDl s c w) line c) j)) (731 + 20 * w + j) (-1)), past, aside, pasts, txt, typed, thrown, (zFl (rDl s c w) line c), need, left, slits, slB, slF, slT, at9, wd9, got, ans, worst) out)) zsa_115 ?_
                    refine z_aload_n 3 dX10_weavesOne_154 rfl rfl ?_
                    refine z_get (v := .ref 115) 0 zgo_114 rfl inX10 (by decide) zw_1178 rfl rfl dX10_weavesOne_155 ?_
                    refine z_bipush (v := nI 71) dX10_weavesOne_158 (by decide) ?_
                    refine z_iload_n 1 dX10_weavesOne_160 rfl rfl ?_
                    refine z_iaddN (a := 71) (b := j) dX10_weavesOne_161 ?_
                    refine z_iconst (v := (-1)) dX10_weavesOne_162 (by decide) ?_
                    refine z_iastN (f := (upd (upd (rTk (zIt (rWst (zFl (rDl s c w) line c) w cnt) j s) ((zFl (rDl s c w) line c) j) cnt) (411 + 20 * w + j) ((zFl (rDl s c w) line c) j)) (731 + 20 * w + j) (-1))) (n := 1371) (j := 71 + j) zga_115 (by omega) (by decide) dX10_weavesOne_163 ?_
                    refine z_eqh (h2 := (zHp S X ((upd (upd (upd (rTk (zIt (rWst (zFl (rDl s c w) line c) w cnt) j s) ((zFl (rDl s c w) line c) j) cnt) (411 + 20 * w + j) ((zFl (rDl s c w) line c) j)) (731 + 20 * w + j) (-1)) (71 + j) (-1)), past, aside, pasts, txt, typed, thrown, (zFl (rDl s c w) line c), need, left, slits, slB, slF, slT, at9, wd9, got, ans, worst) out)) zsa_115 ?_
                    refine z_iinc (v := nI (j + 1)) (lv' := [(2, .int (nI (j + 1))), (3, .int (rIu (zIt (rWst (zFl (rDl s c w) line c) w cnt) j s) ((zFl (rDl s c w) line c) j) 0 cnt)), (1, .int (nI w)), (0, .ref 114)]) 1 dX10_weavesOne_164 rfl (nI_1 _) (by decide) rfl ?_
                    refine z_goto (tgt := 67) dX10_weavesOne_167 (by decide) ?_
                    refine z_sub [0, 2, 3] (lv' := [(2, .int (nI (j + 1))), (1, .int (nI w)), (0, .ref 114)]) rfl ?_
                    refine z_eqs (lv2 := [(2, .int (nI ((j + 1)))), (1, .int (nI w)), (0, .ref 114)]) (h2 := (zHp S X ((zIt (rWst (zFl (rDl s c w) line c) w cnt) (j + 1) s), past, aside, pasts, txt, typed, thrown, (zFl (rDl s c w) line c), need, left, slits, slB, slF, slT, at9, wd9, got, ans, worst) out)) (by rfl) (by simp [zIt, rWst, h00, c_12, f_12, c_35, f_35, c_74, f_74, b_82, c_136, g_136]) ?_
                    exact ih67 (j + 1) (by omega) (by omega)
          refine z_sub [0, 1, 2] (lv' := [(2, .int (nI 0)), (1, .int (nI w)), (0, .ref 114)]) rfl ?_
          refine z_eqs (lv2 := [(2, .int (nI 0)), (1, .int (nI w)), (0, .ref 114)]) (h2 := (zHp S X ((zIt (rWst (zFl (rDl s c w) line c) w cnt) 0 s), past, aside, pasts, txt, typed, thrown, (zFl (rDl s c w) line c), need, left, slits, slB, slF, slT, at9, wd9, got, ans, worst) out)) (by rfl) (by rfl) ?_
          exact L67_2 (c + 1) 0 (by omega) (by omega)
        · skip
          have f_35 := m_nle (by omega) (by omega) c_35
          refine z_aload_n 2 dX10_weavesOne_38 rfl rfl ?_
          refine z_iload_n 0 dX10_weavesOne_39 rfl rfl ?_
          refine z_callV (N := mX10_runsOf) 1 [.int (nI k)] [] lX10_runsOf ⟨zw_1364, zw_1366, zw_64⟩ rfl zgo_114 rfl rfl (Nat.le_of_ble_eq_true rfl) (by decide) ⟨zlt, zlt⟩ ⟨Nat.zero_le _, Nat.zero_le _⟩ (fun _ => rfl) (m_runsOf hG (by first | exact zMd_it hM9 _ | exact zMd_tk (zMd_it hM9 _) | exact zMd_upd (zMd_tk (zMd_it hM9 _)) (by omega) | exact zMd_upd (zMd_it hM9 _) (by omega) | exact hM9) (nI k)) dX10_weavesOne_40 ?_
          refine z_aload_n 2 dX10_weavesOne_43 rfl rfl ?_
          refine z_iload_n 0 dX10_weavesOne_44 rfl rfl ?_
          refine z_callV (N := mX10_cellsOf) 1 [.int (nI k)] [.int (nI (zCt (fun b => (zFl (rDl s c w) line c) b == nI k && rBeg (zFl (rDl s c w) line c) b) c))] lX10_cellsOf ⟨zw_1372, zw_1374, zw_66⟩ rfl zgo_114 rfl rfl (Nat.le_of_ble_eq_true rfl) (by decide) ⟨zlt, zlt⟩ ⟨Nat.zero_le _, Nat.zero_le _⟩ (fun _ => rfl) (m_cellsOf hG (by first | exact zMd_it hM9 _ | exact zMd_tk (zMd_it hM9 _) | exact zMd_upd (zMd_tk (zMd_it hM9 _)) (by omega) | exact zMd_upd (zMd_it hM9 _) (by omega) | exact hM9) (nI k)) dX10_weavesOne_45 ?_
          refine z_iaddN (a := zCt (fun b => (zFl (rDl s c w) line c) b == nI k && rBeg (zFl (rDl s c w) line c) b) c) (b := zCt (fun b => (zFl (rDl s c w) line c) b == nI k) c) dX10_weavesOne_48 ?_
          refine z_aload_n 2 dX10_weavesOne_49 rfl rfl ?_
          refine z_iload_n 0 dX10_weavesOne_50 rfl rfl ?_
          refine z_callV (N := mX10_unitsOf) 1 [.int (nI k)] [.int (nI ((zCt (fun b => (zFl (rDl s c w) line c) b == nI k && rBeg (zFl (rDl s c w) line c) b) c) + zCt (fun b => (zFl (rDl s c w) line c) b == nI k) c))] lX10_unitsOf ⟨zw_1376, zw_1378, zw_67⟩ rfl zgo_114 rfl rfl (Nat.le_of_ble_eq_true rfl) (by decide) ⟨zlt, zlt⟩ ⟨Nat.zero_le _, Nat.zero_le _⟩ (fun _ => rfl) (m_unitsOf hG (by first | exact zMd_it hM9 _ | exact zMd_tk (zMd_it hM9 _) | exact zMd_upd (zMd_tk (zMd_it hM9 _)) (by omega) | exact zMd_upd (zMd_it hM9 _) (by omega) | exact hM9) (nI k)) dX10_weavesOne_51 ?_
          refine z_icmp_le (tgt := 59) dX10_weavesOne_54 (by decide) (fun c_54 => ?_) (fun c_54 => ?_)
          · skip
            refine z_iinc (v := nI (k + 1)) (lv' := [(2, .int (nI (k + 1))), (1, .int (nI w)), (0, .ref 114)]) 0 dX10_weavesOne_59 rfl (nI_1 _) (by decide) rfl ?_
            refine z_goto (tgt := 32) dX10_weavesOne_62 (by decide) ?_
            refine z_sub [0, 1, 2] (lv' := [(2, .int (nI (k + 1))), (1, .int (nI w)), (0, .ref 114)]) rfl ?_
            refine z_eqs (lv2 := [(2, .int (nI ((k + 1)))), (1, .int (nI w)), (0, .ref 114)]) (h2 := (zHp S X (s, past, aside, pasts, txt, typed, thrown, (zFl (rDl s c w) line c), need, left, slits, slB, slF, slT, at9, wd9, got, ans, worst) out)) (by rfl) (by rfl) ?_
            exact ih32 (k + 1) (by omega) (by omega)
          · exfalso; exact c_54 (of_decide_eq_true (hall k (by omega)))
    refine z_sub [0, 1, 2] (lv' := [(2, .int (nI 0)), (1, .int (nI w)), (0, .ref 114)]) rfl ?_
    refine z_eqs (lv2 := [(2, .int (nI 0)), (1, .int (nI w)), (0, .ref 114)]) (h2 := (zHp S X (s, past, aside, pasts, txt, typed, thrown, (zFl (rDl s c w) line c), need, left, slits, slB, slF, slT, at9, wd9, got, ans, worst) out)) (by rfl) (by rfl) ?_
    exact L32_1 (8 + 1) 0 (by omega) (by omega)
  · exfalso; have := m_eq (by omega) (by omega) c_12; omega

set_option maxHeartbeats 4000000 in
set_option maxRecDepth 100000 in
theorem m_weavesOne_no {G : zT} {S : zS} {X : zXr} {out : Nat → Int64} {s : (Nat → Int32)} {past : (Nat → Int32)} {aside : (Nat → Int32)} {pasts : Nat} {txt : (Nat → Int32)} {typed : Nat} {thrown : Int32} {line : (Nat → Int32)} {need : (Nat → Int32)} {left : (Nat → Int32)} {slits : Nat} {slB : (Nat → Int32)} {slF : (Nat → Int32)} {slT : (Nat → Int32)} {at9 : Nat} {wd9 : Int32} {got : (Nat → Int32)} {ans : Int32} {worst : UInt32} (hG : zAl G = false) {c r w cnt lim : Nat} (hM : zMd s c r w cnt lim) (hwr : w < r) (hno : ∃ v, v < 8 ∧ rEno s (zFl (rDl s c w) line c) c cnt v = false) : zRun G mX10_weavesOne 0 0 [.ref 114] (zHp S X (s, past, aside, pasts, txt, typed, thrown, line, need, left, slits, slB, slF, slT, at9, wd9, got, ans, worst) out) (.inr (some (.int (nI 0)))) (zHp S X (s, past, aside, pasts, txt, typed, thrown, (zFl (rDl s c w) line c), need, left, slits, slB, slF, slT, at9, wd9, got, ans, worst) out) := by
  have hM9 := hM
  obtain ⟨h0, h1, h2, h3, h4, hc1, hc, hr1, hr, hw, hn, hl⟩ := hM
  refine zRun_of (by decide +kernel) rfl rfl (Nat.le_of_ble_eq_true rfl) ?_
  suffices hs : ∀ (o9 : zO) (h9 : zH), (Sum.inr (some (.int (nI 0))) : zO) = o9 → (zHp S X (s, past, aside, pasts, txt, typed, thrown, (zFl (rDl s c w) line c), need, left, slits, slB, slF, slT, at9, wd9, got, ans, worst) out) = h9 → zPW G mX10_weavesOne 0 0 o9 h9 0 0 0 [(0, .ref 114)] [] (zHp S X (s, past, aside, pasts, txt, typed, thrown, line, need, left, slits, slB, slF, slT, at9, wd9, got, ans, worst) out) from hs _ _ rfl rfl
  intro o9 h9 ho9 hh9
  refine z_aload_n 0 dX10_weavesOne_0 rfl rfl ?_
  refine z_get (v := .ref 115) 0 zgo_114 rfl inX10 (by decide) zw_1178 rfl rfl dX10_weavesOne_1 ?_
  refine z_iconst (v := nI 2) dX10_weavesOne_4 (by decide) ?_
  refine z_ialdN (f := s) (n := 1371) (j := 2) zga_115 (by omega) (by decide) dX10_weavesOne_5 ?_
  refine z_top (v2 := .int (nI w)) (by rw [h2]) ?_
  refine z_aload_n 0 dX10_weavesOne_6 rfl rfl ?_
  refine z_get (v := .ref 115) 0 zgo_114 rfl inX10 (by decide) zw_1178 rfl rfl dX10_weavesOne_7 ?_
  refine z_iconst (v := nI 1) dX10_weavesOne_10 (by decide) ?_
  refine z_ialdN (f := s) (n := 1371) (j := 1) zga_115 (by omega) (by decide) dX10_weavesOne_11 ?_
  refine z_top (v2 := .int (nI r)) (by rw [h1]) ?_
  refine z_icmp_ne (tgt := 17) dX10_weavesOne_12 (by decide) (fun c_12 => ?_) (fun c_12 => ?_)
  · skip
    have f_12 := m_ne (by omega) (by omega) c_12
    refine z_aload_n 0 dX10_weavesOne_17 rfl rfl ?_
    refine z_get (v := .ref 115) 0 zgo_114 rfl inX10 (by decide) zw_1178 rfl rfl dX10_weavesOne_18 ?_
    refine z_iconst (v := nI 2) dX10_weavesOne_21 (by decide) ?_
    refine z_ialdN (f := s) (n := 1371) (j := 2) zga_115 (by omega) (by decide) dX10_weavesOne_22 ?_
    refine z_top (v2 := .int (nI w)) (by rw [h2]) ?_
    refine z_istore_n (lv' := [(1, .int (nI w)), (0, .ref 114)]) dX10_weavesOne_23 rfl (by decide) rfl ?_
    refine z_aload_n 1 dX10_weavesOne_24 rfl rfl ?_
    refine z_iload_n 0 dX10_weavesOne_25 rfl rfl ?_
    refine z_iconst (v := nI 1) dX10_weavesOne_26 (by decide) ?_
    refine z_callV (N := mX10_draws) 2 [.int (nI w), .int (nI 1)] [] lX10_draws ⟨zw_1356, zw_1358, zw_62⟩ rfl zgo_114 rfl rfl (Nat.le_of_ble_eq_true rfl) (by decide) ⟨zlt, zlt⟩ ⟨Nat.zero_le _, Nat.zero_le _⟩ zal (m_draws1 hG hM9 w (by omega)) dX10_weavesOne_27 ?_
    refine z_iconst (v := nI 0) dX10_weavesOne_30 (by decide) ?_
    refine z_istore_n (lv' := [(2, .int (nI 0)), (1, .int (nI w)), (0, .ref 114)]) dX10_weavesOne_31 rfl (by decide) rfl ?_
    have L32_1 : ∀ (d k : Nat), k ≤ 8 → 8 + 1 ≤ k + d → (∃ v, k ≤ v ∧ v < 8 ∧ rEno s (zFl (rDl s c w) line c) c cnt v = false) → zPW G mX10_weavesOne 0 0 o9 h9 0 0 32 [(2, .int (nI k)), (1, .int (nI w)), (0, .ref 114)] [] (zHp S X (s, past, aside, pasts, txt, typed, thrown, (zFl (rDl s c w) line c), need, left, slits, slB, slF, slT, at9, wd9, got, ans, worst) out) := by
      intro d
      induction d with
      | zero => intro k hk hd; exact absurd hd (by omega)
      | succ d ih =>
        intro k hk_k hd_k he_k
        have ih32 := ih
        clear ih
        refine z_iload_n 0 dX10_weavesOne_32 rfl rfl ?_
        refine z_bipush (v := nI 8) dX10_weavesOne_33 (by decide) ?_
        refine z_icmp_ge (tgt := 65) dX10_weavesOne_35 (by decide) (fun c_35 => ?_) (fun c_35 => ?_)
        · exfalso; have := m_le (by omega) (by omega) c_35; obtain ⟨v, q1, q2, -⟩ := he_k; omega
        · skip
          have f_35 := m_nle (by omega) (by omega) c_35
          refine z_aload_n 2 dX10_weavesOne_38 rfl rfl ?_
          refine z_iload_n 0 dX10_weavesOne_39 rfl rfl ?_
          refine z_callV (N := mX10_runsOf) 1 [.int (nI k)] [] lX10_runsOf ⟨zw_1364, zw_1366, zw_64⟩ rfl zgo_114 rfl rfl (Nat.le_of_ble_eq_true rfl) (by decide) ⟨zlt, zlt⟩ ⟨Nat.zero_le _, Nat.zero_le _⟩ (fun _ => rfl) (m_runsOf hG hM9 (nI k)) dX10_weavesOne_40 ?_
          refine z_aload_n 2 dX10_weavesOne_43 rfl rfl ?_
          refine z_iload_n 0 dX10_weavesOne_44 rfl rfl ?_
          refine z_callV (N := mX10_cellsOf) 1 [.int (nI k)] [.int (nI (zCt (fun b => (zFl (rDl s c w) line c) b == nI k && rBeg (zFl (rDl s c w) line c) b) c))] lX10_cellsOf ⟨zw_1372, zw_1374, zw_66⟩ rfl zgo_114 rfl rfl (Nat.le_of_ble_eq_true rfl) (by decide) ⟨zlt, zlt⟩ ⟨Nat.zero_le _, Nat.zero_le _⟩ (fun _ => rfl) (m_cellsOf hG hM9 (nI k)) dX10_weavesOne_45 ?_
          refine z_iaddN (a := zCt (fun b => (zFl (rDl s c w) line c) b == nI k && rBeg (zFl (rDl s c w) line c) b) c) (b := zCt (fun b => (zFl (rDl s c w) line c) b == nI k) c) dX10_weavesOne_48 ?_
          refine z_aload_n 2 dX10_weavesOne_49 rfl rfl ?_
          refine z_iload_n 0 dX10_weavesOne_50 rfl rfl ?_
          refine z_callV (N := mX10_unitsOf) 1 [.int (nI k)] [.int (nI ((zCt (fun b => (zFl (rDl s c w) line c) b == nI k && rBeg (zFl (rDl s c w) line c) b) c) + zCt (fun b => (zFl (rDl s c w) line c) b == nI k) c))] lX10_unitsOf ⟨zw_1376, zw_1378, zw_67⟩ rfl zgo_114 rfl rfl (Nat.le_of_ble_eq_true rfl) (by decide) ⟨zlt, zlt⟩ ⟨Nat.zero_le _, Nat.zero_le _⟩ (fun _ => rfl) (m_unitsOf hG hM9 (nI k)) dX10_weavesOne_51 ?_
          refine z_icmp_le (tgt := 59) dX10_weavesOne_54 (by decide) (fun c_54 => ?_) (fun c_54 => ?_)
          · skip
            have he2 : ∃ v, k + 1 ≤ v ∧ v < 8 ∧ rEno s (zFl (rDl s c w) line c) c cnt v = false := by
              obtain ⟨v, q1, q2, q3⟩ := he_k
              rcases Nat.lt_or_ge k v with z | z
              · exact ⟨v, z, q2, q3⟩
              · have e : v = k := by omega
                subst e
                unfold rEno at q3
                exact absurd c_54 (of_decide_eq_false q3)
            refine z_iinc (v := nI (k + 1)) (lv' := [(2, .int (nI (k + 1))), (1, .int (nI w)), (0, .ref 114)]) 0 dX10_weavesOne_59 rfl (nI_1 _) (by decide) rfl ?_
            refine z_goto (tgt := 32) dX10_weavesOne_62 (by decide) ?_
            refine z_sub [0, 1, 2] (lv' := [(2, .int (nI (k + 1))), (1, .int (nI w)), (0, .ref 114)]) rfl ?_
            refine z_eqs (lv2 := [(2, .int (nI ((k + 1)))), (1, .int (nI w)), (0, .ref 114)]) (h2 := (zHp S X (s, past, aside, pasts, txt, typed, thrown, (zFl (rDl s c w) line c), need, left, slits, slB, slF, slT, at9, wd9, got, ans, worst) out)) (by rfl) (by rfl) ?_
            exact ih32 (k + 1) (by omega) (by omega) he2
          · skip
            refine z_iconst (v := nI 0) dX10_weavesOne_57 (by decide) ?_
            exact z_zret rfl (by decide) dX10_weavesOne_58 (zo_i ho9 (by rfl)) (zo_h hh9 (by rfl)) (Nat.zero_le _) (Nat.zero_le _)
    refine z_sub [0, 1, 2] (lv' := [(2, .int (nI 0)), (1, .int (nI w)), (0, .ref 114)]) rfl ?_
    refine z_eqs (lv2 := [(2, .int (nI 0)), (1, .int (nI w)), (0, .ref 114)]) (h2 := (zHp S X (s, past, aside, pasts, txt, typed, thrown, (zFl (rDl s c w) line c), need, left, slits, slB, slF, slT, at9, wd9, got, ans, worst) out)) (by rfl) (by rfl) ?_
    exact L32_1 (8 + 1) 0 (by omega) (by omega) (by obtain ⟨v, q1, q2⟩ := hno; exact ⟨v, Nat.zero_le _, q1, q2⟩)
  · exfalso; have := m_eq (by omega) (by omega) c_12; omega

set_option maxHeartbeats 4000000 in
set_option maxRecDepth 100000 in
theorem m_finds {G : zT} {S : zS} {X : zXr} {out : Nat → Int64} {s : (Nat → Int32)} {past : (Nat → Int32)} {aside : (Nat → Int32)} {pasts : Nat} {txt : (Nat → Int32)} {typed : Nat} {thrown : Int32} {line : (Nat → Int32)} {need : (Nat → Int32)} {left : (Nat → Int32)} {slits : Nat} {slB : (Nat → Int32)} {slF : (Nat → Int32)} {slT : (Nat → Int32)} {at9 : Nat} {wd9 : Int32} {got : (Nat → Int32)} {ans : Int32} {worst : UInt32} (hG : zAl G = false) {c r w cnt lim : Nat} (hM : zMd s c r w cnt lim) (lm : Nat) (hlm : lm ≤ 16) : zRun G mX10_finds 0 0 [.ref 114, .int (nI lm)] (zHp S X (s, past, aside, pasts, txt, typed, thrown, line, need, left, slits, slB, slF, slT, at9, wd9, got, ans, worst) out) (.inr none) (zHp S X (s, past, aside, pasts, txt, typed, thrown, line, need, left, (rFd s w lm (c - 1) (0, slB, slF, slT)).1, (rFd s w lm (c - 1) (0, slB, slF, slT)).2.1, (rFd s w lm (c - 1) (0, slB, slF, slT)).2.2.1, (rFd s w lm (c - 1) (0, slB, slF, slT)).2.2.2, at9, wd9, got, ans, worst) out) := by
  have hM9 := hM
  obtain ⟨h0, h1, h2, h3, h4, hc1, hc, hr1, hr, hw, hn, hl⟩ := hM
  refine zRun_of (by decide +kernel) rfl rfl (Nat.le_of_ble_eq_true rfl) ?_
  suffices hs : ∀ (o9 : zO) (h9 : zH), (Sum.inr none : zO) = o9 → (zHp S X (s, past, aside, pasts, txt, typed, thrown, line, need, left, (rFd s w lm (c - 1) (0, slB, slF, slT)).1, (rFd s w lm (c - 1) (0, slB, slF, slT)).2.1, (rFd s w lm (c - 1) (0, slB, slF, slT)).2.2.1, (rFd s w lm (c - 1) (0, slB, slF, slT)).2.2.2, at9, wd9, got, ans, worst) out) = h9 → zPW G mX10_finds 0 0 o9 h9 0 0 0 [(0, .ref 114), (1, .int (nI lm))] [] (zHp S X (s, past, aside, pasts, txt, typed, thrown, line, need, left, slits, slB, slF, slT, at9, wd9, got, ans, worst) out) from hs _ _ rfl rfl
  intro o9 h9 ho9 hh9
  refine z_aload_n 0 dX10_finds_0 rfl rfl ?_
  refine z_iconst (v := nI 0) dX10_finds_1 (by decide) ?_
  refine z_puti 10 tyX10 zgo_114 rfl inX10 tyX10_ok nmX10 (by decide) zw_1188 rfl rfl (by decide +kernel) (Nat.le_of_ble_eq_true rfl) dX10_finds_2 ?_
  refine z_eqh (h2 := (zHp S X (s, past, aside, pasts, txt, typed, thrown, line, need, left, 0, slB, slF, slT, at9, wd9, got, ans, worst) out)) zsf_114_10 ?_
  refine z_iconst (v := nI 0) dX10_finds_5 (by decide) ?_
  refine z_istore_n (lv' := [(2, .int (nI 0)), (0, .ref 114), (1, .int (nI lm))]) dX10_finds_6 rfl (by decide) rfl ?_
  have L7_1 : ∀ (d k : Nat), k ≤ c - 1 → c - 1 + 1 ≤ k + d → zPW G mX10_finds 0 0 o9 h9 0 0 7 [(2, .int (nI k)), (0, .ref 114), (1, .int (nI lm))] [] (zHp S X (s, past, aside, pasts, txt, typed, thrown, line, need, left, (rFd s w lm k (0, slB, slF, slT)).1, (rFd s w lm k (0, slB, slF, slT)).2.1, (rFd s w lm k (0, slB, slF, slT)).2.2.1, (rFd s w lm k (0, slB, slF, slT)).2.2.2, at9, wd9, got, ans, worst) out) := by
    intro d
    induction d with
    | zero => intro k hk hd; exact absurd hd (by omega)
    | succ d ih =>
      intro k hk_k hd_k
      have ih7 := ih
      clear ih
      refine z_iload_n 0 dX10_finds_7 rfl rfl ?_
      refine z_iconst (v := nI 1) dX10_finds_8 (by decide) ?_
      refine z_iaddN (a := k) (b := 1) dX10_finds_9 ?_
      refine z_aload_n 1 dX10_finds_10 rfl rfl ?_
      refine z_get (v := .ref 115) 0 zgo_114 rfl inX10 (by decide) zw_1178 rfl rfl dX10_finds_11 ?_
      refine z_iconst (v := nI 0) dX10_finds_14 (by decide) ?_
      refine z_ialdN (f := s) (n := 1371) (j := 0) zga_115 (by omega) (by decide) dX10_finds_15 ?_
      refine z_top (v2 := .int (nI c)) (by rw [h0]) ?_
      refine z_icmp_ge (tgt := 129) dX10_finds_16 (by decide) (fun c_16 => ?_) (fun c_16 => ?_)
      · skip
        have f_16 := m_le (by omega) (by omega) c_16
        have e_k : k = c - 1 := by omega
        rw [e_k]
        exact z_vret rfl dX10_finds_129 ho9.symm (zo_h hh9 (by rfl)) (Nat.zero_le _) (Nat.zero_le _)
      · skip
        have f_16 := m_nle (by omega) (by omega) c_16
        refine z_iconst (v := nI 0) dX10_finds_19 (by decide) ?_
        refine z_istore_n (lv' := [(3, .int (nI 0)), (2, .int (nI k)), (0, .ref 114), (1, .int (nI lm))]) dX10_finds_20 rfl (by decide) rfl ?_
        refine z_iconst (v := nI 0) dX10_finds_21 (by decide) ?_
        refine z_istore (lv' := [(4, .int (nI 0)), (3, .int (nI 0)), (2, .int (nI k)), (0, .ref 114), (1, .int (nI lm))]) dX10_finds_22 (by decide) rfl ?_
        have L24_2 : ∀ (d j : Nat), j ≤ w → w + 1 ≤ j + d → zPW G mX10_finds 0 0 o9 h9 0 0 24 [(4, .int (nI j)), (3, .int (nI (rFr s w k j))), (2, .int (nI k)), (0, .ref 114), (1, .int (nI lm))] [] (zHp S X (s, past, aside, pasts, txt, typed, thrown, line, need, left, (rFdI s w lm k j (rFd s w lm k (0, slB, slF, slT))).1, (rFdI s w lm k j (rFd s w lm k (0, slB, slF, slT))).2.1, (rFdI s w lm k j (rFd s w lm k (0, slB, slF, slT))).2.2.1, (rFdI s w lm k j (rFd s w lm k (0, slB, slF, slT))).2.2.2, at9, wd9, got, ans, worst) out) := by
          intro d
          induction d with
          | zero => intro j hk hd; exact absurd hd (by omega)
          | succ d ih =>
            intro j hk_j hd_j
            have ih24 := ih
            clear ih
            refine z_iload 0 dX10_finds_24 rfl ?_
            refine z_aload_n 3 dX10_finds_26 rfl rfl ?_
            refine z_get (v := .ref 115) 0 zgo_114 rfl inX10 (by decide) zw_1178 rfl rfl dX10_finds_27 ?_
            refine z_iconst (v := nI 2) dX10_finds_30 (by decide) ?_
            refine z_ialdN (f := s) (n := 1371) (j := 2) zga_115 (by omega) (by decide) dX10_finds_31 ?_
            refine z_top (v2 := .int (nI w)) (by rw [h2]) ?_
            refine z_icmp_ge (tgt := 123) dX10_finds_32 (by decide) (fun c_32 => ?_) (fun c_32 => ?_)
            · skip
              have f_32 := m_le (by omega) (by omega) c_32
              have e_j : j = w := by omega
              rw [e_j]
              refine z_iinc (v := nI (k + 1)) (lv' := [(2, .int (nI (k + 1))), (4, .int (nI w)), (3, .int (nI (rFr s w k w))), (0, .ref 114), (1, .int (nI lm))]) 2 dX10_finds_123 rfl (nI_1 _) (by decide) rfl ?_
              refine z_goto (tgt := 7) dX10_finds_126 (by decide) ?_
              refine z_sub [0, 3, 4] (lv' := [(2, .int (nI (k + 1))), (0, .ref 114), (1, .int (nI lm))]) rfl ?_
              refine z_eqs (lv2 := [(2, .int (nI ((k + 1)))), (0, .ref 114), (1, .int (nI lm))]) (h2 := (zHp S X (s, past, aside, pasts, txt, typed, thrown, line, need, left, (rFd s w lm (k + 1) (0, slB, slF, slT)).1, (rFd s w lm (k + 1) (0, slB, slF, slT)).2.1, (rFd s w lm (k + 1) (0, slB, slF, slT)).2.2.1, (rFd s w lm (k + 1) (0, slB, slF, slT)).2.2.2, at9, wd9, got, ans, worst) out)) (by rfl) (by rfl) ?_
              exact ih7 (k + 1) (by omega) (by omega)
            · skip
              have f_32 := m_nle (by omega) (by omega) c_32
              have J53_68 : zPW G mX10_finds 0 0 o9 h9 0 0 53 [(4, .int (nI j)), (3, .int (nI (rFr s w k j))), (2, .int (nI k)), (0, .ref 114), (1, .int (nI lm))] [.int (nI (rFr s w k (j + 1)))] (zHp S X (s, past, aside, pasts, txt, typed, thrown, line, need, left, (rFdI s w lm k j (rFd s w lm k (0, slB, slF, slT))).1, (rFdI s w lm k j (rFd s w lm k (0, slB, slF, slT))).2.1, (rFdI s w lm k j (rFd s w lm k (0, slB, slF, slT))).2.2.1, (rFdI s w lm k j (rFd s w lm k (0, slB, slF, slT))).2.2.2, at9, wd9, got, ans, worst) out) := by
                refine z_istore_n (lv' := [(3, .int (nI (rFr s w k (j + 1)))), (4, .int (nI j)), (2, .int (nI k)), (0, .ref 114), (1, .int (nI lm))]) dX10_finds_53 rfl (by decide) rfl ?_
                refine z_aload_n 3 dX10_finds_54 rfl rfl ?_
                refine z_iload 1 dX10_finds_55 rfl ?_
                refine z_iconst (v := nI 1) dX10_finds_57 (by decide) ?_
                refine z_iaddN (a := j) (b := 1) dX10_finds_58 ?_
                refine z_iload_n 2 dX10_finds_59 rfl rfl ?_
                refine z_callV (N := mX10_parts) 2 [.int (nI (j + 1)), .int (nI k)] [] lX10_parts ⟨zw_1320, zw_1322, zw_55⟩ rfl zgo_114 rfl rfl (Nat.le_of_ble_eq_true rfl) (by decide) ⟨zlt, zlt⟩ ⟨Nat.zero_le _, Nat.zero_le _⟩ (fun _ => rfl) (m_parts hG hM9 (j + 1) k (by omega) (by omega)) dX10_finds_60 ?_
                refine z_if_ne (tgt := 117) dX10_finds_63 (by decide) (fun c_63 => ?_) (fun c_63 => ?_)
                · skip
                  have b_63 := zB_tt c_63
                  refine z_iinc (v := nI (j + 1)) (lv' := [(4, .int (nI (j + 1))), (3, .int (nI (rFr s w k (j + 1)))), (2, .int (nI k)), (0, .ref 114), (1, .int (nI lm))]) 1 dX10_finds_117 rfl (nI_1 _) (by decide) rfl ?_
                  refine z_goto (tgt := 24) dX10_finds_120 (by decide) ?_
                  refine z_sub [0, 1, 2, 3, 4] (lv' := [(4, .int (nI (j + 1))), (3, .int (nI (rFr s w k (j + 1)))), (2, .int (nI k)), (0, .ref 114), (1, .int (nI lm))]) rfl ?_
                  refine z_eqs (lv2 := [(4, .int (nI ((j + 1)))), (3, .int (nI (rFr s w k (j + 1)))), (2, .int (nI k)), (0, .ref 114), (1, .int (nI lm))]) (h2 := (zHp S X (s, past, aside, pasts, txt, typed, thrown, line, need, left, (rFdI s w lm k (j + 1) (rFd s w lm k (0, slB, slF, slT))).1, (rFdI s w lm k (j + 1) (rFd s w lm k (0, slB, slF, slT))).2.1, (rFdI s w lm k (j + 1) (rFd s w lm k (0, slB, slF, slT))).2.2.1, (rFdI s w lm k (j + 1) (rFd s w lm k (0, slB, slF, slT))).2.2.2, at9, wd9, got, ans, worst) out)) (by rfl) (by first | (rw [rFdI_t (show rPu s w lm k j = true by rw [rPu, b_63, decide_eq_true f_73]; rfl)]; rfl) | rw [rFdI_f (show rPu s w lm k j = false by rw [rPu, b_63, decide_eq_false (by omega)]; rfl)] | rw [rFdI_f (show rPu s w lm k j = false by rw [rPu, b_63]; rfl)]) ?_
                  exact ih24 (j + 1) (by omega) (by omega)
                · skip
                  have b_63 := zB_0.mp c_63
                  refine z_iload 1 dX10_finds_66 rfl ?_
                  refine z_iconst (v := nI 1) dX10_finds_68 (by decide) ?_
                  refine z_iaddN (a := j) (b := 1) dX10_finds_69 ?_
                  refine z_iload_n 0 dX10_finds_70 rfl rfl ?_
                  refine z_isubN (a := j + 1) (b := rFr s w k (j + 1)) (by exact rFr_le _) dX10_finds_71 ?_
                  refine z_iload_n 4 dX10_finds_72 rfl rfl ?_
                  refine z_icmp_le (tgt := 117) dX10_finds_73 (by decide) (fun c_73 => ?_) (fun c_73 => ?_)
                  · skip
                    have f_73 := m_le (by omega) (by omega) c_73
                    refine z_iinc (v := nI (j + 1)) (lv' := [(4, .int (nI (j + 1))), (3, .int (nI (rFr s w k (j + 1)))), (2, .int (nI k)), (0, .ref 114), (1, .int (nI lm))]) 1 dX10_finds_117 rfl (nI_1 _) (by decide) rfl ?_
                    refine z_goto (tgt := 24) dX10_finds_120 (by decide) ?_
                    refine z_sub [0, 1, 2, 3, 4] (lv' := [(4, .int (nI (j + 1))), (3, .int (nI (rFr s w k (j + 1)))), (2, .int (nI k)), (0, .ref 114), (1, .int (nI lm))]) rfl ?_
                    refine z_eqs (lv2 := [(4, .int (nI ((j + 1)))), (3, .int (nI (rFr s w k (j + 1)))), (2, .int (nI k)), (0, .ref 114), (1, .int (nI lm))]) (h2 := (zHp S X (s, past, aside, pasts, txt, typed, thrown, line, need, left, (rFdI s w lm k (j + 1) (rFd s w lm k (0, slB, slF, slT))).1, (rFdI s w lm k (j + 1) (rFd s w lm k (0, slB, slF, slT))).2.1, (rFdI s w lm k (j + 1) (rFd s w lm k (0, slB, slF, slT))).2.2.1, (rFdI s w lm k (j + 1) (rFd s w lm k (0, slB, slF, slT))).2.2.2, at9, wd9, got, ans, worst) out)) (by rfl) (by first | (rw [rFdI_t (show rPu s w lm k j = true by rw [rPu, b_63, decide_eq_true f_73]; rfl)]; rfl) | rw [rFdI_f (show rPu s w lm k j = false by rw [rPu, b_63, decide_eq_false (by omega)]; rfl)] | rw [rFdI_f (show rPu s w lm k j = false by rw [rPu, b_63]; rfl)]) ?_
                    exact ih24 (j + 1) (by omega) (by omega)
                  · skip
                    have f_73 := m_nle (by omega) (by omega) c_73
                    have hq160 := rFd_lt (s := s) (lm := lm) (B := slB) (F := slF) (T := slT) (show w ≤ 16 by omega) (show k ≤ 18 by omega) f_32
                    refine z_aload_n 3 dX10_finds_76 rfl rfl ?_
                    refine z_get (v := .ref 122) 11 zgo_114 rfl inX10 (by decide) zw_1189 rfl rfl dX10_finds_77 ?_
                    refine z_aload_n 3 dX10_finds_80 rfl rfl ?_
                    refine z_get (v := .int (nI ((rFdI s w lm k j (rFd s w lm k (0, slB, slF, slT))).1))) 10 zgo_114 rfl inX10 (by decide) zw_1188 rfl rfl dX10_finds_81 ?_
                    refine z_iload_n 2 dX10_finds_84 rfl rfl ?_
                    refine z_iastN (f := (rFdI s w lm k j (rFd s w lm k (0, slB, slF, slT))).2.1) (n := 160) (j := (rFdI s w lm k j (rFd s w lm k (0, slB, slF, slT))).1) zga_122 (by exact hq160) (by decide) dX10_finds_85 ?_
                    refine z_eqh (h2 := (zHp S X (s, past, aside, pasts, txt, typed, thrown, line, need, left, (rFdI s w lm k j (rFd s w lm k (0, slB, slF, slT))).1, (upd ((rFdI s w lm k j (rFd s w lm k (0, slB, slF, slT))).2.1) ((rFdI s w lm k j (rFd s w lm k (0, slB, slF, slT))).1) (nI k)), (rFdI s w lm k j (rFd s w lm k (0, slB, slF, slT))).2.2.1, (rFdI s w lm k j (rFd s w lm k (0, slB, slF, slT))).2.2.2, at9, wd9, got, ans, worst) out)) zsa_122 ?_
                    refine z_aload_n 3 dX10_finds_86 rfl rfl ?_
                    refine z_get (v := .ref 123) 12 zgo_114 rfl inX10 (by decide) zw_1190 rfl rfl dX10_finds_87 ?_
                    refine z_aload_n 3 dX10_finds_90 rfl rfl ?_
                    refine z_get (v := .int (nI ((rFdI s w lm k j (rFd s w lm k (0, slB, slF, slT))).1))) 10 zgo_114 rfl inX10 (by decide) zw_1188 rfl rfl dX10_finds_91 ?_
                    refine z_iload_n 0 dX10_finds_94 rfl rfl ?_
                    refine z_iastN (f := (rFdI s w lm k j (rFd s w lm k (0, slB, slF, slT))).2.2.1) (n := 160) (j := (rFdI s w lm k j (rFd s w lm k (0, slB, slF, slT))).1) zga_123 (by exact hq160) (by decide) dX10_finds_95 ?_
                    refine z_eqh (h2 := (zHp S X (s, past, aside, pasts, txt, typed, thrown, line, need, left, (rFdI s w lm k j (rFd s w lm k (0, slB, slF, slT))).1, (upd ((rFdI s w lm k j (rFd s w lm k (0, slB, slF, slT))).2.1) ((rFdI s w lm k j (rFd s w lm k (0, slB, slF, slT))).1) (nI k)), (upd ((rFdI s w lm k j (rFd s w lm k (0, slB, slF, slT))).2.2.1) ((rFdI s w lm k j (rFd s w lm k (0, slB, slF, slT))).1) (nI (rFr s w k (j + 1)))), (rFdI s w lm k j (rFd s w lm k (0, slB, slF, slT))).2.2.2, at9, wd9, got, ans, worst) out)) zsa_123 ?_
                    refine z_aload_n 3 dX10_finds_96 rfl rfl ?_
                    refine z_get (v := .ref 124) 13 zgo_114 rfl inX10 (by decide) zw_1191 rfl rfl dX10_finds_97 ?_
                    refine z_aload_n 3 dX10_finds_100 rfl rfl ?_
                    refine z_get (v := .int (nI ((rFdI s w lm k j (rFd s w lm k (0, slB, slF, slT))).1))) 10 zgo_114 rfl inX10 (by decide) zw_1188 rfl rfl dX10_finds_101 ?_
                    refine z_iload 1 dX10_finds_104 rfl ?_
                    refine z_iastN (f := (rFdI s w lm k j (rFd s w lm k (0, slB, slF, slT))).2.2.2) (n := 160) (j := (rFdI s w lm k j (rFd s w lm k (0, slB, slF, slT))).1) zga_124 (by exact hq160) (by decide) dX10_finds_106 ?_
                    refine z_eqh (h2 := (zHp S X (s, past, aside, pasts, txt, typed, thrown, line, need, left, (rFdI s w lm k j (rFd s w lm k (0, slB, slF, slT))).1, (upd ((rFdI s w lm k j (rFd s w lm k (0, slB, slF, slT))).2.1) ((rFdI s w lm k j (rFd s w lm k (0, slB, slF, slT))).1) (nI k)), (upd ((rFdI s w lm k j (rFd s w lm k (0, slB, slF, slT))).2.2.1) ((rFdI s w lm k j (rFd s w lm k (0, slB, slF, slT))).1) (nI (rFr s w k (j + 1)))), (upd ((rFdI s w lm k j (rFd s w lm k (0, slB, slF, slT))).2.2.2) ((rFdI s w lm k j (rFd s w lm k (0, slB, slF, slT))).1) (nI j)), at9, wd9, got, ans, worst) out)) zsa_124 ?_
                    refine z_aload_n 3 dX10_finds_107 rfl rfl ?_
                    refine z_dup dX10_finds_108 rfl ?_
                    refine z_get (v := .int (nI ((rFdI s w lm k j (rFd s w lm k (0, slB, slF, slT))).1))) 10 zgo_114 rfl inX10 (by decide) zw_1188 rfl rfl dX10_finds_109 ?_
                    refine z_iconst (v := nI 1) dX10_finds_112 (by decide) ?_
                    refine z_iaddN (a := (rFdI s w lm k j (rFd s w lm k (0, slB, slF, slT))).1) (b := 1) dX10_finds_113 ?_
                    refine z_puti 10 tyX10 zgo_114 rfl inX10 tyX10_ok nmX10 (by decide) zw_1188 rfl rfl (by decide +kernel) (Nat.le_of_ble_eq_true rfl) dX10_finds_114 ?_
                    refine z_eqh (h2 := (zHp S X (s, past, aside, pasts, txt, typed, thrown, line, need, left, (((rFdI s w lm k j (rFd s w lm k (0, slB, slF, slT))).1) + 1), (upd ((rFdI s w lm k j (rFd s w lm k (0, slB, slF, slT))).2.1) ((rFdI s w lm k j (rFd s w lm k (0, slB, slF, slT))).1) (nI k)), (upd ((rFdI s w lm k j (rFd s w lm k (0, slB, slF, slT))).2.2.1) ((rFdI s w lm k j (rFd s w lm k (0, slB, slF, slT))).1) (nI (rFr s w k (j + 1)))), (upd ((rFdI s w lm k j (rFd s w lm k (0, slB, slF, slT))).2.2.2) ((rFdI s w lm k j (rFd s w lm k (0, slB, slF, slT))).1) (nI j)), at9, wd9, got, ans, worst) out)) zsf_114_10 ?_
                    refine z_iinc (v := nI (j + 1)) (lv' := [(4, .int (nI (j + 1))), (3, .int (nI (rFr s w k (j + 1)))), (2, .int (nI k)), (0, .ref 114), (1, .int (nI lm))]) 1 dX10_finds_117 rfl (nI_1 _) (by decide) rfl ?_
                    refine z_goto (tgt := 24) dX10_finds_120 (by decide) ?_
                    refine z_sub [0, 1, 2, 3, 4] (lv' := [(4, .int (nI (j + 1))), (3, .int (nI (rFr s w k (j + 1)))), (2, .int (nI k)), (0, .ref 114), (1, .int (nI lm))]) rfl ?_
                    refine z_eqs (lv2 := [(4, .int (nI ((j + 1)))), (3, .int (nI (rFr s w k (j + 1)))), (2, .int (nI k)), (0, .ref 114), (1, .int (nI lm))]) (h2 := (zHp S X (s, past, aside, pasts, txt, typed, thrown, line, need, left, (rFdI s w lm k (j + 1) (rFd s w lm k (0, slB, slF, slT))).1, (rFdI s w lm k (j + 1) (rFd s w lm k (0, slB, slF, slT))).2.1, (rFdI s w lm k (j + 1) (rFd s w lm k (0, slB, slF, slT))).2.2.1, (rFdI s w lm k (j + 1) (rFd s w lm k (0, slB, slF, slT))).2.2.2, at9, wd9, got, ans, worst) out)) (by rfl) (by first | (rw [rFdI_t (show rPu s w lm k j = true by rw [rPu, b_63, decide_eq_true f_73]; rfl)]; rfl) | rw [rFdI_f (show rPu s w lm k j = false by rw [rPu, b_63, decide_eq_false (by omega)]; rfl)] | rw [rFdI_f (show rPu s w lm k j = false by rw [rPu, b_63]; rfl)]) ?_
                    exact ih24 (j + 1) (by omega) (by omega)
              refine z_aload_n 3 dX10_finds_35 rfl rfl ?_
              refine z_iload 0 dX10_finds_36 rfl ?_
              refine z_iload_n 2 dX10_finds_38 rfl rfl ?_
              refine z_callV (N := mX10_parts) 2 [.int (nI j), .int (nI k)] [] lX10_parts ⟨zw_1320, zw_1322, zw_55⟩ rfl zgo_114 rfl rfl (Nat.le_of_ble_eq_true rfl) (by decide) ⟨zlt, zlt⟩ ⟨Nat.zero_le _, Nat.zero_le _⟩ (fun _ => rfl) (m_parts hG hM9 j k (by omega) (by omega)) dX10_finds_39 ?_
              refine z_if_eq (tgt := 49) dX10_finds_42 (by decide) (fun c_42 => ?_) (fun c_42 => ?_)
              · skip
                have b_42 := zB_0.mp c_42
                refine z_iload 0 dX10_finds_49 rfl ?_
                refine z_iconst (v := nI 1) dX10_finds_51 (by decide) ?_
                refine z_iaddN (a := j) (b := 1) dX10_finds_52 ?_
                refine z_top (v2 := .int (nI (rFr s w k (j + 1)))) (by simp [rFr, c_16, f_16, c_32, f_32, b_42]) ?_
                exact J53_68
              · skip
                have b_42 := zB_tt c_42
                refine z_iload_n 1 dX10_finds_45 rfl rfl ?_
                refine z_goto (tgt := 53) dX10_finds_46 (by decide) ?_
                refine z_top (v2 := .int (nI (rFr s w k (j + 1)))) (by simp [rFr, c_16, f_16, c_32, f_32, b_42]) ?_
                exact J53_68
        refine z_sub [0, 1, 2, 3, 4] (lv' := [(4, .int (nI 0)), (3, .int (nI 0)), (2, .int (nI k)), (0, .ref 114), (1, .int (nI lm))]) rfl ?_
        refine z_eqs (lv2 := [(4, .int (nI 0)), (3, .int (nI (rFr s w k 0))), (2, .int (nI k)), (0, .ref 114), (1, .int (nI lm))]) (h2 := (zHp S X (s, past, aside, pasts, txt, typed, thrown, line, need, left, (rFdI s w lm k 0 (rFd s w lm k (0, slB, slF, slT))).1, (rFdI s w lm k 0 (rFd s w lm k (0, slB, slF, slT))).2.1, (rFdI s w lm k 0 (rFd s w lm k (0, slB, slF, slT))).2.2.1, (rFdI s w lm k 0 (rFd s w lm k (0, slB, slF, slT))).2.2.2, at9, wd9, got, ans, worst) out)) (by rfl) (by rfl) ?_
        exact L24_2 (w + 1) 0 (by omega) (by omega)
  refine z_sub [0, 1, 2] (lv' := [(2, .int (nI 0)), (0, .ref 114), (1, .int (nI lm))]) rfl ?_
  refine z_eqs (lv2 := [(2, .int (nI 0)), (0, .ref 114), (1, .int (nI lm))]) (h2 := (zHp S X (s, past, aside, pasts, txt, typed, thrown, line, need, left, (rFd s w lm 0 (0, slB, slF, slT)).1, (rFd s w lm 0 (0, slB, slF, slT)).2.1, (rFd s w lm 0 (0, slB, slF, slT)).2.2.1, (rFd s w lm 0 (0, slB, slF, slT)).2.2.2, at9, wd9, got, ans, worst) out)) (by rfl) (by rfl) ?_
  exact L7_1 (c - 1 + 1) 0 (by omega) (by omega)

set_option maxHeartbeats 4000000 in
set_option maxRecDepth 100000 in
theorem m_isSewn {G : zT} {S : zS} {X : zXr} {out : Nat → Int64} {s : (Nat → Int32)} {past : (Nat → Int32)} {aside : (Nat → Int32)} {pasts : Nat} {txt : (Nat → Int32)} {typed : Nat} {thrown : Int32} {line : (Nat → Int32)} {need : (Nat → Int32)} {left : (Nat → Int32)} {slits : Nat} {slB : (Nat → Int32)} {slF : (Nat → Int32)} {slT : (Nat → Int32)} {at9 : Nat} {wd9 : Int32} {got : (Nat → Int32)} {ans : Int32} {worst : UInt32} (hG : zAl G = false) (k : Nat) (hk : k < slits) (hsl : rSl (slits, slB, slF, slT)) : zRun G mX10_isSewn 0 0 [.ref 114, .int (nI k)] (zHp S X (s, past, aside, pasts, txt, typed, thrown, line, need, left, slits, slB, slF, slT, at9, wd9, got, ans, worst) out) (.inr (some (.int (zB (s (rSx slB slF k) == nI 1))))) (zHp S X (s, past, aside, pasts, txt, typed, thrown, line, need, left, slits, slB, slF, slT, at9, wd9, got, ans, worst) out) := by
  have hs160 : slits ≤ 160 := hsl.1
  have hix := (rSl_in hsl hk).1
  refine zRun_of (by decide +kernel) rfl rfl (Nat.le_of_ble_eq_true rfl) ?_
  suffices hs : ∀ (o9 : zO) (h9 : zH), (Sum.inr (some (.int (zB (s (rSx slB slF k) == nI 1)))) : zO) = o9 → (zHp S X (s, past, aside, pasts, txt, typed, thrown, line, need, left, slits, slB, slF, slT, at9, wd9, got, ans, worst) out) = h9 → zPW G mX10_isSewn 0 0 o9 h9 0 0 0 [(0, .ref 114), (1, .int (nI k))] [] (zHp S X (s, past, aside, pasts, txt, typed, thrown, line, need, left, slits, slB, slF, slT, at9, wd9, got, ans, worst) out) from hs _ _ rfl rfl
  intro o9 h9 ho9 hh9
  have J34_8 : zPW G mX10_isSewn 0 0 o9 h9 0 0 34 [(0, .ref 114), (1, .int (nI k))] [.int (zB (s (rSx slB slF k) == nI 1))] (zHp S X (s, past, aside, pasts, txt, typed, thrown, line, need, left, slits, slB, slF, slT, at9, wd9, got, ans, worst) out) := by
    exact z_zret rfl (by exact zB_n _) dX10_isSewn_34 (zo_i ho9 (by rfl)) (zo_h hh9 (by rfl)) (Nat.zero_le _) (Nat.zero_le _)
  refine z_aload_n 0 dX10_isSewn_0 rfl rfl ?_
  refine z_get (v := .ref 115) 0 zgo_114 rfl inX10 (by decide) zw_1178 rfl rfl dX10_isSewn_1 ?_
  refine z_sipush (v := nI 1051) dX10_isSewn_4 (by decide) ?_
  refine z_bipush (v := nI 16) dX10_isSewn_7 (by decide) ?_
  refine z_aload_n 0 dX10_isSewn_9 rfl rfl ?_
  refine z_get (v := .ref 122) 11 zgo_114 rfl inX10 (by decide) zw_1189 rfl rfl dX10_isSewn_10 ?_
  refine z_iload_n 1 dX10_isSewn_13 rfl rfl ?_
  refine z_ialdN (f := slB) (n := 160) (j := k) zga_122 (by omega) (by decide) dX10_isSewn_14 ?_
  refine z_imul dX10_isSewn_15 ?_
  refine z_iadd dX10_isSewn_16 ?_
  refine z_aload_n 0 dX10_isSewn_17 rfl rfl ?_
  refine z_get (v := .ref 123) 12 zgo_114 rfl inX10 (by decide) zw_1190 rfl rfl dX10_isSewn_18 ?_
  refine z_iload_n 1 dX10_isSewn_21 rfl rfl ?_
  refine z_ialdN (f := slF) (n := 160) (j := k) zga_123 (by omega) (by decide) dX10_isSewn_22 ?_
  refine z_iadd dX10_isSewn_23 ?_
  refine z_iald (f := s) (n := 1371) zga_115 (by exact hix) dX10_isSewn_24 ?_
  refine z_iconst (v := nI 1) dX10_isSewn_25 (by decide) ?_
  refine z_icmp_ne (tgt := 33) dX10_isSewn_26 (by decide) (fun c_26 => ?_) (fun c_26 => ?_)
  · skip
    refine z_iconst (v := nI 0) dX10_isSewn_33 (by decide) ?_
    refine z_top (v2 := .int (zB (s (rSx slB slF k) == nI 1))) (by first | (rw [show (s (rSx slB slF k) == nI 1) = true from beq_iff_eq.mpr c_26]; rfl) | (rw [show (s (rSx slB slF k) == nI 1) = false from beq_eq_false_iff_ne.mpr c_26]; rfl)) ?_
    exact J34_8
  · skip
    refine z_iconst (v := nI 1) dX10_isSewn_29 (by decide) ?_
    refine z_goto (tgt := 34) dX10_isSewn_30 (by decide) ?_
    refine z_top (v2 := .int (zB (s (rSx slB slF k) == nI 1))) (by first | (rw [show (s (rSx slB slF k) == nI 1) = true from beq_iff_eq.mpr c_26]; rfl) | (rw [show (s (rSx slB slF k) == nI 1) = false from beq_eq_false_iff_ne.mpr c_26]; rfl)) ?_
    exact J34_8

set_option maxHeartbeats 4000000 in
set_option maxRecDepth 100000 in
theorem m_sewn {G : zT} {S : zS} {X : zXr} {out : Nat → Int64} {s : (Nat → Int32)} {past : (Nat → Int32)} {aside : (Nat → Int32)} {pasts : Nat} {txt : (Nat → Int32)} {typed : Nat} {thrown : Int32} {line : (Nat → Int32)} {need : (Nat → Int32)} {left : (Nat → Int32)} {slits : Nat} {slB : (Nat → Int32)} {slF : (Nat → Int32)} {slT : (Nat → Int32)} {at9 : Nat} {wd9 : Int32} {got : (Nat → Int32)} {ans : Int32} {worst : UInt32} (hG : zAl G = false) (hsl : rSl (slits, slB, slF, slT)) : zRun G mX10_sewn 0 0 [.ref 114] (zHp S X (s, past, aside, pasts, txt, typed, thrown, line, need, left, slits, slB, slF, slT, at9, wd9, got, ans, worst) out) (.inr (some (.int (nI (zCt (fun k => s (rSx slB slF k) == nI 1) slits))))) (zHp S X (s, past, aside, pasts, txt, typed, thrown, line, need, left, slits, slB, slF, slT, at9, wd9, got, ans, worst) out) := by
  have hs160 : slits ≤ 160 := hsl.1
  refine zRun_of (by decide +kernel) rfl rfl (Nat.le_of_ble_eq_true rfl) ?_
  suffices hs : ∀ (o9 : zO) (h9 : zH), (Sum.inr (some (.int (nI (zCt (fun k => s (rSx slB slF k) == nI 1) slits)))) : zO) = o9 → (zHp S X (s, past, aside, pasts, txt, typed, thrown, line, need, left, slits, slB, slF, slT, at9, wd9, got, ans, worst) out) = h9 → zPW G mX10_sewn 0 0 o9 h9 0 0 0 [(0, .ref 114)] [] (zHp S X (s, past, aside, pasts, txt, typed, thrown, line, need, left, slits, slB, slF, slT, at9, wd9, got, ans, worst) out) from hs _ _ rfl rfl
  intro o9 h9 ho9 hh9
  refine z_iconst (v := nI 0) dX10_sewn_0 (by decide) ?_
  refine z_istore_n (lv' := [(1, .int (nI 0)), (0, .ref 114)]) dX10_sewn_1 rfl (by decide) rfl ?_
  refine z_iconst (v := nI 0) dX10_sewn_2 (by decide) ?_
  refine z_istore_n (lv' := [(2, .int (nI 0)), (1, .int (nI 0)), (0, .ref 114)]) dX10_sewn_3 rfl (by decide) rfl ?_
  have L4_1 : ∀ (d k : Nat), k ≤ slits → slits + 1 ≤ k + d → zPW G mX10_sewn 0 0 o9 h9 0 0 4 [(2, .int (nI k)), (1, .int (nI (zCt (fun k => s (rSx slB slF k) == nI 1) k))), (0, .ref 114)] [] (zHp S X (s, past, aside, pasts, txt, typed, thrown, line, need, left, slits, slB, slF, slT, at9, wd9, got, ans, worst) out) := by
    intro d
    induction d with
    | zero => intro k hk hd; exact absurd hd (by omega)
    | succ d ih =>
      intro k hk_k hd_k
      have ih4 := ih
      clear ih
      refine z_iload_n 0 dX10_sewn_4 rfl rfl ?_
      refine z_aload_n 2 dX10_sewn_5 rfl rfl ?_
      refine z_get (v := .int (nI slits)) 10 zgo_114 rfl inX10 (by decide) zw_1188 rfl rfl dX10_sewn_6 ?_
      refine z_icmp_ge (tgt := 34) dX10_sewn_9 (by decide) (fun c_9 => ?_) (fun c_9 => ?_)
      · skip
        have f_9 := m_le (by omega) (by omega) c_9
        have e_k : k = slits := by omega
        rw [e_k]
        refine z_iload_n 1 dX10_sewn_34 rfl rfl ?_
        exact z_iret rfl dX10_sewn_35 (zo_i ho9 (by rfl)) (zo_h hh9 (by rfl)) (Nat.zero_le _) (Nat.zero_le _)
      · skip
        have f_9 := m_nle (by omega) (by omega) c_9
        refine z_iload_n 1 dX10_sewn_12 rfl rfl ?_
        refine z_aload_n 2 dX10_sewn_13 rfl rfl ?_
        refine z_iload_n 0 dX10_sewn_14 rfl rfl ?_
        refine z_callV (N := mX10_isSewn) 1 [.int (nI k)] [.int (nI (zCt (fun k => s (rSx slB slF k) == nI 1) k))] lX10_isSewn ⟨zw_1412, zw_1414, zw_74⟩ rfl zgo_114 rfl rfl (Nat.le_of_ble_eq_true rfl) (by decide) ⟨zlt, zlt⟩ ⟨Nat.zero_le _, Nat.zero_le _⟩ (fun _ => rfl) (m_isSewn hG k (by omega) hsl) dX10_sewn_15 ?_
        refine z_if_eq (tgt := 25) dX10_sewn_18 (by decide) (fun c_18 => ?_) (fun c_18 => ?_)
        · skip
          have b_18 := zB_0.mp c_18
          refine z_iconst (v := nI 0) dX10_sewn_25 (by decide) ?_
          refine z_iaddN (a := zCt (fun k => s (rSx slB slF k) == nI 1) k) (b := 0) dX10_sewn_26 ?_
          refine z_istore_n (lv' := [(1, .int (nI ((zCt (fun k => s (rSx slB slF k) == nI 1) k) + 0))), (2, .int (nI k)), (0, .ref 114)]) dX10_sewn_27 rfl (by decide) rfl ?_
          refine z_iinc (v := nI (k + 1)) (lv' := [(2, .int (nI (k + 1))), (1, .int (nI ((zCt (fun k => s (rSx slB slF k) == nI 1) k) + 0))), (0, .ref 114)]) 1 dX10_sewn_28 rfl (nI_1 _) (by decide) rfl ?_
          refine z_goto (tgt := 4) dX10_sewn_31 (by decide) ?_
          refine z_sub [0, 1, 2] (lv' := [(2, .int (nI (k + 1))), (1, .int (nI ((zCt (fun k => s (rSx slB slF k) == nI 1) k) + 0))), (0, .ref 114)]) rfl ?_
          refine z_eqs (lv2 := [(2, .int (nI ((k + 1)))), (1, .int (nI (zCt (fun k => s (rSx slB slF k) == nI 1) (k + 1)))), (0, .ref 114)]) (h2 := (zHp S X (s, past, aside, pasts, txt, typed, thrown, line, need, left, slits, slB, slF, slT, at9, wd9, got, ans, worst) out)) (by first | rw [zCt_T (p := (fun k => s (rSx slB slF k) == nI 1)) (by simp [c_9, f_9, b_18])] | rw [zCt_F (p := (fun k => s (rSx slB slF k) == nI 1)) (by simp [c_9, f_9, b_18])]) (by rfl) ?_
          exact ih4 (k + 1) (by omega) (by omega)
        · skip
          have b_18 := zB_tt c_18
          refine z_iconst (v := nI 1) dX10_sewn_21 (by decide) ?_
          refine z_goto (tgt := 26) dX10_sewn_22 (by decide) ?_
          refine z_iaddN (a := zCt (fun k => s (rSx slB slF k) == nI 1) k) (b := 1) dX10_sewn_26 ?_
          refine z_istore_n (lv' := [(1, .int (nI ((zCt (fun k => s (rSx slB slF k) == nI 1) k) + 1))), (2, .int (nI k)), (0, .ref 114)]) dX10_sewn_27 rfl (by decide) rfl ?_
          refine z_iinc (v := nI (k + 1)) (lv' := [(2, .int (nI (k + 1))), (1, .int (nI ((zCt (fun k => s (rSx slB slF k) == nI 1) k) + 1))), (0, .ref 114)]) 1 dX10_sewn_28 rfl (nI_1 _) (by decide) rfl ?_
          refine z_goto (tgt := 4) dX10_sewn_31 (by decide) ?_
          refine z_sub [0, 1, 2] (lv' := [(2, .int (nI (k + 1))), (1, .int (nI ((zCt (fun k => s (rSx slB slF k) == nI 1) k) + 1))), (0, .ref 114)]) rfl ?_
          refine z_eqs (lv2 := [(2, .int (nI ((k + 1)))), (1, .int (nI (zCt (fun k => s (rSx slB slF k) == nI 1) (k + 1)))), (0, .ref 114)]) (h2 := (zHp S X (s, past, aside, pasts, txt, typed, thrown, line, need, left, slits, slB, slF, slT, at9, wd9, got, ans, worst) out)) (by first | rw [zCt_T (p := (fun k => s (rSx slB slF k) == nI 1)) (by simp [c_9, f_9, b_18])] | rw [zCt_F (p := (fun k => s (rSx slB slF k) == nI 1)) (by simp [c_9, f_9, b_18])]) (by rfl) ?_
          exact ih4 (k + 1) (by omega) (by omega)
  refine z_sub [0, 1, 2] (lv' := [(2, .int (nI 0)), (1, .int (nI 0)), (0, .ref 114)]) rfl ?_
  refine z_eqs (lv2 := [(2, .int (nI 0)), (1, .int (nI (zCt (fun k => s (rSx slB slF k) == nI 1) 0))), (0, .ref 114)]) (h2 := (zHp S X (s, past, aside, pasts, txt, typed, thrown, line, need, left, slits, slB, slF, slT, at9, wd9, got, ans, worst) out)) (by rfl) (by rfl) ?_
  exact L4_1 (slits + 1) 0 (by omega) (by omega)

set_option maxHeartbeats 4000000 in
set_option maxRecDepth 100000 in
theorem m_sewnRows {G : zT} {S : zS} {X : zXr} {out : Nat → Int64} {s : (Nat → Int32)} {past : (Nat → Int32)} {aside : (Nat → Int32)} {pasts : Nat} {txt : (Nat → Int32)} {typed : Nat} {thrown : Int32} {line : (Nat → Int32)} {need : (Nat → Int32)} {left : (Nat → Int32)} {slits : Nat} {slB : (Nat → Int32)} {slF : (Nat → Int32)} {slT : (Nat → Int32)} {at9 : Nat} {wd9 : Int32} {got : (Nat → Int32)} {ans : Int32} {worst : UInt32} (hG : zAl G = false) (hsl : rSl (slits, slB, slF, slT)) : zRun G mX10_sewnRows 0 0 [.ref 114] (zHp S X (s, past, aside, pasts, txt, typed, thrown, line, need, left, slits, slB, slF, slT, at9, wd9, got, ans, worst) out) (.inr (some (.int (rSwR s slB slF slT slits)))) (zHp S X (s, past, aside, pasts, txt, typed, thrown, line, need, left, slits, slB, slF, slT, at9, wd9, got, ans, worst) out) := by
  have hs160 : slits ≤ 160 := hsl.1
  refine zRun_of (by decide +kernel) rfl rfl (Nat.le_of_ble_eq_true rfl) ?_
  suffices hs : ∀ (o9 : zO) (h9 : zH), (Sum.inr (some (.int (rSwR s slB slF slT slits))) : zO) = o9 → (zHp S X (s, past, aside, pasts, txt, typed, thrown, line, need, left, slits, slB, slF, slT, at9, wd9, got, ans, worst) out) = h9 → zPW G mX10_sewnRows 0 0 o9 h9 0 0 0 [(0, .ref 114)] [] (zHp S X (s, past, aside, pasts, txt, typed, thrown, line, need, left, slits, slB, slF, slT, at9, wd9, got, ans, worst) out) from hs _ _ rfl rfl
  intro o9 h9 ho9 hh9
  refine z_iconst (v := nI 0) dX10_sewnRows_0 (by decide) ?_
  refine z_istore_n (lv' := [(1, .int (nI 0)), (0, .ref 114)]) dX10_sewnRows_1 rfl (by decide) rfl ?_
  refine z_iconst (v := nI 0) dX10_sewnRows_2 (by decide) ?_
  refine z_istore_n (lv' := [(2, .int (nI 0)), (1, .int (nI 0)), (0, .ref 114)]) dX10_sewnRows_3 rfl (by decide) rfl ?_
  have L4_1 : ∀ (d k : Nat), k ≤ slits → slits + 1 ≤ k + d → zPW G mX10_sewnRows 0 0 o9 h9 0 0 4 [(2, .int (nI k)), (1, .int (zSm (fun k => if s (rSx slB slF k) == nI 1 then slT k - slF k + nI 1 else nI 0) k)), (0, .ref 114)] [] (zHp S X (s, past, aside, pasts, txt, typed, thrown, line, need, left, slits, slB, slF, slT, at9, wd9, got, ans, worst) out) := by
    intro d
    induction d with
    | zero => intro k hk hd; exact absurd hd (by omega)
    | succ d ih =>
      intro k hk_k hd_k
      have ih4 := ih
      clear ih
      refine z_iload_n 0 dX10_sewnRows_4 rfl rfl ?_
      refine z_aload_n 2 dX10_sewnRows_5 rfl rfl ?_
      refine z_get (v := .int (nI slits)) 10 zgo_114 rfl inX10 (by decide) zw_1188 rfl rfl dX10_sewnRows_6 ?_
      refine z_icmp_ge (tgt := 48) dX10_sewnRows_9 (by decide) (fun c_9 => ?_) (fun c_9 => ?_)
      · skip
        have f_9 := m_le (by omega) (by omega) c_9
        have e_k : k = slits := by omega
        rw [e_k]
        refine z_iload_n 1 dX10_sewnRows_48 rfl rfl ?_
        exact z_iret rfl dX10_sewnRows_49 (zo_i ho9 (by rfl)) (zo_h hh9 (by rfl)) (Nat.zero_le _) (Nat.zero_le _)
      · skip
        have f_9 := m_nle (by omega) (by omega) c_9
        refine z_iload_n 1 dX10_sewnRows_12 rfl rfl ?_
        refine z_aload_n 2 dX10_sewnRows_13 rfl rfl ?_
        refine z_iload_n 0 dX10_sewnRows_14 rfl rfl ?_
        refine z_callV (N := mX10_isSewn) 1 [.int (nI k)] [.int (zSm (fun k => if s (rSx slB slF k) == nI 1 then slT k - slF k + nI 1 else nI 0) k)] lX10_isSewn ⟨zw_1412, zw_1414, zw_74⟩ rfl zgo_114 rfl rfl (Nat.le_of_ble_eq_true rfl) (by decide) ⟨zlt, zlt⟩ ⟨Nat.zero_le _, Nat.zero_le _⟩ (fun _ => rfl) (m_isSewn hG k (by omega) hsl) dX10_sewnRows_15 ?_
        refine z_if_eq (tgt := 39) dX10_sewnRows_18 (by decide) (fun c_18 => ?_) (fun c_18 => ?_)
        · skip
          have b_18 := zB_0.mp c_18
          refine z_iconst (v := nI 0) dX10_sewnRows_39 (by decide) ?_
          refine z_iadd dX10_sewnRows_40 ?_
          refine z_istore_n (lv' := [(1, .int ((zSm (fun k => if s (rSx slB slF k) == nI 1 then slT k - slF k + nI 1 else nI 0) k) + (nI 0))), (2, .int (nI k)), (0, .ref 114)]) dX10_sewnRows_41 rfl (by decide) rfl ?_
          refine z_iinc (v := nI (k + 1)) (lv' := [(2, .int (nI (k + 1))), (1, .int ((zSm (fun k => if s (rSx slB slF k) == nI 1 then slT k - slF k + nI 1 else nI 0) k) + (nI 0))), (0, .ref 114)]) 1 dX10_sewnRows_42 rfl (nI_1 _) (by decide) rfl ?_
          refine z_goto (tgt := 4) dX10_sewnRows_45 (by decide) ?_
          refine z_sub [0, 1, 2] (lv' := [(2, .int (nI (k + 1))), (1, .int ((zSm (fun k => if s (rSx slB slF k) == nI 1 then slT k - slF k + nI 1 else nI 0) k) + (nI 0))), (0, .ref 114)]) rfl ?_
          refine z_eqs (lv2 := [(2, .int (nI ((k + 1)))), (1, .int (zSm (fun k => if s (rSx slB slF k) == nI 1 then slT k - slF k + nI 1 else nI 0) (k + 1))), (0, .ref 114)]) (h2 := (zHp S X (s, past, aside, pasts, txt, typed, thrown, line, need, left, slits, slB, slF, slT, at9, wd9, got, ans, worst) out)) (by rw [zSm_t (fun k => if s (rSx slB slF k) == nI 1 then slT k - slF k + nI 1 else nI 0) k (by simp [c_9, f_9, b_18])]) (by rfl) ?_
          exact ih4 (k + 1) (by omega) (by omega)
        · skip
          have b_18 := zB_tt c_18
          refine z_aload_n 2 dX10_sewnRows_21 rfl rfl ?_
          refine z_get (v := .ref 124) 13 zgo_114 rfl inX10 (by decide) zw_1191 rfl rfl dX10_sewnRows_22 ?_
          refine z_iload_n 0 dX10_sewnRows_25 rfl rfl ?_
          refine z_ialdN (f := slT) (n := 160) (j := k) zga_124 (by omega) (by decide) dX10_sewnRows_26 ?_
          refine z_aload_n 2 dX10_sewnRows_27 rfl rfl ?_
          refine z_get (v := .ref 123) 12 zgo_114 rfl inX10 (by decide) zw_1190 rfl rfl dX10_sewnRows_28 ?_
          refine z_iload_n 0 dX10_sewnRows_31 rfl rfl ?_
          refine z_ialdN (f := slF) (n := 160) (j := k) zga_123 (by omega) (by decide) dX10_sewnRows_32 ?_
          refine z_isub dX10_sewnRows_33 ?_
          refine z_iconst (v := nI 1) dX10_sewnRows_34 (by decide) ?_
          refine z_iadd dX10_sewnRows_35 ?_
          refine z_goto (tgt := 40) dX10_sewnRows_36 (by decide) ?_
          refine z_iadd dX10_sewnRows_40 ?_
          refine z_istore_n (lv' := [(1, .int ((zSm (fun k => if s (rSx slB slF k) == nI 1 then slT k - slF k + nI 1 else nI 0) k) + (((slT k) - (slF k)) + (nI 1)))), (2, .int (nI k)), (0, .ref 114)]) dX10_sewnRows_41 rfl (by decide) rfl ?_
          refine z_iinc (v := nI (k + 1)) (lv' := [(2, .int (nI (k + 1))), (1, .int ((zSm (fun k => if s (rSx slB slF k) == nI 1 then slT k - slF k + nI 1 else nI 0) k) + (((slT k) - (slF k)) + (nI 1)))), (0, .ref 114)]) 1 dX10_sewnRows_42 rfl (nI_1 _) (by decide) rfl ?_
          refine z_goto (tgt := 4) dX10_sewnRows_45 (by decide) ?_
          refine z_sub [0, 1, 2] (lv' := [(2, .int (nI (k + 1))), (1, .int ((zSm (fun k => if s (rSx slB slF k) == nI 1 then slT k - slF k + nI 1 else nI 0) k) + (((slT k) - (slF k)) + (nI 1)))), (0, .ref 114)]) rfl ?_
          refine z_eqs (lv2 := [(2, .int (nI ((k + 1)))), (1, .int (zSm (fun k => if s (rSx slB slF k) == nI 1 then slT k - slF k + nI 1 else nI 0) (k + 1))), (0, .ref 114)]) (h2 := (zHp S X (s, past, aside, pasts, txt, typed, thrown, line, need, left, slits, slB, slF, slT, at9, wd9, got, ans, worst) out)) (by rw [zSm_t (fun k => if s (rSx slB slF k) == nI 1 then slT k - slF k + nI 1 else nI 0) k (by simp [c_9, f_9, b_18])]) (by rfl) ?_
          exact ih4 (k + 1) (by omega) (by omega)
  refine z_sub [0, 1, 2] (lv' := [(2, .int (nI 0)), (1, .int (nI 0)), (0, .ref 114)]) rfl ?_
  refine z_eqs (lv2 := [(2, .int (nI 0)), (1, .int (zSm (fun k => if s (rSx slB slF k) == nI 1 then slT k - slF k + nI 1 else nI 0) 0)), (0, .ref 114)]) (h2 := (zHp S X (s, past, aside, pasts, txt, typed, thrown, line, need, left, slits, slB, slF, slT, at9, wd9, got, ans, worst) out)) (by rfl) (by rfl) ?_
  exact L4_1 (slits + 1) 0 (by omega) (by omega)

set_option maxHeartbeats 4000000 in
set_option maxRecDepth 100000 in
theorem m_forgets {G : zT} {S : zS} {X : zXr} {out : Nat → Int64} {s : (Nat → Int32)} {past : (Nat → Int32)} {aside : (Nat → Int32)} {pasts : Nat} {txt : (Nat → Int32)} {typed : Nat} {thrown : Int32} {line : (Nat → Int32)} {need : (Nat → Int32)} {left : (Nat → Int32)} {slits : Nat} {slB : (Nat → Int32)} {slF : (Nat → Int32)} {slT : (Nat → Int32)} {at9 : Nat} {wd9 : Int32} {got : (Nat → Int32)} {ans : Int32} {worst : UInt32} (hG : zAl G = false) {c r w cnt lim : Nat} (hM : zMd s c r w cnt lim) : zRun G mX10_forgets 0 0 [.ref 114] (zHp S X (s, past, aside, pasts, txt, typed, thrown, line, need, left, slits, slB, slF, slT, at9, wd9, got, ans, worst) out) (.inr none) (zHp S X ((rFg s (rFd s w lim (c - 1) (0, slB, slF, slT)).2.1 (rFd s w lim (c - 1) (0, slB, slF, slT)).2.2.1 (rFd s w lim (c - 1) (0, slB, slF, slT)).1), past, aside, pasts, txt, typed, thrown, line, need, left, (rFd s w lim (c - 1) (0, slB, slF, slT)).1, (rFd s w lim (c - 1) (0, slB, slF, slT)).2.1, (rFd s w lim (c - 1) (0, slB, slF, slT)).2.2.1, (rFd s w lim (c - 1) (0, slB, slF, slT)).2.2.2, at9, wd9, got, ans, worst) out) := by
  have hM9 := hM
  obtain ⟨h0, h1, h2, h3, h4, hc1, hc, hr1, hr, hw, hn, hl⟩ := hM
  have hsl := rFd_sl (s := s) (lm := lim) (B := slB) (F := slF) (T := slT) (show w ≤ 16 by omega) (c - 1) (by omega)
  have hs160 : (rFd s w lim (c - 1) (0, slB, slF, slT)).1 ≤ 160 := hsl.1
  refine zRun_of (by decide +kernel) rfl rfl (Nat.le_of_ble_eq_true rfl) ?_
  suffices hs : ∀ (o9 : zO) (h9 : zH), (Sum.inr none : zO) = o9 → (zHp S X ((rFg s (rFd s w lim (c - 1) (0, slB, slF, slT)).2.1 (rFd s w lim (c - 1) (0, slB, slF, slT)).2.2.1 (rFd s w lim (c - 1) (0, slB, slF, slT)).1), past, aside, pasts, txt, typed, thrown, line, need, left, (rFd s w lim (c - 1) (0, slB, slF, slT)).1, (rFd s w lim (c - 1) (0, slB, slF, slT)).2.1, (rFd s w lim (c - 1) (0, slB, slF, slT)).2.2.1, (rFd s w lim (c - 1) (0, slB, slF, slT)).2.2.2, at9, wd9, got, ans, worst) out) = h9 → zPW G mX10_forgets 0 0 o9 h9 0 0 0 [(0, .ref 114)] [] (zHp S X (s, past, aside, pasts, txt, typed, thrown, line, need, left, slits, slB, slF, slT, at9, wd9, got, ans, worst) out) from hs _ _ rfl rfl
  intro o9 h9 ho9 hh9
  refine z_aload_n 0 dX10_forgets_0 rfl rfl ?_
  refine z_aload_n 0 dX10_forgets_1 rfl rfl ?_
  refine z_get (v := .ref 115) 0 zgo_114 rfl inX10 (by decide) zw_1178 rfl rfl dX10_forgets_2 ?_
  refine z_iconst (v := nI 4) dX10_forgets_5 (by decide) ?_
  refine z_ialdN (f := s) (n := 1371) (j := 4) zga_115 (by omega) (by decide) dX10_forgets_6 ?_
  refine z_top (v2 := .int (nI lim)) (by rw [h4]) ?_
  refine z_callV (N := mX10_finds) 1 [.int (nI lim)] [] lX10_finds ⟨zw_1316, zw_1318, zw_54⟩ rfl zgo_114 rfl rfl (Nat.le_of_ble_eq_true rfl) (by decide) ⟨zlt, zlt⟩ ⟨Nat.zero_le _, Nat.zero_le _⟩ zal (m_finds hG hM9 lim (by omega)) dX10_forgets_7 ?_
  refine z_iconst (v := nI 0) dX10_forgets_10 (by decide) ?_
  refine z_istore_n (lv' := [(1, .int (nI 0)), (0, .ref 114)]) dX10_forgets_11 rfl (by decide) rfl ?_
  have L12_1 : ∀ (d k : Nat), k ≤ 320 → 320 + 1 ≤ k + d → zPW G mX10_forgets 0 0 o9 h9 0 0 12 [(1, .int (nI k)), (0, .ref 114)] [] (zHp S X ((zFa 1051 (fun k => zB (rFgP s (rFd s w lim (c - 1) (0, slB, slF, slT)).2.1 (rFd s w lim (c - 1) (0, slB, slF, slT)).2.2.1 (rFd s w lim (c - 1) (0, slB, slF, slT)).1 k)) s k), past, aside, pasts, txt, typed, thrown, line, need, left, (rFd s w lim (c - 1) (0, slB, slF, slT)).1, (rFd s w lim (c - 1) (0, slB, slF, slT)).2.1, (rFd s w lim (c - 1) (0, slB, slF, slT)).2.2.1, (rFd s w lim (c - 1) (0, slB, slF, slT)).2.2.2, at9, wd9, got, ans, worst) out) := by
    intro d
    induction d with
    | zero => intro k hk hd; exact absurd hd (by omega)
    | succ d ih =>
      intro k hk_k hd_k
      have ih12 := ih
      clear ih
      refine z_iload_n 0 dX10_forgets_12 rfl rfl ?_
      refine z_sipush (v := nI 320) dX10_forgets_13 (by decide) ?_
      refine z_icmp_ge (tgt := 106) dX10_forgets_16 (by decide) (fun c_16 => ?_) (fun c_16 => ?_)
      · skip
        have f_16 := m_le (by omega) (by omega) c_16
        have e_k : k = 320 := by omega
        rw [e_k]
        exact z_vret rfl dX10_forgets_106 ho9.symm (zo_h hh9 (by rfl)) (Nat.zero_le _) (Nat.zero_le _)
      · skip
        have f_16 := m_nle (by omega) (by omega) c_16
        refine z_iconst (v := nI 0) dX10_forgets_19 (by decide) ?_
        refine z_istore_n (lv' := [(2, .int (nI 0)), (1, .int (nI k)), (0, .ref 114)]) dX10_forgets_20 rfl (by decide) rfl ?_
        refine z_iconst (v := nI 0) dX10_forgets_21 (by decide) ?_
        refine z_istore_n (lv' := [(3, .int (nI 0)), (2, .int (nI 0)), (1, .int (nI k)), (0, .ref 114)]) dX10_forgets_22 rfl (by decide) rfl ?_
        have L23_2 : ∀ (d j : Nat), j ≤ (rFd s w lim (c - 1) (0, slB, slF, slT)).1 → (rFd s w lim (c - 1) (0, slB, slF, slT)).1 + 1 ≤ j + d → zPW G mX10_forgets 0 0 o9 h9 0 0 23 [(3, .int (nI j)), (2, .int (zB (decide (s (1051 + k) = nI 1) && rAny (fun j => nI 16 * (rFd s w lim (c - 1) (0, slB, slF, slT)).2.1 j + (rFd s w lim (c - 1) (0, slB, slF, slT)).2.2.1 j == nI k) j))), (1, .int (nI k)), (0, .ref 114)] [] (zHp S X ((zFa 1051 (fun k => zB (rFgP s (rFd s w lim (c - 1) (0, slB, slF, slT)).2.1 (rFd s w lim (c - 1) (0, slB, slF, slT)).2.2.1 (rFd s w lim (c - 1) (0, slB, slF, slT)).1 k)) s k), past, aside, pasts, txt, typed, thrown, line, need, left, (rFd s w lim (c - 1) (0, slB, slF, slT)).1, (rFd s w lim (c - 1) (0, slB, slF, slT)).2.1, (rFd s w lim (c - 1) (0, slB, slF, slT)).2.2.1, (rFd s w lim (c - 1) (0, slB, slF, slT)).2.2.2, at9, wd9, got, ans, worst) out) := by
          intro d
          induction d with
          | zero => intro j hk hd; exact absurd hd (by omega)
          | succ d ih =>
            intro j hk_j hd_j
            have ih23 := ih
            clear ih
            refine z_iload_n 0 dX10_forgets_23 rfl rfl ?_
            refine z_aload_n 3 dX10_forgets_24 rfl rfl ?_
            refine z_get (v := .int (nI ((rFd s w lim (c - 1) (0, slB, slF, slT)).1))) 10 zgo_114 rfl inX10 (by decide) zw_1188 rfl rfl dX10_forgets_25 ?_
            refine z_icmp_ge (tgt := 81) dX10_forgets_28 (by decide) (fun c_28 => ?_) (fun c_28 => ?_)
            · skip
              have f_28 := m_le (by omega) (by omega) c_28
              have e_j : j = (rFd s w lim (c - 1) (0, slB, slF, slT)).1 := by omega
              rw [e_j]
              refine z_aload_n 3 dX10_forgets_81 rfl rfl ?_
              refine z_get (v := .ref 115) 0 zgo_114 rfl inX10 (by decide) zw_1178 rfl rfl dX10_forgets_82 ?_
              refine z_sipush (v := nI 1051) dX10_forgets_85 (by decide) ?_
              refine z_iload_n 2 dX10_forgets_88 rfl rfl ?_
              refine z_iaddN (a := 1051) (b := k) dX10_forgets_89 ?_
              have J99_62 : zPW G mX10_forgets 0 0 o9 h9 0 0 99 [(3, .int (nI ((rFd s w lim (c - 1) (0, slB, slF, slT)).1))), (2, .int (zB (decide (s (1051 + k) = nI 1) && rAny (fun j => nI 16 * (rFd s w lim (c - 1) (0, slB, slF, slT)).2.1 j + (rFd s w lim (c - 1) (0, slB, slF, slT)).2.2.1 j == nI k) ((rFd s w lim (c - 1) (0, slB, slF, slT)).1)))), (1, .int (nI k)), (0, .ref 114)] [.int (zB (decide (s (1051 + k) = nI 1) && rAny (fun j => nI 16 * (rFd s w lim (c - 1) (0, slB, slF, slT)).2.1 j + (rFd s w lim (c - 1) (0, slB, slF, slT)).2.2.1 j == nI k) ((rFd s w lim (c - 1) (0, slB, slF, slT)).1))), .int (nI (1051 + k)), .ref 115] (zHp S X ((zFa 1051 (fun k => zB (rFgP s (rFd s w lim (c - 1) (0, slB, slF, slT)).2.1 (rFd s w lim (c - 1) (0, slB, slF, slT)).2.2.1 (rFd s w lim (c - 1) (0, slB, slF, slT)).1 k)) s k), past, aside, pasts, txt, typed, thrown, line, need, left, (rFd s w lim (c - 1) (0, slB, slF, slT)).1, (rFd s w lim (c - 1) (0, slB, slF, slT)).2.1, (rFd s w lim (c - 1) (0, slB, slF, slT)).2.2.1, (rFd s w lim (c - 1) (0, slB, slF, slT)).2.2.2, at9, wd9, got, ans, worst) out) := by
                refine z_iastN (f := (zFa 1051 (fun k => zB (rFgP s (rFd s w lim (c - 1) (0, slB, slF, slT)).2.1 (rFd s w lim (c - 1) (0, slB, slF, slT)).2.2.1 (rFd s w lim (c - 1) (0, slB, slF, slT)).1 k)) s k)) (n := 1371) (j := 1051 + k) zga_115 (by omega) (by decide) dX10_forgets_99 ?_
                refine z_eqh (h2 := (zHp S X ((upd (zFa 1051 (fun k => zB (rFgP s (rFd s w lim (c - 1) (0, slB, slF, slT)).2.1 (rFd s w lim (c - 1) (0, slB, slF, slT)).2.2.1 (rFd s w lim (c - 1) (0, slB, slF, slT)).1 k)) s k) (1051 + k) (zB (decide (s (1051 + k) = nI 1) && rAny (fun j => nI 16 * (rFd s w lim (c - 1) (0, slB, slF, slT)).2.1 j + (rFd s w lim (c - 1) (0, slB, slF, slT)).2.2.1 j == nI k) ((rFd s w lim (c - 1) (0, slB, slF, slT)).1)))), past, aside, pasts, txt, typed, thrown, line, need, left, (rFd s w lim (c - 1) (0, slB, slF, slT)).1, (rFd s w lim (c - 1) (0, slB, slF, slT)).2.1, (rFd s w lim (c - 1) (0, slB, slF, slT)).2.2.1, (rFd s w lim (c - 1) (0, slB, slF, slT)).2.2.2, at9, wd9, got, ans, worst) out)) zsa_115 ?_
                refine z_iinc (v := nI (k + 1)) (lv' := [(1, .int (nI (k + 1))), (3, .int (nI ((rFd s w lim (c - 1) (0, slB, slF, slT)).1))), (2, .int (zB (decide (s (1051 + k) = nI 1) && rAny (fun j => nI 16 * (rFd s w lim (c - 1) (0, slB, slF, slT)).2.1 j + (rFd s w lim (c - 1) (0, slB, slF, slT)).2.2.1 j == nI k) ((rFd s w lim (c - 1) (0, slB, slF, slT)).1)))), (0, .ref 114)]) 2 dX10_forgets_100 rfl (nI_1 _) (by decide) rfl ?_
                refine z_goto (tgt := 12) dX10_forgets_103 (by decide) ?_
                refine z_sub [0, 3] (lv' := [(1, .int (nI (k + 1))), (0, .ref 114)]) rfl ?_
                refine z_eqs (lv2 := [(1, .int (nI ((k + 1)))), (0, .ref 114)]) (h2 := (zHp S X ((zFa 1051 (fun k => zB (rFgP s (rFd s w lim (c - 1) (0, slB, slF, slT)).2.1 (rFd s w lim (c - 1) (0, slB, slF, slT)).2.2.1 (rFd s w lim (c - 1) (0, slB, slF, slT)).1 k)) s (k + 1)), past, aside, pasts, txt, typed, thrown, line, need, left, (rFd s w lim (c - 1) (0, slB, slF, slT)).1, (rFd s w lim (c - 1) (0, slB, slF, slT)).2.1, (rFd s w lim (c - 1) (0, slB, slF, slT)).2.2.1, (rFd s w lim (c - 1) (0, slB, slF, slT)).2.2.2, at9, wd9, got, ans, worst) out)) (by rfl) (by rw [zFa_s (show (fun k => zB (rFgP s (rFd s w lim (c - 1) (0, slB, slF, slT)).2.1 (rFd s w lim (c - 1) (0, slB, slF, slT)).2.2.1 (rFd s w lim (c - 1) (0, slB, slF, slT)).1 k)) k = zB (decide (s (1051 + k) = nI 1) && rAny (fun j => nI 16 * (rFd s w lim (c - 1) (0, slB, slF, slT)).2.1 j + (rFd s w lim (c - 1) (0, slB, slF, slT)).2.2.1 j == nI k) ((rFd s w lim (c - 1) (0, slB, slF, slT)).1)) from rfl)]) ?_
                exact ih12 (k + 1) (by omega) (by omega)
              refine z_iload_n 1 dX10_forgets_90 rfl rfl ?_
              refine z_if_eq (tgt := 98) dX10_forgets_91 (by decide) (fun c_91 => ?_) (fun c_91 => ?_)
              · skip
                have b_91 := zB_0.mp c_91
                refine z_iconst (v := nI 0) dX10_forgets_98 (by decide) ?_
                refine z_top (v2 := .int (zB (decide (s (1051 + k) = nI 1) && rAny (fun j => nI 16 * (rFd s w lim (c - 1) (0, slB, slF, slT)).2.1 j + (rFd s w lim (c - 1) (0, slB, slF, slT)).2.2.1 j == nI k) ((rFd s w lim (c - 1) (0, slB, slF, slT)).1)))) (by rw [b_91]; rfl) ?_
                exact J99_62
              · skip
                have b_91 := zB_tt c_91
                refine z_iconst (v := nI 1) dX10_forgets_94 (by decide) ?_
                refine z_goto (tgt := 99) dX10_forgets_95 (by decide) ?_
                refine z_top (v2 := .int (zB (decide (s (1051 + k) = nI 1) && rAny (fun j => nI 16 * (rFd s w lim (c - 1) (0, slB, slF, slT)).2.1 j + (rFd s w lim (c - 1) (0, slB, slF, slT)).2.2.1 j == nI k) ((rFd s w lim (c - 1) (0, slB, slF, slT)).1)))) (by rw [b_91]; rfl) ?_
                exact J99_62
            · skip
              have f_28 := m_nle (by omega) (by omega) c_28
              refine z_aload_n 3 dX10_forgets_31 rfl rfl ?_
              refine z_get (v := .ref 115) 0 zgo_114 rfl inX10 (by decide) zw_1178 rfl rfl dX10_forgets_32 ?_
              refine z_sipush (v := nI 1051) dX10_forgets_35 (by decide) ?_
              refine z_iload_n 2 dX10_forgets_38 rfl rfl ?_
              refine z_iaddN (a := 1051) (b := k) dX10_forgets_39 ?_
              refine z_ialdN (f := (zFa 1051 (fun k => zB (rFgP s (rFd s w lim (c - 1) (0, slB, slF, slT)).2.1 (rFd s w lim (c - 1) (0, slB, slF, slT)).2.2.1 (rFd s w lim (c - 1) (0, slB, slF, slT)).1 k)) s k)) (n := 1371) (j := 1051 + k) zga_115 (by omega) (by decide) dX10_forgets_40 ?_
              refine z_top (v2 := .int (s (1051 + k))) (by rw [zFa_at (by omega)]) ?_
              refine z_iconst (v := nI 1) dX10_forgets_41 (by decide) ?_
              refine z_icmp_ne (tgt := 81) dX10_forgets_42 (by decide) (fun c_42 => ?_) (fun c_42 => ?_)
              · skip
                rw [show zB (decide (s (1051 + k) = nI 1) && rAny (fun j => nI 16 * (rFd s w lim (c - 1) (0, slB, slF, slT)).2.1 j + (rFd s w lim (c - 1) (0, slB, slF, slT)).2.2.1 j == nI k) j) = zB (decide (s (1051 + k) = nI 1) && rAny (fun j => nI 16 * (rFd s w lim (c - 1) (0, slB, slF, slT)).2.1 j + (rFd s w lim (c - 1) (0, slB, slF, slT)).2.2.1 j == nI k) ((rFd s w lim (c - 1) (0, slB, slF, slT)).1)) by rw [decide_eq_false c_42]; rfl]
                refine z_aload_n 3 dX10_forgets_81 rfl rfl ?_
                refine z_get (v := .ref 115) 0 zgo_114 rfl inX10 (by decide) zw_1178 rfl rfl dX10_forgets_82 ?_
                refine z_sipush (v := nI 1051) dX10_forgets_85 (by decide) ?_
                refine z_iload_n 2 dX10_forgets_88 rfl rfl ?_
                refine z_iaddN (a := 1051) (b := k) dX10_forgets_89 ?_
                have J99_101 : zPW G mX10_forgets 0 0 o9 h9 0 0 99 [(3, .int (nI j)), (2, .int (zB (decide (s (1051 + k) = nI 1) && rAny (fun j => nI 16 * (rFd s w lim (c - 1) (0, slB, slF, slT)).2.1 j + (rFd s w lim (c - 1) (0, slB, slF, slT)).2.2.1 j == nI k) ((rFd s w lim (c - 1) (0, slB, slF, slT)).1)))), (1, .int (nI k)), (0, .ref 114)] [.int (zB (decide (s (1051 + k) = nI 1) && rAny (fun j => nI 16 * (rFd s w lim (c - 1) (0, slB, slF, slT)).2.1 j + (rFd s w lim (c - 1) (0, slB, slF, slT)).2.2.1 j == nI k) ((rFd s w lim (c - 1) (0, slB, slF, slT)).1))), .int (nI (1051 + k)), .ref 115] (zHp S X ((zFa 1051 (fun k => zB (rFgP s (rFd s w lim (c - 1) (0, slB, slF, slT)).2.1 (rFd s w lim (c - 1) (0, slB, slF, slT)).2.2.1 (rFd s w lim (c - 1) (0, slB, slF, slT)).1 k)) s k), past, aside, pasts, txt, typed, thrown, line, need, left, (rFd s w lim (c - 1) (0, slB, slF, slT)).1, (rFd s w lim (c - 1) (0, slB, slF, slT)).2.1, (rFd s w lim (c - 1) (0, slB, slF, slT)).2.2.1, (rFd s w lim (c - 1) (0, slB, slF, slT)).2.2.2, at9, wd9, got, ans, worst) out) := by
                  refine z_iastN (f := (zFa 1051 (fun k => zB (rFgP s (rFd s w lim (c - 1) (0, slB, slF, slT)).2.1 (rFd s w lim (c - 1) (0, slB, slF, slT)).2.2.1 (rFd s w lim (c - 1) (0, slB, slF, slT)).1 k)) s k)) (n := 1371) (j := 1051 + k) zga_115 (by omega) (by decide) dX10_forgets_99 ?_
                  refine z_eqh (h2 := (zHp S X ((upd (zFa 1051 (fun k => zB (rFgP s (rFd s w lim (c - 1) (0, slB, slF, slT)).2.1 (rFd s w lim (c - 1) (0, slB, slF, slT)).2.2.1 (rFd s w lim (c - 1) (0, slB, slF, slT)).1 k)) s k) (1051 + k) (zB (decide (s (1051 + k) = nI 1) && rAny (fun j => nI 16 * (rFd s w lim (c - 1) (0, slB, slF, slT)).2.1 j + (rFd s w lim (c - 1) (0, slB, slF, slT)).2.2.1 j == nI k) ((rFd s w lim (c - 1) (0, slB, slF, slT)).1)))), past, aside, pasts, txt, typed, thrown, line, need, left, (rFd s w lim (c - 1) (0, slB, slF, slT)).1, (rFd s w lim (c - 1) (0, slB, slF, slT)).2.1, (rFd s w lim (c - 1) (0, slB, slF, slT)).2.2.1, (rFd s w lim (c - 1) (0, slB, slF, slT)).2.2.2, at9, wd9, got, ans, worst) out)) zsa_115 ?_
                  refine z_iinc (v := nI (k + 1)) (lv' := [(1, .int (nI (k + 1))), (3, .int (nI j)), (2, .int (zB (decide (s (1051 + k) = nI 1) && rAny (fun j => nI 16 * (rFd s w lim (c - 1) (0, slB, slF, slT)).2.1 j + (rFd s w lim (c - 1) (0, slB, slF, slT)).2.2.1 j == nI k) ((rFd s w lim (c - 1) (0, slB, slF, slT)).1)))), (0, .ref 114)]) 2 dX10_forgets_100 rfl (nI_1 _) (by decide) rfl ?_
                  refine z_goto (tgt := 12) dX10_forgets_103 (by decide) ?_
                  refine z_sub [0, 3] (lv' := [(1, .int (nI (k + 1))), (0, .ref 114)]) rfl ?_
                  refine z_eqs (lv2 := [(1, .int (nI ((k + 1)))), (0, .ref 114)]) (h2 := (zHp S X ((zFa 1051 (fun k => zB (rFgP s (rFd s w lim (c - 1) (0, slB, slF, slT)).2.1 (rFd s w lim (c - 1) (0, slB, slF, slT)).2.2.1 (rFd s w lim (c - 1) (0, slB, slF, slT)).1 k)) s (k + 1)), past, aside, pasts, txt, typed, thrown, line, need, left, (rFd s w lim (c - 1) (0, slB, slF, slT)).1, (rFd s w lim (c - 1) (0, slB, slF, slT)).2.1, (rFd s w lim (c - 1) (0, slB, slF, slT)).2.2.1, (rFd s w lim (c - 1) (0, slB, slF, slT)).2.2.2, at9, wd9, got, ans, worst) out)) (by rfl) (by rw [zFa_s (show (fun k => zB (rFgP s (rFd s w lim (c - 1) (0, slB, slF, slT)).2.1 (rFd s w lim (c - 1) (0, slB, slF, slT)).2.2.1 (rFd s w lim (c - 1) (0, slB, slF, slT)).1 k)) k = zB (decide (s (1051 + k) = nI 1) && rAny (fun j => nI 16 * (rFd s w lim (c - 1) (0, slB, slF, slT)).2.1 j + (rFd s w lim (c - 1) (0, slB, slF, slT)).2.2.1 j == nI k) ((rFd s w lim (c - 1) (0, slB, slF, slT)).1)) from rfl)]) ?_
                  exact ih12 (k + 1) (by omega) (by omega)
                refine z_iload_n 1 dX10_forgets_90 rfl rfl ?_
                refine z_if_eq (tgt := 98) dX10_forgets_91 (by decide) (fun c_91 => ?_) (fun c_91 => ?_)
                · skip
                  have b_91 := zB_0.mp c_91
                  refine z_iconst (v := nI 0) dX10_forgets_98 (by decide) ?_
                  refine z_top (v2 := .int (zB (decide (s (1051 + k) = nI 1) && rAny (fun j => nI 16 * (rFd s w lim (c - 1) (0, slB, slF, slT)).2.1 j + (rFd s w lim (c - 1) (0, slB, slF, slT)).2.2.1 j == nI k) ((rFd s w lim (c - 1) (0, slB, slF, slT)).1)))) (by rw [b_91]; rfl) ?_
                  exact J99_101
                · skip
                  have b_91 := zB_tt c_91
                  refine z_iconst (v := nI 1) dX10_forgets_94 (by decide) ?_
                  refine z_goto (tgt := 99) dX10_forgets_95 (by decide) ?_
                  refine z_top (v2 := .int (zB (decide (s (1051 + k) = nI 1) && rAny (fun j => nI 16 * (rFd s w lim (c - 1) (0, slB, slF, slT)).2.1 j + (rFd s w lim (c - 1) (0, slB, slF, slT)).2.2.1 j == nI k) ((rFd s w lim (c - 1) (0, slB, slF, slT)).1)))) (by rw [b_91]; rfl) ?_
                  exact J99_101
              · skip
                have J74_123 : zPW G mX10_forgets 0 0 o9 h9 0 0 74 [(3, .int (nI j)), (2, .int (zB (decide (s (1051 + k) = nI 1) && rAny (fun j => nI 16 * (rFd s w lim (c - 1) (0, slB, slF, slT)).2.1 j + (rFd s w lim (c - 1) (0, slB, slF, slT)).2.2.1 j == nI k) j))), (1, .int (nI k)), (0, .ref 114)] [.int (zB (decide (s (1051 + k) = nI 1) && rAny (fun j => nI 16 * (rFd s w lim (c - 1) (0, slB, slF, slT)).2.1 j + (rFd s w lim (c - 1) (0, slB, slF, slT)).2.2.1 j == nI k) (j + 1)))] (zHp S X ((zFa 1051 (fun k => zB (rFgP s (rFd s w lim (c - 1) (0, slB, slF, slT)).2.1 (rFd s w lim (c - 1) (0, slB, slF, slT)).2.2.1 (rFd s w lim (c - 1) (0, slB, slF, slT)).1 k)) s k), past, aside, pasts, txt, typed, thrown, line, need, left, (rFd s w lim (c - 1) (0, slB, slF, slT)).1, (rFd s w lim (c - 1) (0, slB, slF, slT)).2.1, (rFd s w lim (c - 1) (0, slB, slF, slT)).2.2.1, (rFd s w lim (c - 1) (0, slB, slF, slT)).2.2.2, at9, wd9, got, ans, worst) out) := by
                  refine z_istore_n (lv' := [(2, .int (zB (decide (s (1051 + k) = nI 1) && rAny (fun j => nI 16 * (rFd s w lim (c - 1) (0, slB, slF, slT)).2.1 j + (rFd s w lim (c - 1) (0, slB, slF, slT)).2.2.1 j == nI k) (j + 1)))), (3, .int (nI j)), (1, .int (nI k)), (0, .ref 114)]) dX10_forgets_74 rfl (by decide) rfl ?_
                  refine z_iinc (v := nI (j + 1)) (lv' := [(3, .int (nI (j + 1))), (2, .int (zB (decide (s (1051 + k) = nI 1) && rAny (fun j => nI 16 * (rFd s w lim (c - 1) (0, slB, slF, slT)).2.1 j + (rFd s w lim (c - 1) (0, slB, slF, slT)).2.2.1 j == nI k) (j + 1)))), (1, .int (nI k)), (0, .ref 114)]) 1 dX10_forgets_75 rfl (nI_1 _) (by decide) rfl ?_
                  refine z_goto (tgt := 23) dX10_forgets_78 (by decide) ?_
                  refine z_sub [0, 1, 2, 3] (lv' := [(3, .int (nI (j + 1))), (2, .int (zB (decide (s (1051 + k) = nI 1) && rAny (fun j => nI 16 * (rFd s w lim (c - 1) (0, slB, slF, slT)).2.1 j + (rFd s w lim (c - 1) (0, slB, slF, slT)).2.2.1 j == nI k) (j + 1)))), (1, .int (nI k)), (0, .ref 114)]) rfl ?_
                  refine z_eqs (lv2 := [(3, .int (nI ((j + 1)))), (2, .int (zB (decide (s (1051 + k) = nI 1) && rAny (fun j => nI 16 * (rFd s w lim (c - 1) (0, slB, slF, slT)).2.1 j + (rFd s w lim (c - 1) (0, slB, slF, slT)).2.2.1 j == nI k) (j + 1)))), (1, .int (nI k)), (0, .ref 114)]) (h2 := (zHp S X ((zFa 1051 (fun k => zB (rFgP s (rFd s w lim (c - 1) (0, slB, slF, slT)).2.1 (rFd s w lim (c - 1) (0, slB, slF, slT)).2.2.1 (rFd s w lim (c - 1) (0, slB, slF, slT)).1 k)) s k), past, aside, pasts, txt, typed, thrown, line, need, left, (rFd s w lim (c - 1) (0, slB, slF, slT)).1, (rFd s w lim (c - 1) (0, slB, slF, slT)).2.1, (rFd s w lim (c - 1) (0, slB, slF, slT)).2.2.1, (rFd s w lim (c - 1) (0, slB, slF, slT)).2.2.2, at9, wd9, got, ans, worst) out)) (by rfl) (by rfl) ?_
                  exact ih23 (j + 1) (by omega) (by omega)
                refine z_iload_n 1 dX10_forgets_45 rfl rfl ?_
                refine z_if_ne (tgt := 69) dX10_forgets_46 (by decide) (fun c_46 => ?_) (fun c_46 => ?_)
                · skip
                  have b_46 := zB_tt c_46
                  refine z_iconst (v := nI 1) dX10_forgets_69 (by decide) ?_
                  refine z_goto (tgt := 74) dX10_forgets_70 (by decide) ?_
                  refine z_top (v2 := .int (zB (decide (s (1051 + k) = nI 1) && rAny (fun j => nI 16 * (rFd s w lim (c - 1) (0, slB, slF, slT)).2.1 j + (rFd s w lim (c - 1) (0, slB, slF, slT)).2.2.1 j == nI k) (j + 1)))) (by rw [decide_eq_true c_42, Bool.true_and] at b_46; first | (rw [decide_eq_true c_42, Bool.true_and, rAny_s, b_46]; rfl) | (rw [decide_eq_true c_42, Bool.true_and, rAny_s, b_46, Bool.false_or, beq_iff_eq.mpr c_66]; rfl) | (rw [decide_eq_true c_42, Bool.true_and, rAny_s, b_46, Bool.false_or, beq_eq_false_iff_ne.mpr c_66]; rfl)) ?_
                  exact J74_123
                · skip
                  have b_46 := zB_0.mp c_46
                  refine z_bipush (v := nI 16) dX10_forgets_49 (by decide) ?_
                  refine z_aload_n 3 dX10_forgets_51 rfl rfl ?_
                  refine z_get (v := .ref 122) 11 zgo_114 rfl inX10 (by decide) zw_1189 rfl rfl dX10_forgets_52 ?_
                  refine z_iload_n 0 dX10_forgets_55 rfl rfl ?_
                  refine z_ialdN (f := (rFd s w lim (c - 1) (0, slB, slF, slT)).2.1) (n := 160) (j := j) zga_122 (by omega) (by decide) dX10_forgets_56 ?_
                  refine z_imul dX10_forgets_57 ?_
                  refine z_aload_n 3 dX10_forgets_58 rfl rfl ?_
                  refine z_get (v := .ref 123) 12 zgo_114 rfl inX10 (by decide) zw_1190 rfl rfl dX10_forgets_59 ?_
                  refine z_iload_n 0 dX10_forgets_62 rfl rfl ?_
                  refine z_ialdN (f := (rFd s w lim (c - 1) (0, slB, slF, slT)).2.2.1) (n := 160) (j := j) zga_123 (by omega) (by decide) dX10_forgets_63 ?_
                  refine z_iadd dX10_forgets_64 ?_
                  refine z_iload_n 2 dX10_forgets_65 rfl rfl ?_
                  refine z_icmp_ne (tgt := 73) dX10_forgets_66 (by decide) (fun c_66 => ?_) (fun c_66 => ?_)
                  · skip
                    refine z_iconst (v := nI 0) dX10_forgets_73 (by decide) ?_
                    refine z_top (v2 := .int (zB (decide (s (1051 + k) = nI 1) && rAny (fun j => nI 16 * (rFd s w lim (c - 1) (0, slB, slF, slT)).2.1 j + (rFd s w lim (c - 1) (0, slB, slF, slT)).2.2.1 j == nI k) (j + 1)))) (by rw [decide_eq_true c_42, Bool.true_and] at b_46; first | (rw [decide_eq_true c_42, Bool.true_and, rAny_s, b_46]; rfl) | (rw [decide_eq_true c_42, Bool.true_and, rAny_s, b_46, Bool.false_or, beq_iff_eq.mpr c_66]; rfl) | (rw [decide_eq_true c_42, Bool.true_and, rAny_s, b_46, Bool.false_or, beq_eq_false_iff_ne.mpr c_66]; rfl)) ?_
                    exact J74_123
                  · skip
                    refine z_iconst (v := nI 1) dX10_forgets_69 (by decide) ?_
                    refine z_goto (tgt := 74) dX10_forgets_70 (by decide) ?_
                    refine z_top (v2 := .int (zB (decide (s (1051 + k) = nI 1) && rAny (fun j => nI 16 * (rFd s w lim (c - 1) (0, slB, slF, slT)).2.1 j + (rFd s w lim (c - 1) (0, slB, slF, slT)).2.2.1 j == nI k) (j + 1)))) (by rw [decide_eq_true c_42, Bool.true_and] at b_46; first | (rw [decide_eq_true c_42, Bool.true_and, rAny_s, b_46]; rfl) | (rw [decide_eq_true c_42, Bool.true_and, rAny_s, b_46, Bool.false_or, beq_iff_eq.mpr c_66]; rfl) | (rw [decide_eq_true c_42, Bool.true_and, rAny_s, b_46, Bool.false_or, beq_eq_false_iff_ne.mpr c_66]; rfl)) ?_
                    exact J74_123
        refine z_sub [0, 1, 2, 3] (lv' := [(3, .int (nI 0)), (2, .int (nI 0)), (1, .int (nI k)), (0, .ref 114)]) rfl ?_
        refine z_eqs (lv2 := [(3, .int (nI 0)), (2, .int (zB (decide (s (1051 + k) = nI 1) && rAny (fun j => nI 16 * (rFd s w lim (c - 1) (0, slB, slF, slT)).2.1 j + (rFd s w lim (c - 1) (0, slB, slF, slT)).2.2.1 j == nI k) 0))), (1, .int (nI k)), (0, .ref 114)]) (h2 := (zHp S X ((zFa 1051 (fun k => zB (rFgP s (rFd s w lim (c - 1) (0, slB, slF, slT)).2.1 (rFd s w lim (c - 1) (0, slB, slF, slT)).2.2.1 (rFd s w lim (c - 1) (0, slB, slF, slT)).1 k)) s k), past, aside, pasts, txt, typed, thrown, line, need, left, (rFd s w lim (c - 1) (0, slB, slF, slT)).1, (rFd s w lim (c - 1) (0, slB, slF, slT)).2.1, (rFd s w lim (c - 1) (0, slB, slF, slT)).2.2.1, (rFd s w lim (c - 1) (0, slB, slF, slT)).2.2.2, at9, wd9, got, ans, worst) out)) (by rw [show rAny _ 0 = false from rfl, Bool.and_false]; rfl) (by rfl) ?_
        exact L23_2 ((rFd s w lim (c - 1) (0, slB, slF, slT)).1 + 1) 0 (by omega) (by omega)
  refine z_sub [0, 1] (lv' := [(1, .int (nI 0)), (0, .ref 114)]) rfl ?_
  refine z_eqs (lv2 := [(1, .int (nI 0)), (0, .ref 114)]) (h2 := (zHp S X ((zFa 1051 (fun k => zB (rFgP s (rFd s w lim (c - 1) (0, slB, slF, slT)).2.1 (rFd s w lim (c - 1) (0, slB, slF, slT)).2.2.1 (rFd s w lim (c - 1) (0, slB, slF, slT)).1 k)) s 0), past, aside, pasts, txt, typed, thrown, line, need, left, (rFd s w lim (c - 1) (0, slB, slF, slT)).1, (rFd s w lim (c - 1) (0, slB, slF, slT)).2.1, (rFd s w lim (c - 1) (0, slB, slF, slT)).2.2.1, (rFd s w lim (c - 1) (0, slB, slF, slT)).2.2.2, at9, wd9, got, ans, worst) out)) (by rfl) (by rw [zFa_0]) ?_
  exact L12_1 (320 + 1) 0 (by omega) (by omega)

set_option maxHeartbeats 4000000 in
set_option maxRecDepth 100000 in
theorem m_cloths {G : zT} {S : zS} {X : zXr} {out : Nat → Int64} {s : (Nat → Int32)} {past : (Nat → Int32)} {aside : (Nat → Int32)} {pasts : Nat} {txt : (Nat → Int32)} {typed : Nat} {thrown : Int32} {line : (Nat → Int32)} {need : (Nat → Int32)} {left : (Nat → Int32)} {slits : Nat} {slB : (Nat → Int32)} {slF : (Nat → Int32)} {slT : (Nat → Int32)} {at9 : Nat} {wd9 : Int32} {got : (Nat → Int32)} {ans : Int32} {worst : UInt32} (hG : zAl G = false) {c r w cnt lim : Nat} (hM : zMd s c r w cnt lim) (a b : Nat) (hok : (zFr (nI 1) (nI a) (nI 20) && zFr (nI 1) (nI b) (nI 16)) = true) : zRun G mX10_cloths 0 0 [.ref 114, .int (nI a), .int (nI b)] (zHp S X (s, past, aside, pasts, txt, typed, thrown, line, need, left, slits, slB, slF, slT, at9, wd9, got, ans, worst) out) (.inr (some (.int (nI 0)))) (zHp S X ((rCl s a b), past, aside, pasts, txt, typed, thrown, line, need, left, slits, slB, slF, slT, at9, wd9, got, (nI w), worst) out) := by
  have hM9 := hM
  obtain ⟨h0, h1, h2, h3, h4, hc1, hc, hr1, hr, hw, hn, hl⟩ := hM
  rw [Bool.and_eq_true] at hok
  refine zRun_of (by decide +kernel) rfl rfl (Nat.le_of_ble_eq_true rfl) ?_
  suffices hs : ∀ (o9 : zO) (h9 : zH), (Sum.inr (some (.int (nI 0))) : zO) = o9 → (zHp S X ((rCl s a b), past, aside, pasts, txt, typed, thrown, line, need, left, slits, slB, slF, slT, at9, wd9, got, (nI w), worst) out) = h9 → zPW G mX10_cloths 0 0 o9 h9 0 0 0 [(0, .ref 114), (1, .int (nI a)), (2, .int (nI b))] [] (zHp S X (s, past, aside, pasts, txt, typed, thrown, line, need, left, slits, slB, slF, slT, at9, wd9, got, ans, worst) out) from hs _ _ rfl rfl
  intro o9 h9 ho9 hh9
  refine z_iload_n 1 dX10_cloths_0 rfl rfl ?_
  refine z_iconst (v := nI 1) dX10_cloths_1 (by decide) ?_
  refine z_bipush (v := nI 20) dX10_cloths_2 (by decide) ?_
  refine z_callS (N := mX10_in) 3 [.int (nI a), .int (nI 1), .int (nI 20)] [] lX10_in ⟨zw_1252, zw_1253⟩ rfl rfl rfl (Nat.le_of_ble_eq_true rfl) (by decide) ⟨zlt, zlt⟩ hG ⟨Nat.zero_le _, Nat.zero_le _⟩ (m_in hG (nI a) (nI 1) (nI 20)) dX10_cloths_4 ?_
  refine z_if_eq (tgt := 20) dX10_cloths_7 (by decide) (fun c_7 => ?_) (fun c_7 => ?_)
  · exfalso; rw [zB_0.mp c_7] at hok; exact absurd hok.1 (by decide)
  · skip
    have b_7 := zB_tt c_7
    refine z_iload_n 2 dX10_cloths_10 rfl rfl ?_
    refine z_iconst (v := nI 1) dX10_cloths_11 (by decide) ?_
    refine z_bipush (v := nI 16) dX10_cloths_12 (by decide) ?_
    refine z_callS (N := mX10_in) 3 [.int (nI b), .int (nI 1), .int (nI 16)] [] lX10_in ⟨zw_1252, zw_1253⟩ rfl rfl rfl (Nat.le_of_ble_eq_true rfl) (by decide) ⟨zlt, zlt⟩ hG ⟨Nat.zero_le _, Nat.zero_le _⟩ (m_in hG (nI b) (nI 1) (nI 16)) dX10_cloths_14 ?_
    refine z_if_ne (tgt := 22) dX10_cloths_17 (by decide) (fun c_17 => ?_) (fun c_17 => ?_)
    · skip
      have b_17 := zB_tt c_17
      refine z_aload_n 0 dX10_cloths_22 rfl rfl ?_
      refine z_aload_n 0 dX10_cloths_23 rfl rfl ?_
      refine z_get (v := .ref 115) 0 zgo_114 rfl inX10 (by decide) zw_1178 rfl rfl dX10_cloths_24 ?_
      refine z_iconst (v := nI 2) dX10_cloths_27 (by decide) ?_
      refine z_ialdN (f := s) (n := 1371) (j := 2) zga_115 (by omega) (by decide) dX10_cloths_28 ?_
      refine z_top (v2 := .int (nI w)) (by rw [h2]) ?_
      refine z_puti 17 tyX10 zgo_114 rfl inX10 tyX10_ok nmX10 (by decide) zw_1195 rfl rfl (by decide +kernel) (Nat.le_of_ble_eq_true rfl) dX10_cloths_29 ?_
      refine z_eqh (h2 := (zHp S X (s, past, aside, pasts, txt, typed, thrown, line, need, left, slits, slB, slF, slT, at9, wd9, got, (nI w), worst) out)) zsf_114_17 ?_
      refine z_aload_n 0 dX10_cloths_32 rfl rfl ?_
      refine z_get (v := .ref 115) 0 zgo_114 rfl inX10 (by decide) zw_1178 rfl rfl dX10_cloths_33 ?_
      refine z_iconst (v := nI 0) dX10_cloths_36 (by decide) ?_
      refine z_iload_n 1 dX10_cloths_37 rfl rfl ?_
      refine z_iastN (f := s) (n := 1371) (j := 0) zga_115 (by omega) (by decide) dX10_cloths_38 ?_
      refine z_eqh (h2 := (zHp S X ((upd s 0 (nI a)), past, aside, pasts, txt, typed, thrown, line, need, left, slits, slB, slF, slT, at9, wd9, got, (nI w), worst) out)) zsa_115 ?_
      refine z_aload_n 0 dX10_cloths_39 rfl rfl ?_
      refine z_get (v := .ref 115) 0 zgo_114 rfl inX10 (by decide) zw_1178 rfl rfl dX10_cloths_40 ?_
      refine z_iconst (v := nI 1) dX10_cloths_43 (by decide) ?_
      refine z_iload_n 2 dX10_cloths_44 rfl rfl ?_
      refine z_iastN (f := (upd s 0 (nI a))) (n := 1371) (j := 1) zga_115 (by omega) (by decide) dX10_cloths_45 ?_
      refine z_eqh (h2 := (zHp S X ((upd (upd s 0 (nI a)) 1 (nI b)), past, aside, pasts, txt, typed, thrown, line, need, left, slits, slB, slF, slT, at9, wd9, got, (nI w), worst) out)) zsa_115 ?_
      refine z_aload_n 0 dX10_cloths_46 rfl rfl ?_
      refine z_get (v := .ref 115) 0 zgo_114 rfl inX10 (by decide) zw_1178 rfl rfl dX10_cloths_47 ?_
      refine z_iconst (v := nI 2) dX10_cloths_50 (by decide) ?_
      refine z_iconst (v := nI 0) dX10_cloths_51 (by decide) ?_
      refine z_iastN (f := (upd (upd s 0 (nI a)) 1 (nI b))) (n := 1371) (j := 2) zga_115 (by omega) (by decide) dX10_cloths_52 ?_
      refine z_eqh (h2 := (zHp S X ((upd (upd (upd s 0 (nI a)) 1 (nI b)) 2 (nI 0)), past, aside, pasts, txt, typed, thrown, line, need, left, slits, slB, slF, slT, at9, wd9, got, (nI w), worst) out)) zsa_115 ?_
      refine z_iconst (v := nI 0) dX10_cloths_53 (by decide) ?_
      refine z_istore_n (lv' := [(3, .int (nI 0)), (0, .ref 114), (1, .int (nI a)), (2, .int (nI b))]) dX10_cloths_54 rfl (by decide) rfl ?_
      have L55_1 : ∀ (d k : Nat), k ≤ 320 → 320 + 1 ≤ k + d → zPW G mX10_cloths 0 0 o9 h9 0 0 55 [(3, .int (nI k)), (0, .ref 114), (1, .int (nI a)), (2, .int (nI b))] [] (zHp S X ((zFa 1051 (fun _ => nI 0) (zFa 91 (fun _ => nI 0) (upd (upd (upd s 0 (nI a)) 1 (nI b)) 2 (nI 0)) k) k), past, aside, pasts, txt, typed, thrown, line, need, left, slits, slB, slF, slT, at9, wd9, got, (nI w), worst) out) := by
        intro d
        induction d with
        | zero => intro k hk hd; exact absurd hd (by omega)
        | succ d ih =>
          intro k hk_k hd_k
          have ih55 := ih
          clear ih
          refine z_iload_n 0 dX10_cloths_55 rfl rfl ?_
          refine z_sipush (v := nI 320) dX10_cloths_56 (by decide) ?_
          refine z_icmp_ge (tgt := 89) dX10_cloths_59 (by decide) (fun c_59 => ?_) (fun c_59 => ?_)
          · skip
            have f_59 := m_le (by omega) (by omega) c_59
            have e_k : k = 320 := by omega
            rw [e_k]
            refine z_iconst (v := nI 0) dX10_cloths_89 (by decide) ?_
            refine z_istore_n (lv' := [(3, .int (nI 0)), (0, .ref 114), (1, .int (nI a)), (2, .int (nI b))]) dX10_cloths_90 rfl (by decide) rfl ?_
            have L91_2 : ∀ (d k : Nat), k ≤ 20 → 20 + 1 ≤ k + d → zPW G mX10_cloths 0 0 o9 h9 0 0 91 [(3, .int (nI k)), (0, .ref 114), (1, .int (nI a)), (2, .int (nI b))] [] (zHp S X ((zFa 71 (fun _ => -1) (zFa 1051 (fun _ => nI 0) (zFa 91 (fun _ => nI 0) (upd (upd (upd s 0 (nI a)) 1 (nI b)) 2 (nI 0)) 320) 320) k), past, aside, pasts, txt, typed, thrown, line, need, left, slits, slB, slF, slT, at9, wd9, got, (nI w), worst) out) := by
              intro d
              induction d with
              | zero => intro k hk hd; exact absurd hd (by omega)
              | succ d ih =>
                intro k hk_k hd_k
                have ih91 := ih
                clear ih
                refine z_iload_n 0 dX10_cloths_91 rfl rfl ?_
                refine z_bipush (v := nI 20) dX10_cloths_92 (by decide) ?_
                refine z_icmp_ge (tgt := 113) dX10_cloths_94 (by decide) (fun c_94 => ?_) (fun c_94 => ?_)
                · skip
                  have f_94 := m_le (by omega) (by omega) c_94
                  have e_k : k = 20 := by omega
                  rw [e_k]
                  refine z_iconst (v := nI 0) dX10_cloths_113 (by decide) ?_
                  exact z_iret rfl dX10_cloths_114 (zo_i ho9 (by rfl)) (zo_h hh9 (by rfl)) (Nat.zero_le _) (Nat.zero_le _)
                · skip
                  have f_94 := m_nle (by omega) (by omega) c_94
                  refine z_aload_n 1 dX10_cloths_97 rfl rfl ?_
                  refine z_get (v := .ref 115) 0 zgo_114 rfl inX10 (by decide) zw_1178 rfl rfl dX10_cloths_98 ?_
                  refine z_bipush (v := nI 71) dX10_cloths_101 (by decide) ?_
                  refine z_iload_n 0 dX10_cloths_103 rfl rfl ?_
                  refine z_iaddN (a := 71) (b := k) dX10_cloths_104 ?_
                  refine z_iconst (v := (-1)) dX10_cloths_105 (by decide) ?_
                  refine z_iastN (f := (zFa 71 (fun _ => -1) (zFa 1051 (fun _ => nI 0) (zFa 91 (fun _ => nI 0) (upd (upd (upd s 0 (nI a)) 1 (nI b)) 2 (nI 0)) 320) 320) k)) (n := 1371) (j := 71 + k) zga_115 (by omega) (by decide) dX10_cloths_106 ?_
                  refine z_eqh (h2 := (zHp S X ((upd (zFa 71 (fun _ => -1) (zFa 1051 (fun _ => nI 0) (zFa 91 (fun _ => nI 0) (upd (upd (upd s 0 (nI a)) 1 (nI b)) 2 (nI 0)) 320) 320) k) (71 + k) (-1)), past, aside, pasts, txt, typed, thrown, line, need, left, slits, slB, slF, slT, at9, wd9, got, (nI w), worst) out)) zsa_115 ?_
                  refine z_iinc (v := nI (k + 1)) (lv' := [(3, .int (nI (k + 1))), (0, .ref 114), (1, .int (nI a)), (2, .int (nI b))]) 0 dX10_cloths_107 rfl (nI_1 _) (by decide) rfl ?_
                  refine z_goto (tgt := 91) dX10_cloths_110 (by decide) ?_
                  refine z_sub [0, 1, 2, 3] (lv' := [(3, .int (nI (k + 1))), (0, .ref 114), (1, .int (nI a)), (2, .int (nI b))]) rfl ?_
                  refine z_eqs (lv2 := [(3, .int (nI ((k + 1)))), (0, .ref 114), (1, .int (nI a)), (2, .int (nI b))]) (h2 := (zHp S X ((zFa 71 (fun _ => -1) (zFa 1051 (fun _ => nI 0) (zFa 91 (fun _ => nI 0) (upd (upd (upd s 0 (nI a)) 1 (nI b)) 2 (nI 0)) 320) 320) (k + 1)), past, aside, pasts, txt, typed, thrown, line, need, left, slits, slB, slF, slT, at9, wd9, got, (nI w), worst) out)) (by rfl) (by rw [zFa_s rfl]) ?_
                  exact ih91 (k + 1) (by omega) (by omega)
            refine z_sub [0, 1, 2, 3] (lv' := [(3, .int (nI 0)), (0, .ref 114), (1, .int (nI a)), (2, .int (nI b))]) rfl ?_
            refine z_eqs (lv2 := [(3, .int (nI 0)), (0, .ref 114), (1, .int (nI a)), (2, .int (nI b))]) (h2 := (zHp S X ((zFa 71 (fun _ => -1) (zFa 1051 (fun _ => nI 0) (zFa 91 (fun _ => nI 0) (upd (upd (upd s 0 (nI a)) 1 (nI b)) 2 (nI 0)) 320) 320) 0), past, aside, pasts, txt, typed, thrown, line, need, left, slits, slB, slF, slT, at9, wd9, got, (nI w), worst) out)) (by rfl) (by rw [zFa_0]) ?_
            exact L91_2 (20 + 1) 0 (by omega) (by omega)
          · skip
            have f_59 := m_nle (by omega) (by omega) c_59
            refine z_aload_n 1 dX10_cloths_62 rfl rfl ?_
            refine z_get (v := .ref 115) 0 zgo_114 rfl inX10 (by decide) zw_1178 rfl rfl dX10_cloths_63 ?_
            refine z_bipush (v := nI 91) dX10_cloths_66 (by decide) ?_
            refine z_iload_n 0 dX10_cloths_68 rfl rfl ?_
            refine z_iaddN (a := 91) (b := k) dX10_cloths_69 ?_
            refine z_iconst (v := nI 0) dX10_cloths_70 (by decide) ?_
            refine z_iastN (f := (zFa 1051 (fun _ => nI 0) (zFa 91 (fun _ => nI 0) (upd (upd (upd s 0 (nI a)) 1 (nI b)) 2 (nI 0)) k) k)) (n := 1371) (j := 91 + k) zga_115 (by omega) (by decide) dX10_cloths_71 ?_
            refine z_eqh (h2 := (zHp S X ((upd (zFa 1051 (fun _ => nI 0) (zFa 91 (fun _ => nI 0) (upd (upd (upd s 0 (nI a)) 1 (nI b)) 2 (nI 0)) k) k) (91 + k) (nI 0)), past, aside, pasts, txt, typed, thrown, line, need, left, slits, slB, slF, slT, at9, wd9, got, (nI w), worst) out)) zsa_115 ?_
            refine z_aload_n 1 dX10_cloths_72 rfl rfl ?_
            refine z_get (v := .ref 115) 0 zgo_114 rfl inX10 (by decide) zw_1178 rfl rfl dX10_cloths_73 ?_
            refine z_sipush (v := nI 1051) dX10_cloths_76 (by decide) ?_
            refine z_iload_n 0 dX10_cloths_79 rfl rfl ?_
            refine z_iaddN (a := 1051) (b := k) dX10_cloths_80 ?_
            refine z_iconst (v := nI 0) dX10_cloths_81 (by decide) ?_
            refine z_iastN (f := (upd (zFa 1051 (fun _ => nI 0) (zFa 91 (fun _ => nI 0) (upd (upd (upd s 0 (nI a)) 1 (nI b)) 2 (nI 0)) k) k) (91 + k) (nI 0))) (n := 1371) (j := 1051 + k) zga_115 (by omega) (by decide) dX10_cloths_82 ?_
            refine z_eqh (h2 := (zHp S X ((upd (upd (zFa 1051 (fun _ => nI 0) (zFa 91 (fun _ => nI 0) (upd (upd (upd s 0 (nI a)) 1 (nI b)) 2 (nI 0)) k) k) (91 + k) (nI 0)) (1051 + k) (nI 0)), past, aside, pasts, txt, typed, thrown, line, need, left, slits, slB, slF, slT, at9, wd9, got, (nI w), worst) out)) zsa_115 ?_
            refine z_iinc (v := nI (k + 1)) (lv' := [(3, .int (nI (k + 1))), (0, .ref 114), (1, .int (nI a)), (2, .int (nI b))]) 0 dX10_cloths_83 rfl (nI_1 _) (by decide) rfl ?_
            refine z_goto (tgt := 55) dX10_cloths_86 (by decide) ?_
            refine z_sub [0, 1, 2, 3] (lv' := [(3, .int (nI (k + 1))), (0, .ref 114), (1, .int (nI a)), (2, .int (nI b))]) rfl ?_
            refine z_eqs (lv2 := [(3, .int (nI ((k + 1)))), (0, .ref 114), (1, .int (nI a)), (2, .int (nI b))]) (h2 := (zHp S X ((zFa 1051 (fun _ => nI 0) (zFa 91 (fun _ => nI 0) (upd (upd (upd s 0 (nI a)) 1 (nI b)) 2 (nI 0)) (k + 1)) (k + 1)), past, aside, pasts, txt, typed, thrown, line, need, left, slits, slB, slF, slT, at9, wd9, got, (nI w), worst) out)) (by rfl) (by rw [zFa_ulo (by omega), zFa_s rfl, zFa_s rfl]) ?_
            exact ih55 (k + 1) (by omega) (by omega)
      refine z_sub [0, 1, 2, 3] (lv' := [(3, .int (nI 0)), (0, .ref 114), (1, .int (nI a)), (2, .int (nI b))]) rfl ?_
      refine z_eqs (lv2 := [(3, .int (nI 0)), (0, .ref 114), (1, .int (nI a)), (2, .int (nI b))]) (h2 := (zHp S X ((zFa 1051 (fun _ => nI 0) (zFa 91 (fun _ => nI 0) (upd (upd (upd s 0 (nI a)) 1 (nI b)) 2 (nI 0)) 0) 0), past, aside, pasts, txt, typed, thrown, line, need, left, slits, slB, slF, slT, at9, wd9, got, (nI w), worst) out)) (by rfl) (by rw [zFa_0, zFa_0]) ?_
      exact L55_1 (320 + 1) 0 (by omega) (by omega)
    · exfalso; rw [zB_0.mp c_17] at hok; exact absurd hok.2 (by decide)

set_option maxHeartbeats 4000000 in
set_option maxRecDepth 100000 in
theorem m_cloths_x {G : zT} {S : zS} {X : zXr} {out : Nat → Int64} {s : (Nat → Int32)} {past : (Nat → Int32)} {aside : (Nat → Int32)} {pasts : Nat} {txt : (Nat → Int32)} {typed : Nat} {thrown : Int32} {line : (Nat → Int32)} {need : (Nat → Int32)} {left : (Nat → Int32)} {slits : Nat} {slB : (Nat → Int32)} {slF : (Nat → Int32)} {slT : (Nat → Int32)} {at9 : Nat} {wd9 : Int32} {got : (Nat → Int32)} {ans : Int32} {worst : UInt32} (hG : zAl G = false) (a b : Int32) (hok : (zFr (nI 1) a (nI 20) && zFr (nI 1) b (nI 16)) = false) : zRun G mX10_cloths 0 0 [.ref 114, .int a, .int b] (zHp S X (s, past, aside, pasts, txt, typed, thrown, line, need, left, slits, slB, slF, slT, at9, wd9, got, ans, worst) out) (.inr (some (.int (nI 1)))) (zHp S X (s, past, aside, pasts, txt, typed, thrown, line, need, left, slits, slB, slF, slT, at9, wd9, got, ans, worst) out) := by
  refine zRun_of (by decide +kernel) rfl rfl (Nat.le_of_ble_eq_true rfl) ?_
  suffices hs : ∀ (o9 : zO) (h9 : zH), (Sum.inr (some (.int (nI 1))) : zO) = o9 → (zHp S X (s, past, aside, pasts, txt, typed, thrown, line, need, left, slits, slB, slF, slT, at9, wd9, got, ans, worst) out) = h9 → zPW G mX10_cloths 0 0 o9 h9 0 0 0 [(0, .ref 114), (1, .int a), (2, .int b)] [] (zHp S X (s, past, aside, pasts, txt, typed, thrown, line, need, left, slits, slB, slF, slT, at9, wd9, got, ans, worst) out) from hs _ _ rfl rfl
  intro o9 h9 ho9 hh9
  refine z_iload_n 1 dX10_cloths_0 rfl rfl ?_
  refine z_iconst (v := nI 1) dX10_cloths_1 (by decide) ?_
  refine z_bipush (v := nI 20) dX10_cloths_2 (by decide) ?_
  refine z_callS (N := mX10_in) 3 [.int a, .int (nI 1), .int (nI 20)] [] lX10_in ⟨zw_1252, zw_1253⟩ rfl rfl rfl (Nat.le_of_ble_eq_true rfl) (by decide) ⟨zlt, zlt⟩ hG ⟨Nat.zero_le _, Nat.zero_le _⟩ (m_in hG a (nI 1) (nI 20)) dX10_cloths_4 ?_
  refine z_if_eq (tgt := 20) dX10_cloths_7 (by decide) (fun c_7 => ?_) (fun c_7 => ?_)
  · skip
    have b_7 := zB_0.mp c_7
    refine z_iconst (v := nI 1) dX10_cloths_20 (by decide) ?_
    exact z_iret rfl dX10_cloths_21 (zo_i ho9 (by rfl)) (zo_h hh9 (by rfl)) (Nat.zero_le _) (Nat.zero_le _)
  · skip
    have b_7 := zB_tt c_7
    refine z_iload_n 2 dX10_cloths_10 rfl rfl ?_
    refine z_iconst (v := nI 1) dX10_cloths_11 (by decide) ?_
    refine z_bipush (v := nI 16) dX10_cloths_12 (by decide) ?_
    refine z_callS (N := mX10_in) 3 [.int b, .int (nI 1), .int (nI 16)] [] lX10_in ⟨zw_1252, zw_1253⟩ rfl rfl rfl (Nat.le_of_ble_eq_true rfl) (by decide) ⟨zlt, zlt⟩ hG ⟨Nat.zero_le _, Nat.zero_le _⟩ (m_in hG b (nI 1) (nI 16)) dX10_cloths_14 ?_
    refine z_if_ne (tgt := 22) dX10_cloths_17 (by decide) (fun c_17 => ?_) (fun c_17 => ?_)
    · exfalso; rw [zB_tt c_17, b_7] at hok; exact absurd hok (by decide)
    · skip
      have b_17 := zB_0.mp c_17
      refine z_iconst (v := nI 1) dX10_cloths_20 (by decide) ?_
      exact z_iret rfl dX10_cloths_21 (zo_i ho9 (by rfl)) (zo_h hh9 (by rfl)) (Nat.zero_le _) (Nat.zero_le _)

set_option maxHeartbeats 4000000 in
set_option maxRecDepth 100000 in
theorem m_fills {G : zT} {S : zS} {X : zXr} {out : Nat → Int64} {s : (Nat → Int32)} {past : (Nat → Int32)} {aside : (Nat → Int32)} {pasts : Nat} {txt : (Nat → Int32)} {typed : Nat} {thrown : Int32} {line : (Nat → Int32)} {need : (Nat → Int32)} {left : (Nat → Int32)} {slits : Nat} {slB : (Nat → Int32)} {slF : (Nat → Int32)} {slT : (Nat → Int32)} {at9 : Nat} {wd9 : Int32} {got : (Nat → Int32)} {ans : Int32} {worst : UInt32} (hG : zAl G = false) {c r w cnt lim : Nat} (hM : zMd s c r w cnt lim) (x y u z : Nat) (k9 : Int32) (hxu : x ≤ u) (hu : u < c) (hyz : y ≤ z) (hz : z < r) (hk : zFr (nI 0) k9 (nI 7) = true) : zRun G mX10_fills 0 0 [.ref 114, .int (nI x), .int (nI y), .int (nI u), .int (nI z), .int k9] (zHp S X (s, past, aside, pasts, txt, typed, thrown, line, need, left, slits, slB, slF, slT, at9, wd9, got, ans, worst) out) (.inr (some (.int (nI 0)))) (zHp S X ((rFl x y u k9 (z + 1 - y) (s, 0)).1, past, aside, pasts, txt, typed, thrown, line, need, left, slits, slB, slF, slT, at9, wd9, got, (nI (rFl x y u k9 (z + 1 - y) (s, 0)).2), worst) out) := by
  have hM9 := hM
  obtain ⟨h0, h1, h2, h3, h4, hc1, hc, hr1, hr, hw, hn, hl⟩ := hM
  refine zRun_of (by decide +kernel) rfl rfl (Nat.le_of_ble_eq_true rfl) ?_
  suffices hs : ∀ (o9 : zO) (h9 : zH), (Sum.inr (some (.int (nI 0))) : zO) = o9 → (zHp S X ((rFl x y u k9 (z + 1 - y) (s, 0)).1, past, aside, pasts, txt, typed, thrown, line, need, left, slits, slB, slF, slT, at9, wd9, got, (nI (rFl x y u k9 (z + 1 - y) (s, 0)).2), worst) out) = h9 → zPW G mX10_fills 0 0 o9 h9 0 0 0 [(0, .ref 114), (1, .int (nI x)), (2, .int (nI y)), (3, .int (nI u)), (4, .int (nI z)), (5, .int k9)] [] (zHp S X (s, past, aside, pasts, txt, typed, thrown, line, need, left, slits, slB, slF, slT, at9, wd9, got, ans, worst) out) from hs _ _ rfl rfl
  intro o9 h9 ho9 hh9
  refine z_aload_n 0 dX10_fills_0 rfl rfl ?_
  refine z_iload_n 1 dX10_fills_1 rfl rfl ?_
  refine z_iload_n 2 dX10_fills_2 rfl rfl ?_
  refine z_callV (N := mX10_isCell) 2 [.int (nI x), .int (nI y)] [] lX10_isCell ⟨zw_1279, zw_1281, zw_50⟩ rfl zgo_114 rfl rfl (Nat.le_of_ble_eq_true rfl) (by decide) ⟨zlt, zlt⟩ ⟨Nat.zero_le _, Nat.zero_le _⟩ (fun _ => rfl) (m_isCell hG hM9 (nI x) (nI y)) dX10_fills_3 ?_
  refine z_if_eq (tgt := 19) dX10_fills_6 (by decide) (fun c_6 => ?_) (fun c_6 => ?_)
  · exfalso; have := zB_0.mp c_6; rw [zIn_n (by omega) (by omega), zIn_n (by omega) (by omega), decide_eq_true (by omega), decide_eq_true (by omega)] at this; exact absurd this (by decide)
  · skip
    have b_6 := zB_tt c_6
    refine z_aload_n 0 dX10_fills_9 rfl rfl ?_
    refine z_iload_n 3 dX10_fills_10 rfl rfl ?_
    refine z_iload 4 dX10_fills_11 rfl ?_
    refine z_callV (N := mX10_isCell) 2 [.int (nI u), .int (nI z)] [] lX10_isCell ⟨zw_1279, zw_1281, zw_50⟩ rfl zgo_114 rfl rfl (Nat.le_of_ble_eq_true rfl) (by decide) ⟨zlt, zlt⟩ ⟨Nat.zero_le _, Nat.zero_le _⟩ (fun _ => rfl) (m_isCell hG hM9 (nI u) (nI z)) dX10_fills_13 ?_
    refine z_if_ne (tgt := 21) dX10_fills_16 (by decide) (fun c_16 => ?_) (fun c_16 => ?_)
    · skip
      have b_16 := zB_tt c_16
      refine z_iload_n 3 dX10_fills_21 rfl rfl ?_
      refine z_iload_n 1 dX10_fills_22 rfl rfl ?_
      refine z_icmp_lt (tgt := 43) dX10_fills_23 (by decide) (fun c_23 => ?_) (fun c_23 => ?_)
      · exfalso; have := m_lt (by omega) (by omega) c_23; omega
      · skip
        have f_23 := m_nlt (by omega) (by omega) c_23
        refine z_iload 4 dX10_fills_26 rfl ?_
        refine z_iload_n 2 dX10_fills_28 rfl rfl ?_
        refine z_icmp_lt (tgt := 43) dX10_fills_29 (by decide) (fun c_29 => ?_) (fun c_29 => ?_)
        · exfalso; have := m_lt (by omega) (by omega) c_29; omega
        · skip
          have f_29 := m_nlt (by omega) (by omega) c_29
          refine z_iload 5 dX10_fills_32 rfl ?_
          refine z_iconst (v := nI 0) dX10_fills_34 (by decide) ?_
          refine z_bipush (v := nI 7) dX10_fills_35 (by decide) ?_
          refine z_callS (N := mX10_in) 3 [.int k9, .int (nI 0), .int (nI 7)] [] lX10_in ⟨zw_1252, zw_1253⟩ rfl rfl rfl (Nat.le_of_ble_eq_true rfl) (by decide) ⟨zlt, zlt⟩ hG ⟨Nat.zero_le _, Nat.zero_le _⟩ (m_in hG k9 (nI 0) (nI 7)) dX10_fills_37 ?_
          refine z_if_ne (tgt := 45) dX10_fills_40 (by decide) (fun c_40 => ?_) (fun c_40 => ?_)
          · skip
            have b_40 := zB_tt c_40
            refine z_aload_n 0 dX10_fills_45 rfl rfl ?_
            refine z_iconst (v := nI 0) dX10_fills_46 (by decide) ?_
            refine z_puti 17 tyX10 zgo_114 rfl inX10 tyX10_ok nmX10 (by decide) zw_1195 rfl rfl (by decide +kernel) (Nat.le_of_ble_eq_true rfl) dX10_fills_47 ?_
            refine z_eqh (h2 := (zHp S X (s, past, aside, pasts, txt, typed, thrown, line, need, left, slits, slB, slF, slT, at9, wd9, got, (nI 0), worst) out)) zsf_114_17 ?_
            refine z_iload_n 2 dX10_fills_50 rfl rfl ?_
            refine z_istore (lv' := [(6, .int (nI y)), (0, .ref 114), (1, .int (nI x)), (2, .int (nI y)), (3, .int (nI u)), (4, .int (nI z)), (5, .int k9)]) dX10_fills_51 (by decide) rfl ?_
            have L53_1 : ∀ (d j : Nat), j ≤ z + 1 - y → z + 1 - y + 1 ≤ j + d → zPW G mX10_fills 0 0 o9 h9 0 0 53 [(6, .int (nI (y + j))), (0, .ref 114), (1, .int (nI x)), (2, .int (nI y)), (3, .int (nI u)), (4, .int (nI z)), (5, .int k9)] [] (zHp S X ((rFl x y u k9 j (s, 0)).1, past, aside, pasts, txt, typed, thrown, line, need, left, slits, slB, slF, slT, at9, wd9, got, (nI (rFl x y u k9 j (s, 0)).2), worst) out) := by
              intro d
              induction d with
              | zero => intro j hk hd; exact absurd hd (by omega)
              | succ d ih =>
                intro j hk_j hd_j
                have ih53 := ih
                clear ih
                refine z_iload 0 dX10_fills_53 rfl ?_
                refine z_iload 5 dX10_fills_55 rfl ?_
                refine z_icmp_gt (tgt := 134) dX10_fills_57 (by decide) (fun c_57 => ?_) (fun c_57 => ?_)
                · skip
                  have f_57 := m_lt (by omega) (by omega) c_57
                  have e_j : j = z + 1 - y := by omega
                  rw [e_j]
                  refine z_iconst (v := nI 0) dX10_fills_134 (by decide) ?_
                  exact z_iret rfl dX10_fills_135 (zo_i ho9 (by rfl)) (zo_h hh9 (by rfl)) (Nat.zero_le _) (Nat.zero_le _)
                · skip
                  have f_57 := m_nlt (by omega) (by omega) c_57
                  refine z_iload_n 2 dX10_fills_60 rfl rfl ?_
                  refine z_istore (lv' := [(7, .int (nI x)), (6, .int (nI (y + j))), (0, .ref 114), (1, .int (nI x)), (2, .int (nI y)), (3, .int (nI u)), (4, .int (nI z)), (5, .int k9)]) dX10_fills_61 (by decide) rfl ?_
                  have L63_2 : ∀ (d i : Nat), i ≤ u + 1 - x → u + 1 - x + 1 ≤ i + d → zPW G mX10_fills 0 0 o9 h9 0 0 63 [(7, .int (nI (x + i))), (6, .int (nI (y + j))), (0, .ref 114), (1, .int (nI x)), (2, .int (nI y)), (3, .int (nI u)), (4, .int (nI z)), (5, .int k9)] [] (zHp S X ((rFlR x u k9 (y + j) i (rFl x y u k9 j (s, 0))).1, past, aside, pasts, txt, typed, thrown, line, need, left, slits, slB, slF, slT, at9, wd9, got, (nI (rFlR x u k9 (y + j) i (rFl x y u k9 j (s, 0))).2), worst) out) := by
                    intro d
                    induction d with
                    | zero => intro i hk hd; exact absurd hd (by omega)
                    | succ d ih =>
                      intro i hk_i hd_i
                      have ih63 := ih
                      clear ih
                      have hq1 := rFlR_n (x := x) (u := u) (y := y + j) (v := k9) (q := rFl x y u k9 j (s, 0)) i
                      refine z_iload 0 dX10_fills_63 rfl ?_
                      refine z_iload_n 5 dX10_fills_65 rfl rfl ?_
                      refine z_icmp_gt (tgt := 128) dX10_fills_66 (by decide) (fun c_66 => ?_) (fun c_66 => ?_)
                      · skip
                        have f_66 := m_lt (by omega) (by omega) c_66
                        have e_i : i = u + 1 - x := by omega
                        rw [e_i]
                        refine z_iinc (v := nI (y + j + 1)) (lv' := [(6, .int (nI (y + j + 1))), (7, .int (nI (x + (u + 1 - x)))), (0, .ref 114), (1, .int (nI x)), (2, .int (nI y)), (3, .int (nI u)), (4, .int (nI z)), (5, .int k9)]) 1 dX10_fills_128 rfl (nI_1 _) (by decide) rfl ?_
                        refine z_goto (tgt := 53) dX10_fills_131 (by decide) ?_
                        refine z_sub [0, 2, 3, 4, 5, 6, 7] (lv' := [(6, .int (nI (y + j + 1))), (0, .ref 114), (1, .int (nI x)), (2, .int (nI y)), (3, .int (nI u)), (4, .int (nI z)), (5, .int k9)]) rfl ?_
                        refine z_eqs (lv2 := [(6, .int (nI (y + (j + 1)))), (0, .ref 114), (1, .int (nI x)), (2, .int (nI y)), (3, .int (nI u)), (4, .int (nI z)), (5, .int k9)]) (h2 := (zHp S X ((rFl x y u k9 (j + 1) (s, 0)).1, past, aside, pasts, txt, typed, thrown, line, need, left, slits, slB, slF, slT, at9, wd9, got, (nI (rFl x y u k9 (j + 1) (s, 0)).2), worst) out)) (by rfl) (by rfl) ?_
                        exact ih53 (j + 1) (by omega) (by omega)
                      · skip
                        have f_66 := m_nlt (by omega) (by omega) c_66
                        refine z_aload_n 2 dX10_fills_69 rfl rfl ?_
                        refine z_dup dX10_fills_70 rfl ?_
                        refine z_get (v := .int ((nI (rFlR x u k9 (y + j) i (rFl x y u k9 j (s, 0))).2))) 17 zgo_114 rfl inX10 (by decide) zw_1195 rfl rfl dX10_fills_71 ?_
                        refine z_aload_n 2 dX10_fills_74 rfl rfl ?_
                        refine z_get (v := .ref 115) 0 zgo_114 rfl inX10 (by decide) zw_1178 rfl rfl dX10_fills_75 ?_
                        refine z_bipush (v := nI 91) dX10_fills_78 (by decide) ?_
                        refine z_bipush (v := nI 20) dX10_fills_80 (by decide) ?_
                        refine z_iload 1 dX10_fills_82 rfl ?_
                        refine z_imulN (a := 20) (b := y + j) dX10_fills_84 ?_
                        refine z_iaddN (a := 91) (b := 20 * (y + j)) dX10_fills_85 ?_
                        refine z_iload 0 dX10_fills_86 rfl ?_
                        refine z_iaddN (a := 91 + (20 * (y + j))) (b := x + i) dX10_fills_88 ?_
                        refine z_ialdN (f := (rFlR x u k9 (y + j) i (rFl x y u k9 j (s, 0))).1) (n := 1371) (j := 91 + (20 * (y + j)) + (x + i)) zga_115 (by omega) (by decide) dX10_fills_89 ?_
                        refine z_iload 7 dX10_fills_90 rfl ?_
                        refine z_icmp_ne (tgt := 99) dX10_fills_92 (by decide) (fun c_92 => ?_) (fun c_92 => ?_)
                        · skip
                          refine z_iconst (v := nI 1) dX10_fills_99 (by decide) ?_
                          refine z_iaddN (a := (rFlR x u k9 (y + j) i (rFl x y u k9 j (s, 0))).2) (b := 1) dX10_fills_100 ?_
                          refine z_puti 17 tyX10 zgo_114 rfl inX10 tyX10_ok nmX10 (by decide) zw_1195 rfl rfl (by decide +kernel) (Nat.le_of_ble_eq_true rfl) dX10_fills_101 ?_
                          refine z_eqh (h2 := (zHp S X ((rFlR x u k9 (y + j) i (rFl x y u k9 j (s, 0))).1, past, aside, pasts, txt, typed, thrown, line, need, left, slits, slB, slF, slT, at9, wd9, got, (nI (((rFlR x u k9 (y + j) i (rFl x y u k9 j (s, 0))).2) + 1)), worst) out)) zsf_114_17 ?_
                          refine z_aload_n 2 dX10_fills_104 rfl rfl ?_
                          refine z_get (v := .ref 115) 0 zgo_114 rfl inX10 (by decide) zw_1178 rfl rfl dX10_fills_105 ?_
                          refine z_bipush (v := nI 91) dX10_fills_108 (by decide) ?_
                          refine z_bipush (v := nI 20) dX10_fills_110 (by decide) ?_
                          refine z_iload 1 dX10_fills_112 rfl ?_
                          refine z_imulN (a := 20) (b := y + j) dX10_fills_114 ?_
                          refine z_iaddN (a := 91) (b := 20 * (y + j)) dX10_fills_115 ?_
                          refine z_iload 0 dX10_fills_116 rfl ?_
                          refine z_iaddN (a := 91 + (20 * (y + j))) (b := x + i) dX10_fills_118 ?_
                          refine z_iload 7 dX10_fills_119 rfl ?_
                          refine z_iastN (f := (rFlR x u k9 (y + j) i (rFl x y u k9 j (s, 0))).1) (n := 1371) (j := 91 + (20 * (y + j)) + (x + i)) zga_115 (by omega) (by decide) dX10_fills_121 ?_
                          refine z_eqh (h2 := (zHp S X ((upd ((rFlR x u k9 (y + j) i (rFl x y u k9 j (s, 0))).1) (91 + (20 * (y + j)) + (x + i)) k9), past, aside, pasts, txt, typed, thrown, line, need, left, slits, slB, slF, slT, at9, wd9, got, (nI (((rFlR x u k9 (y + j) i (rFl x y u k9 j (s, 0))).2) + 1)), worst) out)) zsa_115 ?_
                          refine z_iinc (v := nI (x + i + 1)) (lv' := [(7, .int (nI (x + i + 1))), (6, .int (nI (y + j))), (0, .ref 114), (1, .int (nI x)), (2, .int (nI y)), (3, .int (nI u)), (4, .int (nI z)), (5, .int k9)]) 0 dX10_fills_122 rfl (nI_1 _) (by decide) rfl ?_
                          refine z_goto (tgt := 63) dX10_fills_125 (by decide) ?_
                          refine z_sub [0, 1, 2, 3, 4, 5, 6, 7] (lv' := [(7, .int (nI (x + i + 1))), (6, .int (nI (y + j))), (0, .ref 114), (1, .int (nI x)), (2, .int (nI y)), (3, .int (nI u)), (4, .int (nI z)), (5, .int k9)]) rfl ?_
                          refine z_eqs (lv2 := [(7, .int (nI (x + (i + 1)))), (6, .int (nI (y + j))), (0, .ref 114), (1, .int (nI x)), (2, .int (nI y)), (3, .int (nI u)), (4, .int (nI z)), (5, .int k9)]) (h2 := (zHp S X ((rFlR x u k9 (y + j) (i + 1) (rFl x y u k9 j (s, 0))).1, past, aside, pasts, txt, typed, thrown, line, need, left, slits, slB, slF, slT, at9, wd9, got, (nI (rFlR x u k9 (y + j) (i + 1) (rFl x y u k9 j (s, 0))).2), worst) out)) (by rfl) (by first | (rw [rFlR_t c_92] <;> rfl) | (rw [rFlR_f c_92] <;> rfl)) ?_
                          exact ih63 (i + 1) (by omega) (by omega)
                        · skip
                          refine z_iconst (v := nI 0) dX10_fills_95 (by decide) ?_
                          refine z_goto (tgt := 100) dX10_fills_96 (by decide) ?_
                          refine z_iaddN (a := (rFlR x u k9 (y + j) i (rFl x y u k9 j (s, 0))).2) (b := 0) dX10_fills_100 ?_
                          refine z_puti 17 tyX10 zgo_114 rfl inX10 tyX10_ok nmX10 (by decide) zw_1195 rfl rfl (by decide +kernel) (Nat.le_of_ble_eq_true rfl) dX10_fills_101 ?_
                          refine z_eqh (h2 := (zHp S X ((rFlR x u k9 (y + j) i (rFl x y u k9 j (s, 0))).1, past, aside, pasts, txt, typed, thrown, line, need, left, slits, slB, slF, slT, at9, wd9, got, (nI (((rFlR x u k9 (y + j) i (rFl x y u k9 j (s, 0))).2) + 0)), worst) out)) zsf_114_17 ?_
                          refine z_aload_n 2 dX10_fills_104 rfl rfl ?_
                          refine z_get (v := .ref 115) 0 zgo_114 rfl inX10 (by decide) zw_1178 rfl rfl dX10_fills_105 ?_
                          refine z_bipush (v := nI 91) dX10_fills_108 (by decide) ?_
                          refine z_bipush (v := nI 20) dX10_fills_110 (by decide) ?_
                          refine z_iload 1 dX10_fills_112 rfl ?_
                          refine z_imulN (a := 20) (b := y + j) dX10_fills_114 ?_
                          refine z_iaddN (a := 91) (b := 20 * (y + j)) dX10_fills_115 ?_
                          refine z_iload 0 dX10_fills_116 rfl ?_
                          refine z_iaddN (a := 91 + (20 * (y + j))) (b := x + i) dX10_fills_118 ?_
                          refine z_iload 7 dX10_fills_119 rfl ?_
                          refine z_iastN (f := (rFlR x u k9 (y + j) i (rFl x y u k9 j (s, 0))).1) (n := 1371) (j := 91 + (20 * (y + j)) + (x + i)) zga_115 (by omega) (by decide) dX10_fills_121 ?_
                          refine z_eqh (h2 := (zHp S X ((upd ((rFlR x u k9 (y + j) i (rFl x y u k9 j (s, 0))).1) (91 + (20 * (y + j)) + (x + i)) k9), past, aside, pasts, txt, typed, thrown, line, need, left, slits, slB, slF, slT, at9, wd9, got, (nI (((rFlR x u k9 (y + j) i (rFl x y u k9 j (s, 0))).2) + 0)), worst) out)) zsa_115 ?_
                          refine z_iinc (v := nI (x + i + 1)) (lv' := [(7, .int (nI (x + i + 1))), (6, .int (nI (y + j))), (0, .ref 114), (1, .int (nI x)), (2, .int (nI y)), (3, .int (nI u)), (4, .int (nI z)), (5, .int k9)]) 0 dX10_fills_122 rfl (nI_1 _) (by decide) rfl ?_
                          refine z_goto (tgt := 63) dX10_fills_125 (by decide) ?_
                          refine z_sub [0, 1, 2, 3, 4, 5, 6, 7] (lv' := [(7, .int (nI (x + i + 1))), (6, .int (nI (y + j))), (0, .ref 114), (1, .int (nI x)), (2, .int (nI y)), (3, .int (nI u)), (4, .int (nI z)), (5, .int k9)]) rfl ?_
                          refine z_eqs (lv2 := [(7, .int (nI (x + (i + 1)))), (6, .int (nI (y + j))), (0, .ref 114), (1, .int (nI x)), (2, .int (nI y)), (3, .int (nI u)), (4, .int (nI z)), (5, .int k9)]) (h2 := (zHp S X ((rFlR x u k9 (y + j) (i + 1) (rFl x y u k9 j (s, 0))).1, past, aside, pasts, txt, typed, thrown, line, need, left, slits, slB, slF, slT, at9, wd9, got, (nI (rFlR x u k9 (y + j) (i + 1) (rFl x y u k9 j (s, 0))).2), worst) out)) (by rfl) (by first | (rw [rFlR_t c_92] <;> rfl) | (rw [rFlR_f c_92] <;> rfl)) ?_
                          exact ih63 (i + 1) (by omega) (by omega)
                  refine z_sub [0, 1, 2, 3, 4, 5, 6, 7] (lv' := [(7, .int (nI x)), (6, .int (nI (y + j))), (0, .ref 114), (1, .int (nI x)), (2, .int (nI y)), (3, .int (nI u)), (4, .int (nI z)), (5, .int k9)]) rfl ?_
                  refine z_eqs (lv2 := [(7, .int (nI (x + 0))), (6, .int (nI (y + j))), (0, .ref 114), (1, .int (nI x)), (2, .int (nI y)), (3, .int (nI u)), (4, .int (nI z)), (5, .int k9)]) (h2 := (zHp S X ((rFlR x u k9 (y + j) 0 (rFl x y u k9 j (s, 0))).1, past, aside, pasts, txt, typed, thrown, line, need, left, slits, slB, slF, slT, at9, wd9, got, (nI (rFlR x u k9 (y + j) 0 (rFl x y u k9 j (s, 0))).2), worst) out)) (by rfl) (by rfl) ?_
                  exact L63_2 (u + 1 - x + 1) 0 (by omega) (by omega)
            refine z_sub [0, 1, 2, 3, 4, 5, 6] (lv' := [(6, .int (nI y)), (0, .ref 114), (1, .int (nI x)), (2, .int (nI y)), (3, .int (nI u)), (4, .int (nI z)), (5, .int k9)]) rfl ?_
            refine z_eqs (lv2 := [(6, .int (nI (y + 0))), (0, .ref 114), (1, .int (nI x)), (2, .int (nI y)), (3, .int (nI u)), (4, .int (nI z)), (5, .int k9)]) (h2 := (zHp S X ((rFl x y u k9 0 (s, 0)).1, past, aside, pasts, txt, typed, thrown, line, need, left, slits, slB, slF, slT, at9, wd9, got, (nI (rFl x y u k9 0 (s, 0)).2), worst) out)) (by rfl) (by rfl) ?_
            exact L53_1 (z + 1 - y + 1) 0 (by omega) (by omega)
          · exfalso; rw [hk] at c_40; exact absurd c_40 (by decide)
    · exfalso; have := zB_0.mp c_16; rw [zIn_n (by omega) (by omega), zIn_n (by omega) (by omega), decide_eq_true (by omega), decide_eq_true (by omega)] at this; exact absurd this (by decide)

set_option maxHeartbeats 4000000 in
set_option maxRecDepth 100000 in
theorem m_fills_1 {G : zT} {S : zS} {X : zXr} {out : Nat → Int64} {s : (Nat → Int32)} {past : (Nat → Int32)} {aside : (Nat → Int32)} {pasts : Nat} {txt : (Nat → Int32)} {typed : Nat} {thrown : Int32} {line : (Nat → Int32)} {need : (Nat → Int32)} {left : (Nat → Int32)} {slits : Nat} {slB : (Nat → Int32)} {slF : (Nat → Int32)} {slT : (Nat → Int32)} {at9 : Nat} {wd9 : Int32} {got : (Nat → Int32)} {ans : Int32} {worst : UInt32} (hG : zAl G = false) {c r w cnt lim : Nat} (hM : zMd s c r w cnt lim) (x y u z k9 : Int32) (hok : ((zIn x (nI c) && zIn y (nI r)) && (zIn u (nI c) && zIn z (nI r))) = false) : zRun G mX10_fills 0 0 [.ref 114, .int x, .int y, .int u, .int z, .int k9] (zHp S X (s, past, aside, pasts, txt, typed, thrown, line, need, left, slits, slB, slF, slT, at9, wd9, got, ans, worst) out) (.inr (some (.int (nI 1)))) (zHp S X (s, past, aside, pasts, txt, typed, thrown, line, need, left, slits, slB, slF, slT, at9, wd9, got, ans, worst) out) := by
  have hM9 := hM
  obtain ⟨h0, h1, h2, h3, h4, hc1, hc, hr1, hr, hw, hn, hl⟩ := hM
  refine zRun_of (by decide +kernel) rfl rfl (Nat.le_of_ble_eq_true rfl) ?_
  suffices hs : ∀ (o9 : zO) (h9 : zH), (Sum.inr (some (.int (nI 1))) : zO) = o9 → (zHp S X (s, past, aside, pasts, txt, typed, thrown, line, need, left, slits, slB, slF, slT, at9, wd9, got, ans, worst) out) = h9 → zPW G mX10_fills 0 0 o9 h9 0 0 0 [(0, .ref 114), (1, .int x), (2, .int y), (3, .int u), (4, .int z), (5, .int k9)] [] (zHp S X (s, past, aside, pasts, txt, typed, thrown, line, need, left, slits, slB, slF, slT, at9, wd9, got, ans, worst) out) from hs _ _ rfl rfl
  intro o9 h9 ho9 hh9
  refine z_aload_n 0 dX10_fills_0 rfl rfl ?_
  refine z_iload_n 1 dX10_fills_1 rfl rfl ?_
  refine z_iload_n 2 dX10_fills_2 rfl rfl ?_
  refine z_callV (N := mX10_isCell) 2 [.int x, .int y] [] lX10_isCell ⟨zw_1279, zw_1281, zw_50⟩ rfl zgo_114 rfl rfl (Nat.le_of_ble_eq_true rfl) (by decide) ⟨zlt, zlt⟩ ⟨Nat.zero_le _, Nat.zero_le _⟩ (fun _ => rfl) (m_isCell hG hM9 x y) dX10_fills_3 ?_
  refine z_if_eq (tgt := 19) dX10_fills_6 (by decide) (fun c_6 => ?_) (fun c_6 => ?_)
  · skip
    have b_6 := zB_0.mp c_6
    refine z_iconst (v := nI 1) dX10_fills_19 (by decide) ?_
    exact z_iret rfl dX10_fills_20 (zo_i ho9 (by rfl)) (zo_h hh9 (by rfl)) (Nat.zero_le _) (Nat.zero_le _)
  · skip
    have b_6 := zB_tt c_6
    refine z_aload_n 0 dX10_fills_9 rfl rfl ?_
    refine z_iload_n 3 dX10_fills_10 rfl rfl ?_
    refine z_iload 4 dX10_fills_11 rfl ?_
    refine z_callV (N := mX10_isCell) 2 [.int u, .int z] [] lX10_isCell ⟨zw_1279, zw_1281, zw_50⟩ rfl zgo_114 rfl rfl (Nat.le_of_ble_eq_true rfl) (by decide) ⟨zlt, zlt⟩ ⟨Nat.zero_le _, Nat.zero_le _⟩ (fun _ => rfl) (m_isCell hG hM9 u z) dX10_fills_13 ?_
    refine z_if_ne (tgt := 21) dX10_fills_16 (by decide) (fun c_16 => ?_) (fun c_16 => ?_)
    · exfalso; rw [zB_tt c_16, b_6] at hok; exact absurd hok (by decide)
    · skip
      have b_16 := zB_0.mp c_16
      refine z_iconst (v := nI 1) dX10_fills_19 (by decide) ?_
      exact z_iret rfl dX10_fills_20 (zo_i ho9 (by rfl)) (zo_h hh9 (by rfl)) (Nat.zero_le _) (Nat.zero_le _)

set_option maxHeartbeats 4000000 in
set_option maxRecDepth 100000 in
theorem m_fills_2 {G : zT} {S : zS} {X : zXr} {out : Nat → Int64} {s : (Nat → Int32)} {past : (Nat → Int32)} {aside : (Nat → Int32)} {pasts : Nat} {txt : (Nat → Int32)} {typed : Nat} {thrown : Int32} {line : (Nat → Int32)} {need : (Nat → Int32)} {left : (Nat → Int32)} {slits : Nat} {slB : (Nat → Int32)} {slF : (Nat → Int32)} {slT : (Nat → Int32)} {at9 : Nat} {wd9 : Int32} {got : (Nat → Int32)} {ans : Int32} {worst : UInt32} (hG : zAl G = false) {c r w cnt lim : Nat} (hM : zMd s c r w cnt lim) (x y u z k9 : Int32) (hok : ((zIn x (nI c) && zIn y (nI r)) && (zIn u (nI c) && zIn z (nI r))) = true) (hx2 : u < x ∨ z < y ∨ zFr (nI 0) k9 (nI 7) = false) : zRun G mX10_fills 0 0 [.ref 114, .int x, .int y, .int u, .int z, .int k9] (zHp S X (s, past, aside, pasts, txt, typed, thrown, line, need, left, slits, slB, slF, slT, at9, wd9, got, ans, worst) out) (.inr (some (.int (nI 2)))) (zHp S X (s, past, aside, pasts, txt, typed, thrown, line, need, left, slits, slB, slF, slT, at9, wd9, got, ans, worst) out) := by
  have hM9 := hM
  obtain ⟨h0, h1, h2, h3, h4, hc1, hc, hr1, hr, hw, hn, hl⟩ := hM
  rw [Bool.and_eq_true] at hok
  refine zRun_of (by decide +kernel) rfl rfl (Nat.le_of_ble_eq_true rfl) ?_
  suffices hs : ∀ (o9 : zO) (h9 : zH), (Sum.inr (some (.int (nI 2))) : zO) = o9 → (zHp S X (s, past, aside, pasts, txt, typed, thrown, line, need, left, slits, slB, slF, slT, at9, wd9, got, ans, worst) out) = h9 → zPW G mX10_fills 0 0 o9 h9 0 0 0 [(0, .ref 114), (1, .int x), (2, .int y), (3, .int u), (4, .int z), (5, .int k9)] [] (zHp S X (s, past, aside, pasts, txt, typed, thrown, line, need, left, slits, slB, slF, slT, at9, wd9, got, ans, worst) out) from hs _ _ rfl rfl
  intro o9 h9 ho9 hh9
  refine z_aload_n 0 dX10_fills_0 rfl rfl ?_
  refine z_iload_n 1 dX10_fills_1 rfl rfl ?_
  refine z_iload_n 2 dX10_fills_2 rfl rfl ?_
  refine z_callV (N := mX10_isCell) 2 [.int x, .int y] [] lX10_isCell ⟨zw_1279, zw_1281, zw_50⟩ rfl zgo_114 rfl rfl (Nat.le_of_ble_eq_true rfl) (by decide) ⟨zlt, zlt⟩ ⟨Nat.zero_le _, Nat.zero_le _⟩ (fun _ => rfl) (m_isCell hG hM9 x y) dX10_fills_3 ?_
  refine z_if_eq (tgt := 19) dX10_fills_6 (by decide) (fun c_6 => ?_) (fun c_6 => ?_)
  · exfalso; rw [zB_0.mp c_6] at hok; exact absurd hok.1 (by decide)
  · skip
    have b_6 := zB_tt c_6
    refine z_aload_n 0 dX10_fills_9 rfl rfl ?_
    refine z_iload_n 3 dX10_fills_10 rfl rfl ?_
    refine z_iload 4 dX10_fills_11 rfl ?_
    refine z_callV (N := mX10_isCell) 2 [.int u, .int z] [] lX10_isCell ⟨zw_1279, zw_1281, zw_50⟩ rfl zgo_114 rfl rfl (Nat.le_of_ble_eq_true rfl) (by decide) ⟨zlt, zlt⟩ ⟨Nat.zero_le _, Nat.zero_le _⟩ (fun _ => rfl) (m_isCell hG hM9 u z) dX10_fills_13 ?_
    refine z_if_ne (tgt := 21) dX10_fills_16 (by decide) (fun c_16 => ?_) (fun c_16 => ?_)
    · skip
      have b_16 := zB_tt c_16
      refine z_iload_n 3 dX10_fills_21 rfl rfl ?_
      refine z_iload_n 1 dX10_fills_22 rfl rfl ?_
      refine z_icmp_lt (tgt := 43) dX10_fills_23 (by decide) (fun c_23 => ?_) (fun c_23 => ?_)
      · skip
        refine z_iconst (v := nI 2) dX10_fills_43 (by decide) ?_
        exact z_iret rfl dX10_fills_44 (zo_i ho9 (by rfl)) (zo_h hh9 (by rfl)) (Nat.zero_le _) (Nat.zero_le _)
      · skip
        refine z_iload 4 dX10_fills_26 rfl ?_
        refine z_iload_n 2 dX10_fills_28 rfl rfl ?_
        refine z_icmp_lt (tgt := 43) dX10_fills_29 (by decide) (fun c_29 => ?_) (fun c_29 => ?_)
        · skip
          refine z_iconst (v := nI 2) dX10_fills_43 (by decide) ?_
          exact z_iret rfl dX10_fills_44 (zo_i ho9 (by rfl)) (zo_h hh9 (by rfl)) (Nat.zero_le _) (Nat.zero_le _)
        · skip
          refine z_iload 5 dX10_fills_32 rfl ?_
          refine z_iconst (v := nI 0) dX10_fills_34 (by decide) ?_
          refine z_bipush (v := nI 7) dX10_fills_35 (by decide) ?_
          refine z_callS (N := mX10_in) 3 [.int k9, .int (nI 0), .int (nI 7)] [] lX10_in ⟨zw_1252, zw_1253⟩ rfl rfl rfl (Nat.le_of_ble_eq_true rfl) (by decide) ⟨zlt, zlt⟩ hG ⟨Nat.zero_le _, Nat.zero_le _⟩ (m_in hG k9 (nI 0) (nI 7)) dX10_fills_37 ?_
          refine z_if_ne (tgt := 45) dX10_fills_40 (by decide) (fun c_40 => ?_) (fun c_40 => ?_)
          · exfalso; rcases hx2 with q | q | q; exact c_23 q; exact c_29 q; rw [zB_tt c_40] at q; cases q
          · skip
            have b_40 := zB_0.mp c_40
            refine z_iconst (v := nI 2) dX10_fills_43 (by decide) ?_
            exact z_iret rfl dX10_fills_44 (zo_i ho9 (by rfl)) (zo_h hh9 (by rfl)) (Nat.zero_le _) (Nat.zero_le _)
    · exfalso; rw [zB_0.mp c_16] at hok; exact absurd hok.2 (by decide)

set_option maxHeartbeats 4000000 in
set_option maxRecDepth 100000 in
theorem m_plants {G : zT} {S : zS} {X : zXr} {out : Nat → Int64} {s : (Nat → Int32)} {past : (Nat → Int32)} {aside : (Nat → Int32)} {pasts : Nat} {txt : (Nat → Int32)} {typed : Nat} {thrown : Int32} {line : (Nat → Int32)} {need : (Nat → Int32)} {left : (Nat → Int32)} {slits : Nat} {slB : (Nat → Int32)} {slF : (Nat → Int32)} {slT : (Nat → Int32)} {at9 : Nat} {wd9 : Int32} {got : (Nat → Int32)} {ans : Int32} {worst : UInt32} (hG : zAl G = false) {c r w cnt lim : Nat} (hM : zMd s c r w cnt lim) (b : Nat) (v : Int32) (hb : b < c) (hv : zFr (nI 0) v (nI 7) = true) : zRun G mX10_plants 0 0 [.ref 114, .int (nI b), .int v] (zHp S X (s, past, aside, pasts, txt, typed, thrown, line, need, left, slits, slB, slF, slT, at9, wd9, got, ans, worst) out) (.inr (some (.int (nI 0)))) (zHp S X ((upd s (71 + b) v), past, aside, pasts, txt, typed, thrown, line, need, left, slits, slB, slF, slT, at9, wd9, got, (nI (zCt (fun b9 => !decide (upd s (71 + b) v (71 + b9) < 0)) c)), worst) out) := by
  have hM9 := hM
  obtain ⟨h0, h1, h2, h3, h4, hc1, hc, hr1, hr, hw, hn, hl⟩ := hM
  refine zRun_of (by decide +kernel) rfl rfl (Nat.le_of_ble_eq_true rfl) ?_
  suffices hs : ∀ (o9 : zO) (h9 : zH), (Sum.inr (some (.int (nI 0))) : zO) = o9 → (zHp S X ((upd s (71 + b) v), past, aside, pasts, txt, typed, thrown, line, need, left, slits, slB, slF, slT, at9, wd9, got, (nI (zCt (fun b9 => !decide (upd s (71 + b) v (71 + b9) < 0)) c)), worst) out) = h9 → zPW G mX10_plants 0 0 o9 h9 0 0 0 [(0, .ref 114), (1, .int (nI b)), (2, .int v)] [] (zHp S X (s, past, aside, pasts, txt, typed, thrown, line, need, left, slits, slB, slF, slT, at9, wd9, got, ans, worst) out) from hs _ _ rfl rfl
  intro o9 h9 ho9 hh9
  refine z_iload_n 1 dX10_plants_0 rfl rfl ?_
  refine z_iconst (v := nI 0) dX10_plants_1 (by decide) ?_
  refine z_aload_n 0 dX10_plants_2 rfl rfl ?_
  refine z_get (v := .ref 115) 0 zgo_114 rfl inX10 (by decide) zw_1178 rfl rfl dX10_plants_3 ?_
  refine z_iconst (v := nI 0) dX10_plants_6 (by decide) ?_
  refine z_ialdN (f := s) (n := 1371) (j := 0) zga_115 (by omega) (by decide) dX10_plants_7 ?_
  refine z_top (v2 := .int (nI c)) (by rw [h0]) ?_
  refine z_iconst (v := nI 1) dX10_plants_8 (by decide) ?_
  refine z_isubN (a := c) (b := 1) (by omega) dX10_plants_9 ?_
  refine z_callS (N := mX10_in) 3 [.int (nI b), .int (nI 0), .int (nI (c - 1))] [] lX10_in ⟨zw_1252, zw_1253⟩ rfl rfl rfl (Nat.le_of_ble_eq_true rfl) (by decide) ⟨zlt, zlt⟩ hG ⟨Nat.zero_le _, Nat.zero_le _⟩ (m_in hG (nI b) (nI 0) (nI (c - 1))) dX10_plants_10 ?_
  refine z_if_ne (tgt := 18) dX10_plants_13 (by decide) (fun c_13 => ?_) (fun c_13 => ?_)
  · skip
    have b_13 := zB_tt c_13
    refine z_iload_n 2 dX10_plants_18 rfl rfl ?_
    refine z_iconst (v := nI 0) dX10_plants_19 (by decide) ?_
    refine z_bipush (v := nI 7) dX10_plants_20 (by decide) ?_
    refine z_callS (N := mX10_in) 3 [.int v, .int (nI 0), .int (nI 7)] [] lX10_in ⟨zw_1252, zw_1253⟩ rfl rfl rfl (Nat.le_of_ble_eq_true rfl) (by decide) ⟨zlt, zlt⟩ hG ⟨Nat.zero_le _, Nat.zero_le _⟩ (m_in hG v (nI 0) (nI 7)) dX10_plants_22 ?_
    refine z_if_ne (tgt := 30) dX10_plants_25 (by decide) (fun c_25 => ?_) (fun c_25 => ?_)
    · skip
      have b_25 := zB_tt c_25
      refine z_aload_n 0 dX10_plants_30 rfl rfl ?_
      refine z_get (v := .ref 115) 0 zgo_114 rfl inX10 (by decide) zw_1178 rfl rfl dX10_plants_31 ?_
      refine z_bipush (v := nI 71) dX10_plants_34 (by decide) ?_
      refine z_iload_n 1 dX10_plants_36 rfl rfl ?_
      refine z_iaddN (a := 71) (b := b) dX10_plants_37 ?_
      refine z_iload_n 2 dX10_plants_38 rfl rfl ?_
      refine z_iastN (f := s) (n := 1371) (j := 71 + b) zga_115 (by omega) (by decide) dX10_plants_39 ?_
      refine z_eqh (h2 := (zHp S X ((upd s (71 + b) v), past, aside, pasts, txt, typed, thrown, line, need, left, slits, slB, slF, slT, at9, wd9, got, ans, worst) out)) zsa_115 ?_
      refine z_aload_n 0 dX10_plants_40 rfl rfl ?_
      refine z_aload_n 0 dX10_plants_41 rfl rfl ?_
      refine z_callV (N := mX10_planted) 0 [] [.ref 114] lX10_planted ⟨zw_1340, zw_1342, zw_59⟩ rfl zgo_114 rfl rfl (Nat.le_of_ble_eq_true rfl) (by decide) ⟨zlt, zlt⟩ ⟨Nat.zero_le _, Nat.zero_le _⟩ (fun _ => rfl) (m_planted hG (zMd_upd hM9 (by omega))) dX10_plants_42 ?_
      refine z_puti 17 tyX10 zgo_114 rfl inX10 tyX10_ok nmX10 (by decide) zw_1195 rfl rfl (by decide +kernel) (Nat.le_of_ble_eq_true rfl) dX10_plants_45 ?_
      refine z_eqh (h2 := (zHp S X ((upd s (71 + b) v), past, aside, pasts, txt, typed, thrown, line, need, left, slits, slB, slF, slT, at9, wd9, got, (nI (zCt (fun b9 => !decide (upd s (71 + b) v (71 + b9) < 0)) c)), worst) out)) zsf_114_17 ?_
      refine z_iconst (v := nI 0) dX10_plants_48 (by decide) ?_
      exact z_iret rfl dX10_plants_49 (zo_i ho9 (by rfl)) (zo_h hh9 (by rfl)) (Nat.zero_le _) (Nat.zero_le _)
    · exfalso; rw [hv] at c_25; exact absurd c_25 (by decide)
  · exfalso; rw [zFr_in1 (by omega) (by omega), zIn_n (by omega) (by omega), decide_eq_true hb] at c_13; exact absurd c_13 (by decide)

set_option maxHeartbeats 4000000 in
set_option maxRecDepth 100000 in
theorem m_plants_1 {G : zT} {S : zS} {X : zXr} {out : Nat → Int64} {s : (Nat → Int32)} {past : (Nat → Int32)} {aside : (Nat → Int32)} {pasts : Nat} {txt : (Nat → Int32)} {typed : Nat} {thrown : Int32} {line : (Nat → Int32)} {need : (Nat → Int32)} {left : (Nat → Int32)} {slits : Nat} {slB : (Nat → Int32)} {slF : (Nat → Int32)} {slT : (Nat → Int32)} {at9 : Nat} {wd9 : Int32} {got : (Nat → Int32)} {ans : Int32} {worst : UInt32} (hG : zAl G = false) {c r w cnt lim : Nat} (hM : zMd s c r w cnt lim) (b v : Int32) (hb : zIn b (nI c) = false) : zRun G mX10_plants 0 0 [.ref 114, .int b, .int v] (zHp S X (s, past, aside, pasts, txt, typed, thrown, line, need, left, slits, slB, slF, slT, at9, wd9, got, ans, worst) out) (.inr (some (.int (nI 1)))) (zHp S X (s, past, aside, pasts, txt, typed, thrown, line, need, left, slits, slB, slF, slT, at9, wd9, got, ans, worst) out) := by
  have hM9 := hM
  obtain ⟨h0, h1, h2, h3, h4, hc1, hc, hr1, hr, hw, hn, hl⟩ := hM
  refine zRun_of (by decide +kernel) rfl rfl (Nat.le_of_ble_eq_true rfl) ?_
  suffices hs : ∀ (o9 : zO) (h9 : zH), (Sum.inr (some (.int (nI 1))) : zO) = o9 → (zHp S X (s, past, aside, pasts, txt, typed, thrown, line, need, left, slits, slB, slF, slT, at9, wd9, got, ans, worst) out) = h9 → zPW G mX10_plants 0 0 o9 h9 0 0 0 [(0, .ref 114), (1, .int b), (2, .int v)] [] (zHp S X (s, past, aside, pasts, txt, typed, thrown, line, need, left, slits, slB, slF, slT, at9, wd9, got, ans, worst) out) from hs _ _ rfl rfl
  intro o9 h9 ho9 hh9
  refine z_iload_n 1 dX10_plants_0 rfl rfl ?_
  refine z_iconst (v := nI 0) dX10_plants_1 (by decide) ?_
  refine z_aload_n 0 dX10_plants_2 rfl rfl ?_
  refine z_get (v := .ref 115) 0 zgo_114 rfl inX10 (by decide) zw_1178 rfl rfl dX10_plants_3 ?_
  refine z_iconst (v := nI 0) dX10_plants_6 (by decide) ?_
  refine z_ialdN (f := s) (n := 1371) (j := 0) zga_115 (by omega) (by decide) dX10_plants_7 ?_
  refine z_top (v2 := .int (nI c)) (by rw [h0]) ?_
  refine z_iconst (v := nI 1) dX10_plants_8 (by decide) ?_
  refine z_isubN (a := c) (b := 1) (by omega) dX10_plants_9 ?_
  refine z_callS (N := mX10_in) 3 [.int b, .int (nI 0), .int (nI (c - 1))] [] lX10_in ⟨zw_1252, zw_1253⟩ rfl rfl rfl (Nat.le_of_ble_eq_true rfl) (by decide) ⟨zlt, zlt⟩ hG ⟨Nat.zero_le _, Nat.zero_le _⟩ (m_in hG b (nI 0) (nI (c - 1))) dX10_plants_10 ?_
  refine z_if_ne (tgt := 18) dX10_plants_13 (by decide) (fun c_13 => ?_) (fun c_13 => ?_)
  · exfalso; rw [zFr_in1 (by omega) (by omega), hb] at c_13; exact c_13 rfl
  · skip
    have b_13 := zB_0.mp c_13
    refine z_iconst (v := nI 1) dX10_plants_16 (by decide) ?_
    exact z_iret rfl dX10_plants_17 (zo_i ho9 (by rfl)) (zo_h hh9 (by rfl)) (Nat.zero_le _) (Nat.zero_le _)

set_option maxHeartbeats 4000000 in
set_option maxRecDepth 100000 in
theorem m_plants_2 {G : zT} {S : zS} {X : zXr} {out : Nat → Int64} {s : (Nat → Int32)} {past : (Nat → Int32)} {aside : (Nat → Int32)} {pasts : Nat} {txt : (Nat → Int32)} {typed : Nat} {thrown : Int32} {line : (Nat → Int32)} {need : (Nat → Int32)} {left : (Nat → Int32)} {slits : Nat} {slB : (Nat → Int32)} {slF : (Nat → Int32)} {slT : (Nat → Int32)} {at9 : Nat} {wd9 : Int32} {got : (Nat → Int32)} {ans : Int32} {worst : UInt32} (hG : zAl G = false) {c r w cnt lim : Nat} (hM : zMd s c r w cnt lim) (b v : Int32) (hb : zIn b (nI c) = true) (hv : zFr (nI 0) v (nI 7) = false) : zRun G mX10_plants 0 0 [.ref 114, .int b, .int v] (zHp S X (s, past, aside, pasts, txt, typed, thrown, line, need, left, slits, slB, slF, slT, at9, wd9, got, ans, worst) out) (.inr (some (.int (nI 2)))) (zHp S X (s, past, aside, pasts, txt, typed, thrown, line, need, left, slits, slB, slF, slT, at9, wd9, got, ans, worst) out) := by
  have hM9 := hM
  obtain ⟨h0, h1, h2, h3, h4, hc1, hc, hr1, hr, hw, hn, hl⟩ := hM
  refine zRun_of (by decide +kernel) rfl rfl (Nat.le_of_ble_eq_true rfl) ?_
  suffices hs : ∀ (o9 : zO) (h9 : zH), (Sum.inr (some (.int (nI 2))) : zO) = o9 → (zHp S X (s, past, aside, pasts, txt, typed, thrown, line, need, left, slits, slB, slF, slT, at9, wd9, got, ans, worst) out) = h9 → zPW G mX10_plants 0 0 o9 h9 0 0 0 [(0, .ref 114), (1, .int b), (2, .int v)] [] (zHp S X (s, past, aside, pasts, txt, typed, thrown, line, need, left, slits, slB, slF, slT, at9, wd9, got, ans, worst) out) from hs _ _ rfl rfl
  intro o9 h9 ho9 hh9
  refine z_iload_n 1 dX10_plants_0 rfl rfl ?_
  refine z_iconst (v := nI 0) dX10_plants_1 (by decide) ?_
  refine z_aload_n 0 dX10_plants_2 rfl rfl ?_
  refine z_get (v := .ref 115) 0 zgo_114 rfl inX10 (by decide) zw_1178 rfl rfl dX10_plants_3 ?_
  refine z_iconst (v := nI 0) dX10_plants_6 (by decide) ?_
  refine z_ialdN (f := s) (n := 1371) (j := 0) zga_115 (by omega) (by decide) dX10_plants_7 ?_
  refine z_top (v2 := .int (nI c)) (by rw [h0]) ?_
  refine z_iconst (v := nI 1) dX10_plants_8 (by decide) ?_
  refine z_isubN (a := c) (b := 1) (by omega) dX10_plants_9 ?_
  refine z_callS (N := mX10_in) 3 [.int b, .int (nI 0), .int (nI (c - 1))] [] lX10_in ⟨zw_1252, zw_1253⟩ rfl rfl rfl (Nat.le_of_ble_eq_true rfl) (by decide) ⟨zlt, zlt⟩ hG ⟨Nat.zero_le _, Nat.zero_le _⟩ (m_in hG b (nI 0) (nI (c - 1))) dX10_plants_10 ?_
  refine z_if_ne (tgt := 18) dX10_plants_13 (by decide) (fun c_13 => ?_) (fun c_13 => ?_)
  · skip
    have b_13 := zB_tt c_13
    refine z_iload_n 2 dX10_plants_18 rfl rfl ?_
    refine z_iconst (v := nI 0) dX10_plants_19 (by decide) ?_
    refine z_bipush (v := nI 7) dX10_plants_20 (by decide) ?_
    refine z_callS (N := mX10_in) 3 [.int v, .int (nI 0), .int (nI 7)] [] lX10_in ⟨zw_1252, zw_1253⟩ rfl rfl rfl (Nat.le_of_ble_eq_true rfl) (by decide) ⟨zlt, zlt⟩ hG ⟨Nat.zero_le _, Nat.zero_le _⟩ (m_in hG v (nI 0) (nI 7)) dX10_plants_22 ?_
    refine z_if_ne (tgt := 30) dX10_plants_25 (by decide) (fun c_25 => ?_) (fun c_25 => ?_)
    · exfalso; rw [hv] at c_25; exact c_25 rfl
    · skip
      have b_25 := zB_0.mp c_25
      refine z_iconst (v := nI 2) dX10_plants_28 (by decide) ?_
      exact z_iret rfl dX10_plants_29 (zo_i ho9 (by rfl)) (zo_h hh9 (by rfl)) (Nat.zero_le _) (Nat.zero_le _)
  · exfalso; rw [zFr_in1 (by omega) (by omega), hb] at c_13; exact absurd c_13 (by decide)

set_option maxHeartbeats 4000000 in
set_option maxRecDepth 100000 in
theorem m_limits {G : zT} {S : zS} {X : zXr} {out : Nat → Int64} {s : (Nat → Int32)} {past : (Nat → Int32)} {aside : (Nat → Int32)} {pasts : Nat} {txt : (Nat → Int32)} {typed : Nat} {thrown : Int32} {line : (Nat → Int32)} {need : (Nat → Int32)} {left : (Nat → Int32)} {slits : Nat} {slB : (Nat → Int32)} {slF : (Nat → Int32)} {slT : (Nat → Int32)} {at9 : Nat} {wd9 : Int32} {got : (Nat → Int32)} {ans : Int32} {worst : UInt32} (hG : zAl G = false) {c r w cnt lim : Nat} (hM : zMd s c r w cnt lim) (a : Nat) (ha : zFr (nI 1) (nI a) (nI 16) = true) (ha16 : a ≤ 16) : zRun G mX10_limits 0 0 [.ref 114, .int (nI a)] (zHp S X (s, past, aside, pasts, txt, typed, thrown, line, need, left, slits, slB, slF, slT, at9, wd9, got, ans, worst) out) (.inr (some (.int (nI 0)))) (zHp S X ((rFg (upd s 4 (nI a)) (rFd (upd s 4 (nI a)) w a (c - 1) (0, slB, slF, slT)).2.1 (rFd (upd s 4 (nI a)) w a (c - 1) (0, slB, slF, slT)).2.2.1 (rFd (upd s 4 (nI a)) w a (c - 1) (0, slB, slF, slT)).1), past, aside, pasts, txt, typed, thrown, line, need, left, (rFd (upd s 4 (nI a)) w a (c - 1) (0, slB, slF, slT)).1, (rFd (upd s 4 (nI a)) w a (c - 1) (0, slB, slF, slT)).2.1, (rFd (upd s 4 (nI a)) w a (c - 1) (0, slB, slF, slT)).2.2.1, (rFd (upd s 4 (nI a)) w a (c - 1) (0, slB, slF, slT)).2.2.2, at9, wd9, got, (nI lim), worst) out) := by
  have hM9 := hM
  obtain ⟨h0, h1, h2, h3, h4, hc1, hc, hr1, hr, hw, hn, hl⟩ := hM
  have hM4 : zMd (upd s 4 (nI a)) c r w cnt a := ⟨h0, h1, h2, h3, rfl, hc1, hc, hr1, hr, hw, hn, ha16⟩
  refine zRun_of (by decide +kernel) rfl rfl (Nat.le_of_ble_eq_true rfl) ?_
  suffices hs : ∀ (o9 : zO) (h9 : zH), (Sum.inr (some (.int (nI 0))) : zO) = o9 → (zHp S X ((rFg (upd s 4 (nI a)) (rFd (upd s 4 (nI a)) w a (c - 1) (0, slB, slF, slT)).2.1 (rFd (upd s 4 (nI a)) w a (c - 1) (0, slB, slF, slT)).2.2.1 (rFd (upd s 4 (nI a)) w a (c - 1) (0, slB, slF, slT)).1), past, aside, pasts, txt, typed, thrown, line, need, left, (rFd (upd s 4 (nI a)) w a (c - 1) (0, slB, slF, slT)).1, (rFd (upd s 4 (nI a)) w a (c - 1) (0, slB, slF, slT)).2.1, (rFd (upd s 4 (nI a)) w a (c - 1) (0, slB, slF, slT)).2.2.1, (rFd (upd s 4 (nI a)) w a (c - 1) (0, slB, slF, slT)).2.2.2, at9, wd9, got, (nI lim), worst) out) = h9 → zPW G mX10_limits 0 0 o9 h9 0 0 0 [(0, .ref 114), (1, .int (nI a))] [] (zHp S X (s, past, aside, pasts, txt, typed, thrown, line, need, left, slits, slB, slF, slT, at9, wd9, got, ans, worst) out) from hs _ _ rfl rfl
  intro o9 h9 ho9 hh9
  refine z_iload_n 1 dX10_limits_0 rfl rfl ?_
  refine z_iconst (v := nI 1) dX10_limits_1 (by decide) ?_
  refine z_bipush (v := nI 16) dX10_limits_2 (by decide) ?_
  refine z_callS (N := mX10_in) 3 [.int (nI a), .int (nI 1), .int (nI 16)] [] lX10_in ⟨zw_1252, zw_1253⟩ rfl rfl rfl (Nat.le_of_ble_eq_true rfl) (by decide) ⟨zlt, zlt⟩ hG ⟨Nat.zero_le _, Nat.zero_le _⟩ (m_in hG (nI a) (nI 1) (nI 16)) dX10_limits_4 ?_
  refine z_if_ne (tgt := 12) dX10_limits_7 (by decide) (fun c_7 => ?_) (fun c_7 => ?_)
  · skip
    have b_7 := zB_tt c_7
    refine z_aload_n 0 dX10_limits_12 rfl rfl ?_
    refine z_aload_n 0 dX10_limits_13 rfl rfl ?_
    refine z_get (v := .ref 115) 0 zgo_114 rfl inX10 (by decide) zw_1178 rfl rfl dX10_limits_14 ?_
    refine z_iconst (v := nI 4) dX10_limits_17 (by decide) ?_
    refine z_ialdN (f := s) (n := 1371) (j := 4) zga_115 (by omega) (by decide) dX10_limits_18 ?_
    refine z_top (v2 := .int (nI lim)) (by rw [h4]) ?_
    refine z_puti 17 tyX10 zgo_114 rfl inX10 tyX10_ok nmX10 (by decide) zw_1195 rfl rfl (by decide +kernel) (Nat.le_of_ble_eq_true rfl) dX10_limits_19 ?_
    refine z_eqh (h2 := (zHp S X (s, past, aside, pasts, txt, typed, thrown, line, need, left, slits, slB, slF, slT, at9, wd9, got, (nI lim), worst) out)) zsf_114_17 ?_
    refine z_aload_n 0 dX10_limits_22 rfl rfl ?_
    refine z_get (v := .ref 115) 0 zgo_114 rfl inX10 (by decide) zw_1178 rfl rfl dX10_limits_23 ?_
    refine z_iconst (v := nI 4) dX10_limits_26 (by decide) ?_
    refine z_iload_n 1 dX10_limits_27 rfl rfl ?_
    refine z_iastN (f := s) (n := 1371) (j := 4) zga_115 (by omega) (by decide) dX10_limits_28 ?_
    refine z_eqh (h2 := (zHp S X ((upd s 4 (nI a)), past, aside, pasts, txt, typed, thrown, line, need, left, slits, slB, slF, slT, at9, wd9, got, (nI lim), worst) out)) zsa_115 ?_
    refine z_aload_n 0 dX10_limits_29 rfl rfl ?_
    refine z_callV (N := mX10_forgets) 0 [] [] lX10_forgets ⟨zw_1312, zw_1314, zw_53⟩ rfl zgo_114 rfl rfl (Nat.le_of_ble_eq_true rfl) (by decide) ⟨zlt, zlt⟩ ⟨Nat.zero_le _, Nat.zero_le _⟩ zal (m_forgets hG hM4) dX10_limits_30 ?_
    refine z_iconst (v := nI 0) dX10_limits_33 (by decide) ?_
    exact z_iret rfl dX10_limits_34 (zo_i ho9 (by rfl)) (zo_h hh9 (by rfl)) (Nat.zero_le _) (Nat.zero_le _)
  · exfalso; rw [ha] at c_7; exact absurd c_7 (by decide)

set_option maxHeartbeats 4000000 in
set_option maxRecDepth 100000 in
theorem m_limits_x {G : zT} {S : zS} {X : zXr} {out : Nat → Int64} {s : (Nat → Int32)} {past : (Nat → Int32)} {aside : (Nat → Int32)} {pasts : Nat} {txt : (Nat → Int32)} {typed : Nat} {thrown : Int32} {line : (Nat → Int32)} {need : (Nat → Int32)} {left : (Nat → Int32)} {slits : Nat} {slB : (Nat → Int32)} {slF : (Nat → Int32)} {slT : (Nat → Int32)} {at9 : Nat} {wd9 : Int32} {got : (Nat → Int32)} {ans : Int32} {worst : UInt32} (hG : zAl G = false) (a : Int32) (ha : zFr (nI 1) a (nI 16) = false) : zRun G mX10_limits 0 0 [.ref 114, .int a] (zHp S X (s, past, aside, pasts, txt, typed, thrown, line, need, left, slits, slB, slF, slT, at9, wd9, got, ans, worst) out) (.inr (some (.int (nI 1)))) (zHp S X (s, past, aside, pasts, txt, typed, thrown, line, need, left, slits, slB, slF, slT, at9, wd9, got, ans, worst) out) := by
  refine zRun_of (by decide +kernel) rfl rfl (Nat.le_of_ble_eq_true rfl) ?_
  suffices hs : ∀ (o9 : zO) (h9 : zH), (Sum.inr (some (.int (nI 1))) : zO) = o9 → (zHp S X (s, past, aside, pasts, txt, typed, thrown, line, need, left, slits, slB, slF, slT, at9, wd9, got, ans, worst) out) = h9 → zPW G mX10_limits 0 0 o9 h9 0 0 0 [(0, .ref 114), (1, .int a)] [] (zHp S X (s, past, aside, pasts, txt, typed, thrown, line, need, left, slits, slB, slF, slT, at9, wd9, got, ans, worst) out) from hs _ _ rfl rfl
  intro o9 h9 ho9 hh9
  refine z_iload_n 1 dX10_limits_0 rfl rfl ?_
  refine z_iconst (v := nI 1) dX10_limits_1 (by decide) ?_
  refine z_bipush (v := nI 16) dX10_limits_2 (by decide) ?_
  refine z_callS (N := mX10_in) 3 [.int a, .int (nI 1), .int (nI 16)] [] lX10_in ⟨zw_1252, zw_1253⟩ rfl rfl rfl (Nat.le_of_ble_eq_true rfl) (by decide) ⟨zlt, zlt⟩ hG ⟨Nat.zero_le _, Nat.zero_le _⟩ (m_in hG a (nI 1) (nI 16)) dX10_limits_4 ?_
  refine z_if_ne (tgt := 12) dX10_limits_7 (by decide) (fun c_7 => ?_) (fun c_7 => ?_)
  · exfalso; rw [ha] at c_7; exact c_7 rfl
  · skip
    have b_7 := zB_0.mp c_7
    refine z_iconst (v := nI 1) dX10_limits_10 (by decide) ?_
    exact z_iret rfl dX10_limits_11 (zo_i ho9 (by rfl)) (zo_h hh9 (by rfl)) (Nat.zero_le _) (Nat.zero_le _)

set_option maxHeartbeats 4000000 in
set_option maxRecDepth 100000 in
theorem m_sews_1 {G : zT} {S : zS} {X : zXr} {out : Nat → Int64} {s : (Nat → Int32)} {past : (Nat → Int32)} {aside : (Nat → Int32)} {pasts : Nat} {txt : (Nat → Int32)} {typed : Nat} {thrown : Int32} {line : (Nat → Int32)} {need : (Nat → Int32)} {left : (Nat → Int32)} {slits : Nat} {slB : (Nat → Int32)} {slF : (Nat → Int32)} {slT : (Nat → Int32)} {at9 : Nat} {wd9 : Int32} {got : (Nat → Int32)} {ans : Int32} {worst : UInt32} (hG : zAl G = false) {c r w cnt lim : Nat} (hM : zMd s c r w cnt lim) (ix : Int32) (hi : zIn ix (nI (rFd s w lim (c - 1) (0, slB, slF, slT)).1) = false) : zRun G mX10_sews 0 0 [.ref 114, .int ix] (zHp S X (s, past, aside, pasts, txt, typed, thrown, line, need, left, slits, slB, slF, slT, at9, wd9, got, ans, worst) out) (.inr (some (.int (nI 1)))) (zHp S X (s, past, aside, pasts, txt, typed, thrown, line, need, left, (rFd s w lim (c - 1) (0, slB, slF, slT)).1, (rFd s w lim (c - 1) (0, slB, slF, slT)).2.1, (rFd s w lim (c - 1) (0, slB, slF, slT)).2.2.1, (rFd s w lim (c - 1) (0, slB, slF, slT)).2.2.2, at9, wd9, got, ans, worst) out) := by
  have hM9 := hM
  obtain ⟨h0, h1, h2, h3, h4, hc1, hc, hr1, hr, hw, hn, hl⟩ := hM
  have hsl := rFd_sl (s := s) (lm := lim) (B := slB) (F := slF) (T := slT) (show w ≤ 16 by omega) (c - 1) (by omega)
  have hs160 : (rFd s w lim (c - 1) (0, slB, slF, slT)).1 ≤ 160 := hsl.1
  refine zRun_of (by decide +kernel) rfl rfl (Nat.le_of_ble_eq_true rfl) ?_
  suffices hs : ∀ (o9 : zO) (h9 : zH), (Sum.inr (some (.int (nI 1))) : zO) = o9 → (zHp S X (s, past, aside, pasts, txt, typed, thrown, line, need, left, (rFd s w lim (c - 1) (0, slB, slF, slT)).1, (rFd s w lim (c - 1) (0, slB, slF, slT)).2.1, (rFd s w lim (c - 1) (0, slB, slF, slT)).2.2.1, (rFd s w lim (c - 1) (0, slB, slF, slT)).2.2.2, at9, wd9, got, ans, worst) out) = h9 → zPW G mX10_sews 0 0 o9 h9 0 0 0 [(0, .ref 114), (1, .int ix)] [] (zHp S X (s, past, aside, pasts, txt, typed, thrown, line, need, left, slits, slB, slF, slT, at9, wd9, got, ans, worst) out) from hs _ _ rfl rfl
  intro o9 h9 ho9 hh9
  refine z_aload_n 0 dX10_sews_0 rfl rfl ?_
  refine z_aload_n 0 dX10_sews_1 rfl rfl ?_
  refine z_get (v := .ref 115) 0 zgo_114 rfl inX10 (by decide) zw_1178 rfl rfl dX10_sews_2 ?_
  refine z_iconst (v := nI 4) dX10_sews_5 (by decide) ?_
  refine z_ialdN (f := s) (n := 1371) (j := 4) zga_115 (by omega) (by decide) dX10_sews_6 ?_
  refine z_top (v2 := .int (nI lim)) (by rw [h4]) ?_
  refine z_callV (N := mX10_finds) 1 [.int (nI lim)] [] lX10_finds ⟨zw_1316, zw_1318, zw_54⟩ rfl zgo_114 rfl rfl (Nat.le_of_ble_eq_true rfl) (by decide) ⟨zlt, zlt⟩ ⟨Nat.zero_le _, Nat.zero_le _⟩ zal (m_finds hG hM9 lim (by omega)) dX10_sews_7 ?_
  refine z_iload_n 1 dX10_sews_10 rfl rfl ?_
  refine z_iconst (v := nI 0) dX10_sews_11 (by decide) ?_
  refine z_aload_n 0 dX10_sews_12 rfl rfl ?_
  refine z_get (v := .int (nI ((rFd s w lim (c - 1) (0, slB, slF, slT)).1))) 10 zgo_114 rfl inX10 (by decide) zw_1188 rfl rfl dX10_sews_13 ?_
  refine z_iconst (v := nI 1) dX10_sews_16 (by decide) ?_
  refine z_isub dX10_sews_17 ?_
  refine z_callS (N := mX10_in) 3 [.int ix, .int (nI 0), .int ((nI ((rFd s w lim (c - 1) (0, slB, slF, slT)).1)) - (nI 1))] [] lX10_in ⟨zw_1252, zw_1253⟩ rfl rfl rfl (Nat.le_of_ble_eq_true rfl) (by decide) ⟨zlt, zlt⟩ hG ⟨Nat.zero_le _, Nat.zero_le _⟩ (m_in hG ix (nI 0) ((nI ((rFd s w lim (c - 1) (0, slB, slF, slT)).1)) - (nI 1))) dX10_sews_18 ?_
  refine z_top (v2 := .int (zB (zIn ix (nI (rFd s w lim (c - 1) (0, slB, slF, slT)).1)))) (by rw [zFr_in (by omega)]) ?_
  refine z_if_ne (tgt := 26) dX10_sews_21 (by decide) (fun c_21 => ?_) (fun c_21 => ?_)
  · exfalso; rw [hi] at c_21; exact c_21 rfl
  · skip
    have b_21 := zB_0.mp c_21
    refine z_iconst (v := nI 1) dX10_sews_24 (by decide) ?_
    exact z_iret rfl dX10_sews_25 (zo_i ho9 (by rfl)) (zo_h hh9 (by rfl)) (Nat.zero_le _) (Nat.zero_le _)

set_option maxHeartbeats 4000000 in
set_option maxRecDepth 100000 in
theorem m_sews_2 {G : zT} {S : zS} {X : zXr} {out : Nat → Int64} {s : (Nat → Int32)} {past : (Nat → Int32)} {aside : (Nat → Int32)} {pasts : Nat} {txt : (Nat → Int32)} {typed : Nat} {thrown : Int32} {line : (Nat → Int32)} {need : (Nat → Int32)} {left : (Nat → Int32)} {slits : Nat} {slB : (Nat → Int32)} {slF : (Nat → Int32)} {slT : (Nat → Int32)} {at9 : Nat} {wd9 : Int32} {got : (Nat → Int32)} {ans : Int32} {worst : UInt32} (hG : zAl G = false) {c r w cnt lim : Nat} (hM : zMd s c r w cnt lim) (ix : Nat) (hi : ix < (rFd s w lim (c - 1) (0, slB, slF, slT)).1) (hse : (s (rSx (rFd s w lim (c - 1) (0, slB, slF, slT)).2.1 (rFd s w lim (c - 1) (0, slB, slF, slT)).2.2.1 ix) == nI 1) = true) : zRun G mX10_sews 0 0 [.ref 114, .int (nI ix)] (zHp S X (s, past, aside, pasts, txt, typed, thrown, line, need, left, slits, slB, slF, slT, at9, wd9, got, ans, worst) out) (.inr (some (.int (nI 2)))) (zHp S X (s, past, aside, pasts, txt, typed, thrown, line, need, left, (rFd s w lim (c - 1) (0, slB, slF, slT)).1, (rFd s w lim (c - 1) (0, slB, slF, slT)).2.1, (rFd s w lim (c - 1) (0, slB, slF, slT)).2.2.1, (rFd s w lim (c - 1) (0, slB, slF, slT)).2.2.2, at9, wd9, got, ans, worst) out) := by
  have hM9 := hM
  obtain ⟨h0, h1, h2, h3, h4, hc1, hc, hr1, hr, hw, hn, hl⟩ := hM
  have hsl := rFd_sl (s := s) (lm := lim) (B := slB) (F := slF) (T := slT) (show w ≤ 16 by omega) (c - 1) (by omega)
  have hs160 : (rFd s w lim (c - 1) (0, slB, slF, slT)).1 ≤ 160 := hsl.1
  refine zRun_of (by decide +kernel) rfl rfl (Nat.le_of_ble_eq_true rfl) ?_
  suffices hs : ∀ (o9 : zO) (h9 : zH), (Sum.inr (some (.int (nI 2))) : zO) = o9 → (zHp S X (s, past, aside, pasts, txt, typed, thrown, line, need, left, (rFd s w lim (c - 1) (0, slB, slF, slT)).1, (rFd s w lim (c - 1) (0, slB, slF, slT)).2.1, (rFd s w lim (c - 1) (0, slB, slF, slT)).2.2.1, (rFd s w lim (c - 1) (0, slB, slF, slT)).2.2.2, at9, wd9, got, ans, worst) out) = h9 → zPW G mX10_sews 0 0 o9 h9 0 0 0 [(0, .ref 114), (1, .int (nI ix))] [] (zHp S X (s, past, aside, pasts, txt, typed, thrown, line, need, left, slits, slB, slF, slT, at9, wd9, got, ans, worst) out) from hs _ _ rfl rfl
  intro o9 h9 ho9 hh9
  refine z_aload_n 0 dX10_sews_0 rfl rfl ?_
  refine z_aload_n 0 dX10_sews_1 rfl rfl ?_
  refine z_get (v := .ref 115) 0 zgo_114 rfl inX10 (by decide) zw_1178 rfl rfl dX10_sews_2 ?_
  refine z_iconst (v := nI 4) dX10_sews_5 (by decide) ?_
  refine z_ialdN (f := s) (n := 1371) (j := 4) zga_115 (by omega) (by decide) dX10_sews_6 ?_
  refine z_top (v2 := .int (nI lim)) (by rw [h4]) ?_
  refine z_callV (N := mX10_finds) 1 [.int (nI lim)] [] lX10_finds ⟨zw_1316, zw_1318, zw_54⟩ rfl zgo_114 rfl rfl (Nat.le_of_ble_eq_true rfl) (by decide) ⟨zlt, zlt⟩ ⟨Nat.zero_le _, Nat.zero_le _⟩ zal (m_finds hG hM9 lim (by omega)) dX10_sews_7 ?_
  refine z_iload_n 1 dX10_sews_10 rfl rfl ?_
  refine z_iconst (v := nI 0) dX10_sews_11 (by decide) ?_
  refine z_aload_n 0 dX10_sews_12 rfl rfl ?_
  refine z_get (v := .int (nI ((rFd s w lim (c - 1) (0, slB, slF, slT)).1))) 10 zgo_114 rfl inX10 (by decide) zw_1188 rfl rfl dX10_sews_13 ?_
  refine z_iconst (v := nI 1) dX10_sews_16 (by decide) ?_
  refine z_isub dX10_sews_17 ?_
  refine z_callS (N := mX10_in) 3 [.int (nI ix), .int (nI 0), .int ((nI ((rFd s w lim (c - 1) (0, slB, slF, slT)).1)) - (nI 1))] [] lX10_in ⟨zw_1252, zw_1253⟩ rfl rfl rfl (Nat.le_of_ble_eq_true rfl) (by decide) ⟨zlt, zlt⟩ hG ⟨Nat.zero_le _, Nat.zero_le _⟩ (m_in hG (nI ix) (nI 0) ((nI ((rFd s w lim (c - 1) (0, slB, slF, slT)).1)) - (nI 1))) dX10_sews_18 ?_
  refine z_top (v2 := .int (zB (zIn (nI ix) (nI (rFd s w lim (c - 1) (0, slB, slF, slT)).1)))) (by rw [zFr_in (by omega)]) ?_
  refine z_if_ne (tgt := 26) dX10_sews_21 (by decide) (fun c_21 => ?_) (fun c_21 => ?_)
  · skip
    have b_21 := zB_tt c_21
    refine z_aload_n 0 dX10_sews_26 rfl rfl ?_
    refine z_iload_n 1 dX10_sews_27 rfl rfl ?_
    refine z_callV (N := mX10_isSewn) 1 [.int (nI ix)] [] lX10_isSewn ⟨zw_1412, zw_1414, zw_74⟩ rfl zgo_114 rfl rfl (Nat.le_of_ble_eq_true rfl) (by decide) ⟨zlt, zlt⟩ ⟨Nat.zero_le _, Nat.zero_le _⟩ (fun _ => rfl) (m_isSewn hG ix hi hsl) dX10_sews_28 ?_
    refine z_if_eq (tgt := 36) dX10_sews_31 (by decide) (fun c_31 => ?_) (fun c_31 => ?_)
    · exfalso; rw [hse] at c_31; exact absurd c_31 (by decide)
    · skip
      have b_31 := zB_tt c_31
      refine z_iconst (v := nI 2) dX10_sews_34 (by decide) ?_
      exact z_iret rfl dX10_sews_35 (zo_i ho9 (by rfl)) (zo_h hh9 (by rfl)) (Nat.zero_le _) (Nat.zero_le _)
  · exfalso; rw [zIn_n (by omega) (by omega), decide_eq_true hi] at c_21; exact absurd c_21 (by decide)

set_option maxHeartbeats 4000000 in
set_option maxRecDepth 100000 in
theorem m_sews {G : zT} {S : zS} {X : zXr} {out : Nat → Int64} {s : (Nat → Int32)} {past : (Nat → Int32)} {aside : (Nat → Int32)} {pasts : Nat} {txt : (Nat → Int32)} {typed : Nat} {thrown : Int32} {line : (Nat → Int32)} {need : (Nat → Int32)} {left : (Nat → Int32)} {slits : Nat} {slB : (Nat → Int32)} {slF : (Nat → Int32)} {slT : (Nat → Int32)} {at9 : Nat} {wd9 : Int32} {got : (Nat → Int32)} {ans : Int32} {worst : UInt32} (hG : zAl G = false) {c r w cnt lim : Nat} (hM : zMd s c r w cnt lim) (ix : Nat) (hi : ix < (rFd s w lim (c - 1) (0, slB, slF, slT)).1) (hse : (s (rSx (rFd s w lim (c - 1) (0, slB, slF, slT)).2.1 (rFd s w lim (c - 1) (0, slB, slF, slT)).2.2.1 ix) == nI 1) = false) : zRun G mX10_sews 0 0 [.ref 114, .int (nI ix)] (zHp S X (s, past, aside, pasts, txt, typed, thrown, line, need, left, slits, slB, slF, slT, at9, wd9, got, ans, worst) out) (.inr (some (.int (nI 0)))) (zHp S X ((upd s (rSx (rFd s w lim (c - 1) (0, slB, slF, slT)).2.1 (rFd s w lim (c - 1) (0, slB, slF, slT)).2.2.1 ix) (nI 1)), past, aside, pasts, txt, typed, thrown, line, need, left, (rFd s w lim (c - 1) (0, slB, slF, slT)).1, (rFd s w lim (c - 1) (0, slB, slF, slT)).2.1, (rFd s w lim (c - 1) (0, slB, slF, slT)).2.2.1, (rFd s w lim (c - 1) (0, slB, slF, slT)).2.2.2, at9, wd9, got, (nI (rFd s w lim (c - 1) (0, slB, slF, slT)).1 - nI (zCt (fun k => (upd s (rSx (rFd s w lim (c - 1) (0, slB, slF, slT)).2.1 (rFd s w lim (c - 1) (0, slB, slF, slT)).2.2.1 ix) (nI 1)) (rSx (rFd s w lim (c - 1) (0, slB, slF, slT)).2.1 (rFd s w lim (c - 1) (0, slB, slF, slT)).2.2.1 k) == nI 1) (rFd s w lim (c - 1) (0, slB, slF, slT)).1)), worst) out) := by
  have hM9 := hM
  obtain ⟨h0, h1, h2, h3, h4, hc1, hc, hr1, hr, hw, hn, hl⟩ := hM
  have hsl := rFd_sl (s := s) (lm := lim) (B := slB) (F := slF) (T := slT) (show w ≤ 16 by omega) (c - 1) (by omega)
  have hs160 : (rFd s w lim (c - 1) (0, slB, slF, slT)).1 ≤ 160 := hsl.1
  refine zRun_of (by decide +kernel) rfl rfl (Nat.le_of_ble_eq_true rfl) ?_
  suffices hs : ∀ (o9 : zO) (h9 : zH), (Sum.inr (some (.int (nI 0))) : zO) = o9 → (zHp S X ((upd s (rSx (rFd s w lim (c - 1) (0, slB, slF, slT)).2.1 (rFd s w lim (c - 1) (0, slB, slF, slT)).2.2.1 ix) (nI 1)), past, aside, pasts, txt, typed, thrown, line, need, left, (rFd s w lim (c - 1) (0, slB, slF, slT)).1, (rFd s w lim (c - 1) (0, slB, slF, slT)).2.1, (rFd s w lim (c - 1) (0, slB, slF, slT)).2.2.1, (rFd s w lim (c - 1) (0, slB, slF, slT)).2.2.2, at9, wd9, got, (nI (rFd s w lim (c - 1) (0, slB, slF, slT)).1 - nI (zCt (fun k => (upd s (rSx (rFd s w lim (c - 1) (0, slB, slF, slT)).2.1 (rFd s w lim (c - 1) (0, slB, slF, slT)).2.2.1 ix) (nI 1)) (rSx (rFd s w lim (c - 1) (0, slB, slF, slT)).2.1 (rFd s w lim (c - 1) (0, slB, slF, slT)).2.2.1 k) == nI 1) (rFd s w lim (c - 1) (0, slB, slF, slT)).1)), worst) out) = h9 → zPW G mX10_sews 0 0 o9 h9 0 0 0 [(0, .ref 114), (1, .int (nI ix))] [] (zHp S X (s, past, aside, pasts, txt, typed, thrown, line, need, left, slits, slB, slF, slT, at9, wd9, got, ans, worst) out) from hs _ _ rfl rfl
  intro o9 h9 ho9 hh9
  refine z_aload_n 0 dX10_sews_0 rfl rfl ?_
  refine z_aload_n 0 dX10_sews_1 rfl rfl ?_
  refine z_get (v := .ref 115) 0 zgo_114 rfl inX10 (by decide) zw_1178 rfl rfl dX10_sews_2 ?_
  refine z_iconst (v := nI 4) dX10_sews_5 (by decide) ?_
  refine z_ialdN (f := s) (n := 1371) (j := 4) zga_115 (by omega) (by decide) dX10_sews_6 ?_
  refine z_top (v2 := .int (nI lim)) (by rw [h4]) ?_
  refine z_callV (N := mX10_finds) 1 [.int (nI lim)] [] lX10_finds ⟨zw_1316, zw_1318, zw_54⟩ rfl zgo_114 rfl rfl (Nat.le_of_ble_eq_true rfl) (by decide) ⟨zlt, zlt⟩ ⟨Nat.zero_le _, Nat.zero_le _⟩ zal (m_finds hG hM9 lim (by omega)) dX10_sews_7 ?_
  refine z_iload_n 1 dX10_sews_10 rfl rfl ?_
  refine z_iconst (v := nI 0) dX10_sews_11 (by decide) ?_
  refine z_aload_n 0 dX10_sews_12 rfl rfl ?_
  refine z_get (v := .int (nI ((rFd s w lim (c - 1) (0, slB, slF, slT)).1))) 10 zgo_114 rfl inX10 (by decide) zw_1188 rfl rfl dX10_sews_13 ?_
  refine z_iconst (v := nI 1) dX10_sews_16 (by decide) ?_
  refine z_isub dX10_sews_17 ?_
  refine z_callS (N := mX10_in) 3 [.int (nI ix), .int (nI 0), .int ((nI ((rFd s w lim (c - 1) (0, slB, slF, slT)).1)) - (nI 1))] [] lX10_in ⟨zw_1252, zw_1253⟩ rfl rfl rfl (Nat.le_of_ble_eq_true rfl) (by decide) ⟨zlt, zlt⟩ hG ⟨Nat.zero_le _, Nat.zero_le _⟩ (m_in hG (nI ix) (nI 0) ((nI ((rFd s w lim (c - 1) (0, slB, slF, slT)).1)) - (nI 1))) dX10_sews_18 ?_
  refine z_top (v2 := .int (zB (zIn (nI ix) (nI (rFd s w lim (c - 1) (0, slB, slF, slT)).1)))) (by rw [zFr_in (by omega)]) ?_
  refine z_if_ne (tgt := 26) dX10_sews_21 (by decide) (fun c_21 => ?_) (fun c_21 => ?_)
  · skip
    have b_21 := zB_tt c_21
    refine z_aload_n 0 dX10_sews_26 rfl rfl ?_
    refine z_iload_n 1 dX10_sews_27 rfl rfl ?_
    refine z_callV (N := mX10_isSewn) 1 [.int (nI ix)] [] lX10_isSewn ⟨zw_1412, zw_1414, zw_74⟩ rfl zgo_114 rfl rfl (Nat.le_of_ble_eq_true rfl) (by decide) ⟨zlt, zlt⟩ ⟨Nat.zero_le _, Nat.zero_le _⟩ (fun _ => rfl) (m_isSewn hG ix hi hsl) dX10_sews_28 ?_
    refine z_if_eq (tgt := 36) dX10_sews_31 (by decide) (fun c_31 => ?_) (fun c_31 => ?_)
    · skip
      have b_31 := zB_0.mp c_31
      refine z_aload_n 0 dX10_sews_36 rfl rfl ?_
      refine z_get (v := .ref 115) 0 zgo_114 rfl inX10 (by decide) zw_1178 rfl rfl dX10_sews_37 ?_
      refine z_sipush (v := nI 1051) dX10_sews_40 (by decide) ?_
      refine z_bipush (v := nI 16) dX10_sews_43 (by decide) ?_
      refine z_aload_n 0 dX10_sews_45 rfl rfl ?_
      refine z_get (v := .ref 122) 11 zgo_114 rfl inX10 (by decide) zw_1189 rfl rfl dX10_sews_46 ?_
      refine z_iload_n 1 dX10_sews_49 rfl rfl ?_
      refine z_ialdN (f := (rFd s w lim (c - 1) (0, slB, slF, slT)).2.1) (n := 160) (j := ix) zga_122 (by omega) (by decide) dX10_sews_50 ?_
      refine z_imul dX10_sews_51 ?_
      refine z_iadd dX10_sews_52 ?_
      refine z_aload_n 0 dX10_sews_53 rfl rfl ?_
      refine z_get (v := .ref 123) 12 zgo_114 rfl inX10 (by decide) zw_1190 rfl rfl dX10_sews_54 ?_
      refine z_iload_n 1 dX10_sews_57 rfl rfl ?_
      refine z_ialdN (f := (rFd s w lim (c - 1) (0, slB, slF, slT)).2.2.1) (n := 160) (j := ix) zga_123 (by omega) (by decide) dX10_sews_58 ?_
      refine z_iadd dX10_sews_59 ?_
      refine z_iconst (v := nI 1) dX10_sews_60 (by decide) ?_
      refine z_iast (f := s) (n := 1371) zga_115 (by exact (rSl_in hsl hi).1) dX10_sews_61 ?_
      refine z_eqh (h2 := (zHp S X ((upd s (((nI 1051) + ((nI 16) * (((rFd s w lim (c - 1) (0, slB, slF, slT)).2.1) ix))) + (((rFd s w lim (c - 1) (0, slB, slF, slT)).2.2.1) ix)).toNatClampNeg (nI 1)), past, aside, pasts, txt, typed, thrown, line, need, left, (rFd s w lim (c - 1) (0, slB, slF, slT)).1, (rFd s w lim (c - 1) (0, slB, slF, slT)).2.1, (rFd s w lim (c - 1) (0, slB, slF, slT)).2.2.1, (rFd s w lim (c - 1) (0, slB, slF, slT)).2.2.2, at9, wd9, got, ans, worst) out)) zsa_115 ?_
      refine z_aload_n 0 dX10_sews_62 rfl rfl ?_
      refine z_aload_n 0 dX10_sews_63 rfl rfl ?_
      refine z_get (v := .int (nI ((rFd s w lim (c - 1) (0, slB, slF, slT)).1))) 10 zgo_114 rfl inX10 (by decide) zw_1188 rfl rfl dX10_sews_64 ?_
      refine z_aload_n 0 dX10_sews_67 rfl rfl ?_
      refine z_callV (N := mX10_sewn) 0 [] [.int (nI ((rFd s w lim (c - 1) (0, slB, slF, slT)).1)), .ref 114] lX10_sewn ⟨zw_1416, zw_1418, zw_75⟩ rfl zgo_114 rfl rfl (Nat.le_of_ble_eq_true rfl) (by decide) ⟨zlt, zlt⟩ ⟨Nat.zero_le _, Nat.zero_le _⟩ (fun _ => rfl) (m_sewn hG hsl) dX10_sews_68 ?_
      refine z_isub dX10_sews_71 ?_
      refine z_puti 17 tyX10 zgo_114 rfl inX10 tyX10_ok nmX10 (by decide) zw_1195 rfl rfl (by decide +kernel) (Nat.le_of_ble_eq_true rfl) dX10_sews_72 ?_
      refine z_eqh (h2 := (zHp S X ((upd s (((nI 1051) + ((nI 16) * (((rFd s w lim (c - 1) (0, slB, slF, slT)).2.1) ix))) + (((rFd s w lim (c - 1) (0, slB, slF, slT)).2.2.1) ix)).toNatClampNeg (nI 1)), past, aside, pasts, txt, typed, thrown, line, need, left, (rFd s w lim (c - 1) (0, slB, slF, slT)).1, (rFd s w lim (c - 1) (0, slB, slF, slT)).2.1, (rFd s w lim (c - 1) (0, slB, slF, slT)).2.2.1, (rFd s w lim (c - 1) (0, slB, slF, slT)).2.2.2, at9, wd9, got, ((nI ((rFd s w lim (c - 1) (0, slB, slF, slT)).1)) - (nI (zCt (fun k => (upd s (((nI 1051) + ((nI 16) * (((rFd s w lim (c - 1) (0, slB, slF, slT)).2.1) ix))) + (((rFd s w lim (c - 1) (0, slB, slF, slT)).2.2.1) ix)).toNatClampNeg (nI 1)) (rSx ((rFd s w lim (c - 1) (0, slB, slF, slT)).2.1) ((rFd s w lim (c - 1) (0, slB, slF, slT)).2.2.1) k) == nI 1) ((rFd s w lim (c - 1) (0, slB, slF, slT)).1)))), worst) out)) zsf_114_17 ?_
      refine z_iconst (v := nI 0) dX10_sews_75 (by decide) ?_
      exact z_iret rfl dX10_sews_76 (zo_i ho9 (by rfl)) (zo_h hh9 (by rfl)) (Nat.zero_le _) (Nat.zero_le _)
    · exfalso; rw [hse] at c_31; exact c_31 rfl
  · exfalso; rw [zIn_n (by omega) (by omega), decide_eq_true hi] at c_21; exact absurd c_21 (by decide)

theorem rGb_hi {s : Nat → Int32} {l : Int32} {j : Nat} (hl : l = -1 ∨ ∃ j, j < 16 ∧ l = nI j) (h : 71 ≤ j) : rGb s l j = s j := if_neg (by have := (rIx_in hl (show 2 ≤ 3 by decide)).2.2; omega)
theorem rGb_lo {s : Nat → Int32} {l : Int32} {j : Nat} (hl : l = -1 ∨ ∃ j, j < 16 ∧ l = nI j) (h : j < 5) : rGb s l j = s j := if_neg (by have := rIx_lo hl (show 2 ≤ 3 by decide); omega)
theorem rUwR_hi {s0 s : Nat → Int32} {c w y j : Nat} (hY : ∀ b, b < c → rY s0 y b = -1 ∨ ∃ j, j < 16 ∧ rY s0 y b = nI j) (h : 71 ≤ j ∨ j < 5) : ∀ k, k ≤ c → rUwR s0 y k s j = s j
  | 0, _ => rfl
  | k + 1, hk => by
    show rGb (rUwR s0 y k s) (rY s0 y k) j = s j
    have ih := rUwR_hi (s := s) (w := w) hY h k (by omega)
    rcases h with h | h
    · exact (rGb_hi (hY k (by omega)) h).trans ih
    · exact (rGb_lo (hY k (by omega)) h).trans ih
theorem rUw_hi {s0 s : Nat → Int32} {c w y0 j : Nat} (hY : ∀ y b, y < w → b < c → rY s0 y b = -1 ∨ ∃ j, j < 16 ∧ rY s0 y b = nI j) (h : 71 ≤ j ∨ j < 5) : ∀ k, y0 + k ≤ w → rUw s0 c y0 k s j = s j
  | 0, _ => rfl
  | k + 1, hk => by
    show rUwR s0 (y0 + k) c (rUw s0 c y0 k s) j = s j
    rw [rUwR_hi (w := w) (fun b hb => hY (y0 + k) b (by omega) hb) h c (Nat.le_refl _)]
    exact rUw_hi hY h k (by omega)
theorem zMd_eq {s s2 : Nat → Int32} {c r w cnt lim : Nat} (h : zMd s c r w cnt lim) (e : ∀ j, j < 5 → s2 j = s j) : zMd s2 c r w cnt lim := by
  obtain ⟨h0, h1, h2, h3, h4, h⟩ := h
  exact ⟨by rw [e 0 (by omega), h0], by rw [e 1 (by omega), h1], by rw [e 2 (by omega), h2], by rw [e 3 (by omega), h3], by rw [e 4 (by omega), h4], h⟩

set_option maxHeartbeats 4000000 in
set_option maxRecDepth 100000 in
theorem m_unweaves {G : zT} {S : zS} {X : zXr} {out : Nat → Int64} {s : (Nat → Int32)} {past : (Nat → Int32)} {aside : (Nat → Int32)} {pasts : Nat} {txt : (Nat → Int32)} {typed : Nat} {thrown : Int32} {line : (Nat → Int32)} {need : (Nat → Int32)} {left : (Nat → Int32)} {slits : Nat} {slB : (Nat → Int32)} {slF : (Nat → Int32)} {slT : (Nat → Int32)} {at9 : Nat} {wd9 : Int32} {got : (Nat → Int32)} {ans : Int32} {worst : UInt32} (hG : zAl G = false) {c r w cnt lim : Nat} (hM : zMd s c r w cnt lim) (n : Nat) (hn9 : zFr (nI 1) (nI n) (nI 16) = true) (hn16 : n ≤ 16) (hnw : n ≤ w) (hY : ∀ y b, y < w → b < c → rY s y b = -1 ∨ ∃ j, j < 16 ∧ rY s y b = nI j) : zRun G mX10_unweaves 0 0 [.ref 114, .int (nI n)] (zHp S X (s, past, aside, pasts, txt, typed, thrown, line, need, left, slits, slB, slF, slT, at9, wd9, got, ans, worst) out) (.inr (some (.int (nI 0)))) (zHp S X ((rFg (upd (rUw s c (w - n) n s) 2 (nI (w - n))) (rFd (upd (rUw s c (w - n) n s) 2 (nI (w - n))) (w - n) lim (c - 1) (0, slB, slF, slT)).2.1 (rFd (upd (rUw s c (w - n) n s) 2 (nI (w - n))) (w - n) lim (c - 1) (0, slB, slF, slT)).2.2.1 (rFd (upd (rUw s c (w - n) n s) 2 (nI (w - n))) (w - n) lim (c - 1) (0, slB, slF, slT)).1), past, aside, pasts, txt, typed, thrown, line, need, left, (rFd (upd (rUw s c (w - n) n s) 2 (nI (w - n))) (w - n) lim (c - 1) (0, slB, slF, slT)).1, (rFd (upd (rUw s c (w - n) n s) 2 (nI (w - n))) (w - n) lim (c - 1) (0, slB, slF, slT)).2.1, (rFd (upd (rUw s c (w - n) n s) 2 (nI (w - n))) (w - n) lim (c - 1) (0, slB, slF, slT)).2.2.1, (rFd (upd (rUw s c (w - n) n s) 2 (nI (w - n))) (w - n) lim (c - 1) (0, slB, slF, slT)).2.2.2, at9, wd9, got, (nI (n * c)), worst) out) := by
  have hM9 := hM
  obtain ⟨h0, h1, h2, h3, h4, hc1, hc, hr1, hr, hw, hn, hl⟩ := hM
  have hMU : zMd (upd (rUw s c (w - n) n s) 2 (nI (w - n))) c r (w - n) cnt lim := by
    have q := zMd_eq hM9 (s2 := rUw s c (w - n) n s) (fun j hj => rUw_hi hY (Or.inr hj) n (by omega))
    obtain ⟨q0, q1, q2, q3, q4, q5⟩ := q
    exact ⟨q0, q1, rfl, q3, q4, hc1, hc, hr1, hr, by omega, hn, hl⟩
  refine zRun_of (by decide +kernel) rfl rfl (Nat.le_of_ble_eq_true rfl) ?_
  suffices hs : ∀ (o9 : zO) (h9 : zH), (Sum.inr (some (.int (nI 0))) : zO) = o9 → (zHp S X ((rFg (upd (rUw s c (w - n) n s) 2 (nI (w - n))) (rFd (upd (rUw s c (w - n) n s) 2 (nI (w - n))) (w - n) lim (c - 1) (0, slB, slF, slT)).2.1 (rFd (upd (rUw s c (w - n) n s) 2 (nI (w - n))) (w - n) lim (c - 1) (0, slB, slF, slT)).2.2.1 (rFd (upd (rUw s c (w - n) n s) 2 (nI (w - n))) (w - n) lim (c - 1) (0, slB, slF, slT)).1), past, aside, pasts, txt, typed, thrown, line, need, left, (rFd (upd (rUw s c (w - n) n s) 2 (nI (w - n))) (w - n) lim (c - 1) (0, slB, slF, slT)).1, (rFd (upd (rUw s c (w - n) n s) 2 (nI (w - n))) (w - n) lim (c - 1) (0, slB, slF, slT)).2.1, (rFd (upd (rUw s c (w - n) n s) 2 (nI (w - n))) (w - n) lim (c - 1) (0, slB, slF, slT)).2.2.1, (rFd (upd (rUw s c (w - n) n s) 2 (nI (w - n))) (w - n) lim (c - 1) (0, slB, slF, slT)).2.2.2, at9, wd9, got, (nI (n * c)), worst) out) = h9 → zPW G mX10_unweaves 0 0 o9 h9 0 0 0 [(0, .ref 114), (1, .int (nI n))] [] (zHp S X (s, past, aside, pasts, txt, typed, thrown, line, need, left, slits, slB, slF, slT, at9, wd9, got, ans, worst) out) from hs _ _ rfl rfl
  intro o9 h9 ho9 hh9
  refine z_iload_n 1 dX10_unweaves_0 rfl rfl ?_
  refine z_iconst (v := nI 1) dX10_unweaves_1 (by decide) ?_
  refine z_bipush (v := nI 16) dX10_unweaves_2 (by decide) ?_
  refine z_callS (N := mX10_in) 3 [.int (nI n), .int (nI 1), .int (nI 16)] [] lX10_in ⟨zw_1252, zw_1253⟩ rfl rfl rfl (Nat.le_of_ble_eq_true rfl) (by decide) ⟨zlt, zlt⟩ hG ⟨Nat.zero_le _, Nat.zero_le _⟩ (m_in hG (nI n) (nI 1) (nI 16)) dX10_unweaves_4 ?_
  refine z_if_ne (tgt := 12) dX10_unweaves_7 (by decide) (fun c_7 => ?_) (fun c_7 => ?_)
  · skip
    have b_7 := zB_tt c_7
    refine z_aload_n 0 dX10_unweaves_12 rfl rfl ?_
    refine z_get (v := .ref 115) 0 zgo_114 rfl inX10 (by decide) zw_1178 rfl rfl dX10_unweaves_13 ?_
    refine z_iconst (v := nI 2) dX10_unweaves_16 (by decide) ?_
    refine z_ialdN (f := s) (n := 1371) (j := 2) zga_115 (by omega) (by decide) dX10_unweaves_17 ?_
    refine z_top (v2 := .int (nI w)) (by rw [h2]) ?_
    refine z_iload_n 1 dX10_unweaves_18 rfl rfl ?_
    refine z_icmp_ge (tgt := 24) dX10_unweaves_19 (by decide) (fun c_19 => ?_) (fun c_19 => ?_)
    · skip
      have f_19 := m_le (by omega) (by omega) c_19
      refine z_aload_n 0 dX10_unweaves_24 rfl rfl ?_
      refine z_iload_n 1 dX10_unweaves_25 rfl rfl ?_
      refine z_aload_n 0 dX10_unweaves_26 rfl rfl ?_
      refine z_get (v := .ref 115) 0 zgo_114 rfl inX10 (by decide) zw_1178 rfl rfl dX10_unweaves_27 ?_
      refine z_iconst (v := nI 0) dX10_unweaves_30 (by decide) ?_
      refine z_ialdN (f := s) (n := 1371) (j := 0) zga_115 (by omega) (by decide) dX10_unweaves_31 ?_
      refine z_top (v2 := .int (nI c)) (by rw [h0]) ?_
      refine z_imulN (a := n) (b := c) dX10_unweaves_32 ?_
      refine z_puti 17 tyX10 zgo_114 rfl inX10 tyX10_ok nmX10 (by decide) zw_1195 rfl rfl (by decide +kernel) (Nat.le_of_ble_eq_true rfl) dX10_unweaves_33 ?_
      refine z_eqh (h2 := (zHp S X (s, past, aside, pasts, txt, typed, thrown, line, need, left, slits, slB, slF, slT, at9, wd9, got, (nI (n * c)), worst) out)) zsf_114_17 ?_
      refine z_aload_n 0 dX10_unweaves_36 rfl rfl ?_
      refine z_get (v := .ref 115) 0 zgo_114 rfl inX10 (by decide) zw_1178 rfl rfl dX10_unweaves_37 ?_
      refine z_iconst (v := nI 2) dX10_unweaves_40 (by decide) ?_
      refine z_ialdN (f := s) (n := 1371) (j := 2) zga_115 (by omega) (by decide) dX10_unweaves_41 ?_
      refine z_top (v2 := .int (nI w)) (by rw [h2]) ?_
      refine z_iload_n 1 dX10_unweaves_42 rfl rfl ?_
      refine z_isubN (a := w) (b := n) (by omega) dX10_unweaves_43 ?_
      refine z_istore_n (lv' := [(2, .int (nI (w - n))), (0, .ref 114), (1, .int (nI n))]) dX10_unweaves_44 rfl (by decide) rfl ?_
      have L45_1 : ∀ (d j : Nat), j ≤ n → n + 1 ≤ j + d → zPW G mX10_unweaves 0 0 o9 h9 0 0 45 [(2, .int (nI (w - n + j))), (0, .ref 114), (1, .int (nI n))] [] (zHp S X ((rUw s c (w - n) j s), past, aside, pasts, txt, typed, thrown, line, need, left, slits, slB, slF, slT, at9, wd9, got, (nI (n * c)), worst) out) := by
        intro d
        induction d with
        | zero => intro j hk hd; exact absurd hd (by omega)
        | succ d ih =>
          intro j hk_j hd_j
          have ih45 := ih
          clear ih
          refine z_iload_n 0 dX10_unweaves_45 rfl rfl ?_
          refine z_aload_n 1 dX10_unweaves_46 rfl rfl ?_
          refine z_get (v := .ref 115) 0 zgo_114 rfl inX10 (by decide) zw_1178 rfl rfl dX10_unweaves_47 ?_
          refine z_iconst (v := nI 2) dX10_unweaves_50 (by decide) ?_
          refine z_ialdN (f := (rUw s c (w - n) j s)) (n := 1371) (j := 2) zga_115 (by omega) (by decide) dX10_unweaves_51 ?_
          refine z_top (v2 := .int (nI w)) (by rw [rUw_hi hY (Or.inr (by omega)) _ (by omega), h2]) ?_
          refine z_icmp_ge (tgt := 101) dX10_unweaves_52 (by decide) (fun c_52 => ?_) (fun c_52 => ?_)
          · skip
            have f_52 := m_le (by omega) (by omega) c_52
            have e_j : j = n := by omega
            rw [e_j]
            refine z_aload_n 1 dX10_unweaves_101 rfl rfl ?_
            refine z_get (v := .ref 115) 0 zgo_114 rfl inX10 (by decide) zw_1178 rfl rfl dX10_unweaves_102 ?_
            refine z_iconst (v := nI 2) dX10_unweaves_105 (by decide) ?_
            refine z_dup2 dX10_unweaves_106 rfl rfl ?_
            refine z_ialdN (f := (rUw s c (w - n) (n) s)) (n := 1371) (j := 2) zga_115 (by omega) (by decide) dX10_unweaves_107 ?_
            refine z_top (v2 := .int (nI w)) (by rw [rUw_hi hY (Or.inr (by omega)) _ (by omega), h2]) ?_
            refine z_iload_n 2 dX10_unweaves_108 rfl rfl ?_
            refine z_isubN (a := w) (b := n) (by omega) dX10_unweaves_109 ?_
            refine z_iastN (f := (rUw s c (w - n) (n) s)) (n := 1371) (j := 2) zga_115 (by omega) (by decide) dX10_unweaves_110 ?_
            refine z_eqh (h2 := (zHp S X ((upd (rUw s c (w - n) (n) s) 2 (nI (w - n))), past, aside, pasts, txt, typed, thrown, line, need, left, slits, slB, slF, slT, at9, wd9, got, (nI (n * c)), worst) out)) zsa_115 ?_
            refine z_aload_n 1 dX10_unweaves_111 rfl rfl ?_
            refine z_callV (N := mX10_forgets) 0 [] [] lX10_forgets ⟨zw_1312, zw_1314, zw_53⟩ rfl zgo_114 rfl rfl (Nat.le_of_ble_eq_true rfl) (by decide) ⟨zlt, zlt⟩ ⟨Nat.zero_le _, Nat.zero_le _⟩ zal (m_forgets hG hMU) dX10_unweaves_112 ?_
            refine z_iconst (v := nI 0) dX10_unweaves_115 (by decide) ?_
            exact z_iret rfl dX10_unweaves_116 (zo_i ho9 (by rfl)) (zo_h hh9 (by rfl)) (Nat.zero_le _) (Nat.zero_le _)
          · skip
            have f_52 := m_nle (by omega) (by omega) c_52
            refine z_iconst (v := nI 0) dX10_unweaves_55 (by decide) ?_
            refine z_istore_n (lv' := [(3, .int (nI 0)), (2, .int (nI (w - n + j))), (0, .ref 114), (1, .int (nI n))]) dX10_unweaves_56 rfl (by decide) rfl ?_
            have L57_2 : ∀ (d i : Nat), i ≤ c → c + 1 ≤ i + d → zPW G mX10_unweaves 0 0 o9 h9 0 0 57 [(3, .int (nI i)), (2, .int (nI (w - n + j))), (0, .ref 114), (1, .int (nI n))] [] (zHp S X ((rUwR s (w - n + j) i (rUw s c (w - n) j s)), past, aside, pasts, txt, typed, thrown, line, need, left, slits, slB, slF, slT, at9, wd9, got, (nI (n * c)), worst) out) := by
              intro d
              induction d with
              | zero => intro i hk hd; exact absurd hd (by omega)
              | succ d ih =>
                intro i hk_i hd_i
                have ih57 := ih
                clear ih
                refine z_iload_n 0 dX10_unweaves_57 rfl rfl ?_
                refine z_aload_n 2 dX10_unweaves_58 rfl rfl ?_
                refine z_get (v := .ref 115) 0 zgo_114 rfl inX10 (by decide) zw_1178 rfl rfl dX10_unweaves_59 ?_
                refine z_iconst (v := nI 0) dX10_unweaves_62 (by decide) ?_
                refine z_ialdN (f := (rUwR s (w - n + j) i (rUw s c (w - n) j s))) (n := 1371) (j := 0) zga_115 (by omega) (by decide) dX10_unweaves_63 ?_
                refine z_top (v2 := .int (nI c)) (by rw [rUwR_hi (w := w) (fun b hb => hY _ b (by omega) hb) (Or.inr (by omega)) _ (by omega), rUw_hi hY (Or.inr (by omega)) _ (by omega), h0]) ?_
                refine z_icmp_ge (tgt := 95) dX10_unweaves_64 (by decide) (fun c_64 => ?_) (fun c_64 => ?_)
                · skip
                  have f_64 := m_le (by omega) (by omega) c_64
                  have e_i : i = c := by omega
                  rw [e_i]
                  refine z_iinc (v := nI (w - n + j + 1)) (lv' := [(2, .int (nI (w - n + j + 1))), (3, .int (nI c)), (0, .ref 114), (1, .int (nI n))]) 1 dX10_unweaves_95 rfl (nI_1 _) (by decide) rfl ?_
                  refine z_goto (tgt := 45) dX10_unweaves_98 (by decide) ?_
                  refine z_sub [0, 2, 3] (lv' := [(2, .int (nI (w - n + j + 1))), (0, .ref 114), (1, .int (nI n))]) rfl ?_
                  refine z_eqs (lv2 := [(2, .int (nI (w - n + (j + 1)))), (0, .ref 114), (1, .int (nI n))]) (h2 := (zHp S X ((rUw s c (w - n) (j + 1) s), past, aside, pasts, txt, typed, thrown, line, need, left, slits, slB, slF, slT, at9, wd9, got, (nI (n * c)), worst) out)) (by rfl) (by rfl) ?_
                  exact ih45 (j + 1) (by omega) (by omega)
                · skip
                  have f_64 := m_nle (by omega) (by omega) c_64
                  refine z_aload_n 2 dX10_unweaves_67 rfl rfl ?_
                  refine z_get (v := .ref 115) 0 zgo_114 rfl inX10 (by decide) zw_1178 rfl rfl dX10_unweaves_68 ?_
                  refine z_bipush (v := nI 7) dX10_unweaves_71 (by decide) ?_
                  refine z_iconst (v := nI 4) dX10_unweaves_73 (by decide) ?_
                  refine z_aload_n 2 dX10_unweaves_74 rfl rfl ?_
                  refine z_iload_n 1 dX10_unweaves_75 rfl rfl ?_
                  refine z_iload_n 0 dX10_unweaves_76 rfl rfl ?_
                  refine z_callV (N := mX10_yarn) 2 [.int (nI (w - n + j)), .int (nI i)] [.int (nI 4), .int (nI 7), .ref 115] lX10_yarn ⟨zw_1400, zw_1402, zw_72⟩ rfl zgo_114 rfl rfl (Nat.le_of_ble_eq_true rfl) (by decide) ⟨zlt, zlt⟩ ⟨Nat.zero_le _, Nat.zero_le _⟩ (fun _ => rfl) (m_yarn hG (w - n + j) i (by omega) (by omega)) dX10_unweaves_77 ?_
                  refine z_top (v2 := .int (rY s (w - n + j) i)) (by exact congrArg Value.int (show (rUwR s (w - n + j) i (rUw s c (w - n) j s)) (731 + 20 * (w - n + j) + i) = s (731 + 20 * (w - n + j) + i) by rw [rUwR_hi (w := w) (fun b hb => hY _ b (by omega) hb) (Or.inl (by omega)) _ (by omega), rUw_hi hY (Or.inl (by omega)) _ (by omega)])) ?_
                  refine z_imul dX10_unweaves_80 ?_
                  refine z_iadd dX10_unweaves_81 ?_
                  refine z_iconst (v := nI 2) dX10_unweaves_82 (by decide) ?_
                  refine z_iadd dX10_unweaves_83 ?_
                  refine z_dup2 dX10_unweaves_84 rfl rfl ?_
                  refine z_iald (f := (rUwR s (w - n + j) i (rUw s c (w - n) j s))) (n := 1371) zga_115 (by exact (rIx_in (hY (w - n + j) i (by omega) (by omega)) (by decide)).1) dX10_unweaves_85 ?_
                  refine z_iconst (v := nI 1) dX10_unweaves_86 (by decide) ?_
                  refine z_iadd dX10_unweaves_87 ?_
                  refine z_iast (f := (rUwR s (w - n + j) i (rUw s c (w - n) j s))) (n := 1371) zga_115 (by exact (rIx_in (hY (w - n + j) i (by omega) (by omega)) (by decide)).1) dX10_unweaves_88 ?_
                  refine z_eqh (h2 := (zHp S X ((upd (rUwR s (w - n + j) i (rUw s c (w - n) j s)) (((nI 7) + ((nI 4) * (rY s (w - n + j) i))) + (nI 2)).toNatClampNeg (((rUwR s (w - n + j) i (rUw s c (w - n) j s)) (((nI 7) + ((nI 4) * (rY s (w - n + j) i))) + (nI 2)).toNatClampNeg) + (nI 1))), past, aside, pasts, txt, typed, thrown, line, need, left, slits, slB, slF, slT, at9, wd9, got, (nI (n * c)), worst) out)) zsa_115 ?_
                  refine z_iinc (v := nI (i + 1)) (lv' := [(3, .int (nI (i + 1))), (2, .int (nI (w - n + j))), (0, .ref 114), (1, .int (nI n))]) 0 dX10_unweaves_89 rfl (nI_1 _) (by decide) rfl ?_
                  refine z_goto (tgt := 57) dX10_unweaves_92 (by decide) ?_
                  refine z_sub [0, 1, 2, 3] (lv' := [(3, .int (nI (i + 1))), (2, .int (nI (w - n + j))), (0, .ref 114), (1, .int (nI n))]) rfl ?_
                  refine z_eqs (lv2 := [(3, .int (nI ((i + 1)))), (2, .int (nI (w - n + j))), (0, .ref 114), (1, .int (nI n))]) (h2 := (zHp S X ((rUwR s (w - n + j) (i + 1) (rUw s c (w - n) j s)), past, aside, pasts, txt, typed, thrown, line, need, left, slits, slB, slF, slT, at9, wd9, got, (nI (n * c)), worst) out)) (by rfl) (by rfl) ?_
                  exact ih57 (i + 1) (by omega) (by omega)
            refine z_sub [0, 1, 2, 3] (lv' := [(3, .int (nI 0)), (2, .int (nI (w - n + j))), (0, .ref 114), (1, .int (nI n))]) rfl ?_
            refine z_eqs (lv2 := [(3, .int (nI 0)), (2, .int (nI (w - n + j))), (0, .ref 114), (1, .int (nI n))]) (h2 := (zHp S X ((rUwR s (w - n + j) 0 (rUw s c (w - n) j s)), past, aside, pasts, txt, typed, thrown, line, need, left, slits, slB, slF, slT, at9, wd9, got, (nI (n * c)), worst) out)) (by rfl) (by rfl) ?_
            exact L57_2 (c + 1) 0 (by omega) (by omega)
      refine z_sub [0, 1, 2] (lv' := [(2, .int (nI (w - n))), (0, .ref 114), (1, .int (nI n))]) rfl ?_
      refine z_eqs (lv2 := [(2, .int (nI (w - n + 0))), (0, .ref 114), (1, .int (nI n))]) (h2 := (zHp S X ((rUw s c (w - n) 0 s), past, aside, pasts, txt, typed, thrown, line, need, left, slits, slB, slF, slT, at9, wd9, got, (nI (n * c)), worst) out)) (by rfl) (by rfl) ?_
      exact L45_1 (n + 1) 0 (by omega) (by omega)
    · exfalso; have := m_nle (by omega) (by omega) c_19; omega
  · exfalso; rw [hn9] at c_7; exact absurd c_7 (by decide)

set_option maxHeartbeats 4000000 in
set_option maxRecDepth 100000 in
theorem m_unweaves_1 {G : zT} {S : zS} {X : zXr} {out : Nat → Int64} {s : (Nat → Int32)} {past : (Nat → Int32)} {aside : (Nat → Int32)} {pasts : Nat} {txt : (Nat → Int32)} {typed : Nat} {thrown : Int32} {line : (Nat → Int32)} {need : (Nat → Int32)} {left : (Nat → Int32)} {slits : Nat} {slB : (Nat → Int32)} {slF : (Nat → Int32)} {slT : (Nat → Int32)} {at9 : Nat} {wd9 : Int32} {got : (Nat → Int32)} {ans : Int32} {worst : UInt32} (hG : zAl G = false) (n : Int32) (hn9 : zFr (nI 1) n (nI 16) = false) : zRun G mX10_unweaves 0 0 [.ref 114, .int n] (zHp S X (s, past, aside, pasts, txt, typed, thrown, line, need, left, slits, slB, slF, slT, at9, wd9, got, ans, worst) out) (.inr (some (.int (nI 1)))) (zHp S X (s, past, aside, pasts, txt, typed, thrown, line, need, left, slits, slB, slF, slT, at9, wd9, got, ans, worst) out) := by
  refine zRun_of (by decide +kernel) rfl rfl (Nat.le_of_ble_eq_true rfl) ?_
  suffices hs : ∀ (o9 : zO) (h9 : zH), (Sum.inr (some (.int (nI 1))) : zO) = o9 → (zHp S X (s, past, aside, pasts, txt, typed, thrown, line, need, left, slits, slB, slF, slT, at9, wd9, got, ans, worst) out) = h9 → zPW G mX10_unweaves 0 0 o9 h9 0 0 0 [(0, .ref 114), (1, .int n)] [] (zHp S X (s, past, aside, pasts, txt, typed, thrown, line, need, left, slits, slB, slF, slT, at9, wd9, got, ans, worst) out) from hs _ _ rfl rfl
  intro o9 h9 ho9 hh9
  refine z_iload_n 1 dX10_unweaves_0 rfl rfl ?_
  refine z_iconst (v := nI 1) dX10_unweaves_1 (by decide) ?_
  refine z_bipush (v := nI 16) dX10_unweaves_2 (by decide) ?_
  refine z_callS (N := mX10_in) 3 [.int n, .int (nI 1), .int (nI 16)] [] lX10_in ⟨zw_1252, zw_1253⟩ rfl rfl rfl (Nat.le_of_ble_eq_true rfl) (by decide) ⟨zlt, zlt⟩ hG ⟨Nat.zero_le _, Nat.zero_le _⟩ (m_in hG n (nI 1) (nI 16)) dX10_unweaves_4 ?_
  refine z_if_ne (tgt := 12) dX10_unweaves_7 (by decide) (fun c_7 => ?_) (fun c_7 => ?_)
  · exfalso; rw [hn9] at c_7; exact c_7 rfl
  · skip
    have b_7 := zB_0.mp c_7
    refine z_iconst (v := nI 1) dX10_unweaves_10 (by decide) ?_
    exact z_iret rfl dX10_unweaves_11 (zo_i ho9 (by rfl)) (zo_h hh9 (by rfl)) (Nat.zero_le _) (Nat.zero_le _)

set_option maxHeartbeats 4000000 in
set_option maxRecDepth 100000 in
theorem m_unweaves_2 {G : zT} {S : zS} {X : zXr} {out : Nat → Int64} {s : (Nat → Int32)} {past : (Nat → Int32)} {aside : (Nat → Int32)} {pasts : Nat} {txt : (Nat → Int32)} {typed : Nat} {thrown : Int32} {line : (Nat → Int32)} {need : (Nat → Int32)} {left : (Nat → Int32)} {slits : Nat} {slB : (Nat → Int32)} {slF : (Nat → Int32)} {slT : (Nat → Int32)} {at9 : Nat} {wd9 : Int32} {got : (Nat → Int32)} {ans : Int32} {worst : UInt32} (hG : zAl G = false) {c r w cnt lim : Nat} (hM : zMd s c r w cnt lim) (n : Nat) (hn9 : zFr (nI 1) (nI n) (nI 16) = true) (hn16 : n ≤ 16) (hnw : w < n) : zRun G mX10_unweaves 0 0 [.ref 114, .int (nI n)] (zHp S X (s, past, aside, pasts, txt, typed, thrown, line, need, left, slits, slB, slF, slT, at9, wd9, got, ans, worst) out) (.inr (some (.int (nI 2)))) (zHp S X (s, past, aside, pasts, txt, typed, thrown, line, need, left, slits, slB, slF, slT, at9, wd9, got, ans, worst) out) := by
  have hM9 := hM
  obtain ⟨h0, h1, h2, h3, h4, hc1, hc, hr1, hr, hw, hn, hl⟩ := hM
  refine zRun_of (by decide +kernel) rfl rfl (Nat.le_of_ble_eq_true rfl) ?_
  suffices hs : ∀ (o9 : zO) (h9 : zH), (Sum.inr (some (.int (nI 2))) : zO) = o9 → (zHp S X (s, past, aside, pasts, txt, typed, thrown, line, need, left, slits, slB, slF, slT, at9, wd9, got, ans, worst) out) = h9 → zPW G mX10_unweaves 0 0 o9 h9 0 0 0 [(0, .ref 114), (1, .int (nI n))] [] (zHp S X (s, past, aside, pasts, txt, typed, thrown, line, need, left, slits, slB, slF, slT, at9, wd9, got, ans, worst) out) from hs _ _ rfl rfl
  intro o9 h9 ho9 hh9
  refine z_iload_n 1 dX10_unweaves_0 rfl rfl ?_
  refine z_iconst (v := nI 1) dX10_unweaves_1 (by decide) ?_
  refine z_bipush (v := nI 16) dX10_unweaves_2 (by decide) ?_
  refine z_callS (N := mX10_in) 3 [.int (nI n), .int (nI 1), .int (nI 16)] [] lX10_in ⟨zw_1252, zw_1253⟩ rfl rfl rfl (Nat.le_of_ble_eq_true rfl) (by decide) ⟨zlt, zlt⟩ hG ⟨Nat.zero_le _, Nat.zero_le _⟩ (m_in hG (nI n) (nI 1) (nI 16)) dX10_unweaves_4 ?_
  refine z_if_ne (tgt := 12) dX10_unweaves_7 (by decide) (fun c_7 => ?_) (fun c_7 => ?_)
  · skip
    have b_7 := zB_tt c_7
    refine z_aload_n 0 dX10_unweaves_12 rfl rfl ?_
    refine z_get (v := .ref 115) 0 zgo_114 rfl inX10 (by decide) zw_1178 rfl rfl dX10_unweaves_13 ?_
    refine z_iconst (v := nI 2) dX10_unweaves_16 (by decide) ?_
    refine z_ialdN (f := s) (n := 1371) (j := 2) zga_115 (by omega) (by decide) dX10_unweaves_17 ?_
    refine z_top (v2 := .int (nI w)) (by rw [h2]) ?_
    refine z_iload_n 1 dX10_unweaves_18 rfl rfl ?_
    refine z_icmp_ge (tgt := 24) dX10_unweaves_19 (by decide) (fun c_19 => ?_) (fun c_19 => ?_)
    · exfalso; have := m_le (by omega) (by omega) c_19; omega
    · skip
      have f_19 := m_nle (by omega) (by omega) c_19
      refine z_iconst (v := nI 2) dX10_unweaves_22 (by decide) ?_
      exact z_iret rfl dX10_unweaves_23 (zo_i ho9 (by rfl)) (zo_h hh9 (by rfl)) (Nat.zero_le _) (Nat.zero_le _)
  · exfalso; rw [hn9] at c_7; exact absurd c_7 (by decide)

