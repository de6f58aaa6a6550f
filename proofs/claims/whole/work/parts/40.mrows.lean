theorem m_lt {a b : Nat} (ha : a < 2 ^ 31) (hb : b < 2 ^ 31) (h : nI a < nI b) : a < b := (nI_ltI ha hb).mp h
theorem m_nlt {a b : Nat} (ha : a < 2 ^ 31) (hb : b < 2 ^ 31) (h : ¬ nI a < nI b) : b ≤ a := Nat.le_of_not_lt fun q => h ((nI_ltI ha hb).mpr q)
theorem m_le {a b : Nat} (ha : a < 2 ^ 31) (hb : b < 2 ^ 31) (h : nI a ≤ nI b) : a ≤ b := (nI_leI ha hb).mp h
theorem m_nle {a b : Nat} (ha : a < 2 ^ 31) (hb : b < 2 ^ 31) (h : ¬ nI a ≤ nI b) : b < a := Nat.lt_of_not_le fun q => h ((nI_leI ha hb).mpr q)
theorem m_eq {a b : Nat} (ha : a < 2 ^ 31) (hb : b < 2 ^ 31) (h : nI a = nI b) : a = b := (nI_eq ha hb).mp h
theorem m_ne {a b : Nat} (ha : a < 2 ^ 31) (hb : b < 2 ^ 31) (h : ¬ nI a = nI b) : ¬ a = b := fun q => h ((nI_eq ha hb).mpr q)
theorem m_z_eq_t {a : Nat} (ha : a < 2 ^ 31) (h : nI a = 0) : a = 0 := (nI_eq ha (by decide)).mp (h.trans nI_0.symm)
theorem m_z_eq_f {a : Nat} (ha : a < 2 ^ 31) (h : ¬ nI a = 0) : ¬ a = 0 := fun q => h (by rw [q]; exact nI_0)
theorem m_z_ne_t {a : Nat} (ha : a < 2 ^ 31) (h : ¬ nI a = 0) : ¬ a = 0 := m_z_eq_f ha h
theorem m_z_ne_f {a : Nat} (ha : a < 2 ^ 31) (h : nI a = 0) : a = 0 := m_z_eq_t ha h
theorem m_z_gt_t {a : Nat} (ha : a < 2 ^ 31) (h : 0 < nI a) : 0 < a := (nI_ltI (by decide) ha).mp (by rw [nI_0]; exact h)
theorem m_z_gt_f {a : Nat} (ha : a < 2 ^ 31) (h : ¬ 0 < nI a) : a = 0 := Nat.eq_zero_of_not_pos fun q => h (by have := (nI_ltI (a := 0) (b := a) (by decide) ha).mpr q; rw [nI_0] at this; exact this)
theorem m_z_le_t {a : Nat} (ha : a < 2 ^ 31) (h : nI a ≤ 0) : a = 0 := Nat.le_zero.mp ((nI_leI ha (by decide)).mp (by rw [nI_0]; exact h))
theorem m_z_le_f {a : Nat} (ha : a < 2 ^ 31) (h : ¬ nI a ≤ 0) : 0 < a := Nat.pos_of_ne_zero fun q => h (by rw [q, nI_0]; decide)
theorem nI_m1 {a : Nat} (ha : a < 2 ^ 31) (h : nI a = -1) : False := nI_pos ha (by rw [h]; decide)
theorem zCt_T {p : Nat → Bool} {n : Nat} (h : p n = true) : zCt p n + 1 = zCt p (n + 1) := by simp [zCt, h]
theorem zCt_F {p : Nat → Bool} {n : Nat} (h : p n = false) : zCt p n + 0 = zCt p (n + 1) := by simp [zCt, h]
theorem nI_one : nI 1 = 1 := by decide
theorem m_dec (x : Int32) : x + Int32.ofInt (-1) = x - nI 1 := by rw [Int32.sub_eq_add_neg]; rfl
theorem zIn_n {a b : Nat} (ha : a < 2 ^ 31) (hb : b < 2 ^ 31) : zIn (nI a) (nI b) = decide (a < b) := by
  unfold zIn
  rw [decide_eq_false (nI_pos ha)]
  by_cases h : a < b
  · rw [decide_eq_false (nI_ge h hb), decide_eq_true h]; rfl
  · rw [decide_eq_true (nI_le (by omega) ha), decide_eq_false h]; rfl
theorem zFr_in {v : Int32} {n : Nat} (hn : n < 2 ^ 31) : zFr (nI 0) v (nI n - nI 1) = zIn v (nI n) := by
  unfold zFr zIn
  rw [nI_0]
  by_cases h : v < 0
  · rw [decide_eq_true h]; rfl
  · obtain ⟨j, hj, rfl⟩ := nI_of h
    rw [decide_eq_false h]
    cases n with
    | zero =>
      rw [decide_eq_true (show nI 0 - nI 1 < nI j from Int32.lt_of_lt_of_le (show nI 0 - nI 1 < nI 0 by decide) (nI_le (Nat.zero_le _) hj)), decide_eq_true (nI_le (Nat.zero_le _) hj)]
    | succ k =>
      rw [pk_sub (show 1 ≤ k + 1 by omega), show k + 1 - 1 = k by omega]
      by_cases h2 : k < j
      · rw [decide_eq_true (nI_lt h2 hj), decide_eq_true (nI_le h2 hj)]
      · rw [decide_eq_false (nI_nlt (by omega) (by omega)), decide_eq_false (nI_ge (by omega) hn)]
theorem zFr_in1 {v : Int32} {n : Nat} (hn : n < 2 ^ 31) (h1 : 1 ≤ n) : zFr (nI 0) v (nI (n - 1)) = zIn v (nI n) := by rw [← pk_sub h1]; exact zFr_in hn
section MROWS
variable {G : zT} {M : zN} {mc ms : Nat} {o : zO} {h' : zH} {cells slots pc : Nat} {lv : List (Nat × Value)} {st : List Value} {h : zH}
theorem z_iaddN {a b : Nat} (hd : decode (mC M) pc = .ok (.iadd, 1)) (k : zPW G M mc ms o h' cells slots (pc + 1) lv (.int (nI (a + b)) :: st) h) : zPW G M mc ms o h' cells slots pc lv (.int (nI b) :: .int (nI a) :: st) h := z_iadd hd (z_top (congrArg Value.int (nI_add a b)) k)
theorem z_isubN {a b : Nat} (hle : b ≤ a) (hd : decode (mC M) pc = .ok (.isub, 1)) (k : zPW G M mc ms o h' cells slots (pc + 1) lv (.int (nI (a - b)) :: st) h) : zPW G M mc ms o h' cells slots pc lv (.int (nI b) :: .int (nI a) :: st) h := z_isub hd (z_top (congrArg Value.int (pk_sub hle)) k)
theorem z_imulN {a b : Nat} (hd : decode (mC M) pc = .ok (.imul, 1)) (k : zPW G M mc ms o h' cells slots (pc + 1) lv (.int (nI (a * b)) :: st) h) : zPW G M mc ms o h' cells slots pc lv (.int (nI b) :: .int (nI a) :: st) h := z_imul hd (z_top (congrArg Value.int (pk_mul a b)) k)
theorem z_ialdN {n i : Nat} {f : Nat → Int32} {j : Nat} (hp : h[i]? = some (.inl (0, n, .inl f))) (hj : j < n) (hn : n < 2 ^ 31) (hd : decode (mC M) pc = .ok (.iaload, 1)) (k : zPW G M mc ms o h' cells slots (pc + 1) lv (.int (f j) :: st) h) : zPW G M mc ms o h' cells slots pc lv (.int (nI j) :: .ref i :: st) h :=
  z_iald hp (vp_in_nI hj hn) hd (by rw [nI_clamp (Nat.lt_trans hj hn)]; exact k)
theorem z_iastN {n i : Nat} {f : Nat → Int32} {j : Nat} {y : Int32} (hp : h[i]? = some (.inl (0, n, .inl f))) (hj : j < n) (hn : n < 2 ^ 31) (hd : decode (mC M) pc = .ok (.iastore, 1)) (k : zPW G M mc ms o h' cells slots (pc + 1) lv st (h.set i (.inl (0, n, .inl (upd f j y))))) : zPW G M mc ms o h' cells slots pc lv (.int y :: .int (nI j) :: .ref i :: st) h :=
  z_iast hp (vp_in_nI hj hn) hd (by rw [nI_clamp (Nat.lt_trans hj hn)]; exact k)
end MROWS
/-! the reference's own words: s its row of numbers -/
def zMd (s : Nat → Int32) (c r w cnt lim : Nat) : Prop := s 0 = nI c ∧ s 1 = nI r ∧ s 2 = nI w ∧ s 3 = nI cnt ∧ s 4 = nI lim ∧ 1 ≤ c ∧ c ≤ 20 ∧ 1 ≤ r ∧ r ≤ 16 ∧ w ≤ r ∧ cnt ≤ 16 ∧ lim ≤ 16
def rD (s : Nat → Int32) (c y b : Nat) : Int32 := s (91 + 20 * y + c - 1 - b)
def rW (s : Nat → Int32) (y b : Nat) : Int32 := s (411 + 20 * y + b)
def rY (s : Nat → Int32) (y b : Nat) : Int32 := s (731 + 20 * y + b)
def rBeg (L : Nat → Int32) (b : Nat) : Bool := b == 0 || !(L b == L (b - 1))
/-- a part of a row anew -/
def zFa {α : Type} (o : Nat) (g f : Nat → α) (n : Nat) : Nat → α := fun j => if o ≤ j ∧ j < o + n then g (j - o) else f j
theorem zFa_0 {α : Type} (o : Nat) (g f : Nat → α) : zFa o g f 0 = f := by funext j; unfold zFa; rw [if_neg (by omega)]
theorem zFa_s {o : Nat} {g f : Nat → Int32} {n : Nat} {x : Int32} (hx : g n = x) : upd (zFa o g f n) (o + n) x = zFa o g f (n + 1) := by
  funext j
  unfold upd zFa
  by_cases h : j = o + n
  · subst h
    rw [if_pos rfl, if_pos ⟨by omega, by omega⟩, ← hx, show o + n - o = n by omega]
  · rw [if_neg h]
    by_cases h2 : o ≤ j ∧ j < o + n
    · rw [if_pos h2, if_pos ⟨h2.1, by omega⟩]
    · rw [if_neg h2, if_neg (by omega)]
theorem zFl_S {g f : Nat → Int32} {n : Nat} {x : Int32} (hx : g n = x) : upd (zFl g f n) n x = zFl g f (n + 1) := by
  funext j
  unfold upd zFl
  by_cases h : j = n
  · subst h
    rw [if_pos rfl, if_pos (by omega), ← hx]
  · rw [if_neg h]
    by_cases h2 : j < n
    · rw [if_pos h2, if_pos (by omega)]
    · rw [if_neg h2, if_neg (by omega)]
theorem zFl_at {α : Type} {g f : Nat → α} {n j : Nat} (h : n ≤ j) : zFl g f n j = f j := if_neg (by omega)
theorem zFa_at {α : Type} {o : Nat} {g f : Nat → α} {n j : Nat} (h : o + n ≤ j) : zFa o g f n j = f j := if_neg (by omega)
theorem zFa_lo {α : Type} {o : Nat} {g f : Nat → α} {n j : Nat} (h : j < o) : zFa o g f n j = f j := if_neg (by omega)
def rAny (P : Nat → Bool) : Nat → Bool
  | 0 => false
  | n + 1 => rAny P n || P n
/-- the colors of a row of the cartoon, with the mistakes -/
def rDl (s : Nat → Int32) (c y b : Nat) : Int32 := if s (71 + b) < 0 then rD s c y b else s (71 + b)
def rUn (s : Nat → Int32) (v : Int32) (cnt : Nat) : Int32 := zSm (fun l => if s (7 + 4 * l) = v then s (7 + 4 * l + 2) else 0) cnt
def rIu (s : Nat → Int32) (v : Int32) : Nat → Nat → Int32
  | _, 0 => -1
  | k, d + 1 => if s (7 + 4 * k) = v ∧ 0 < s (7 + 4 * k + 2) then nI k else rIu s v (k + 1) d
theorem rIu_ok {s : Nat → Int32} {v : Int32} : ∀ d k : Nat, rIu s v k d = -1 ∨ ∃ j, j < k + d ∧ rIu s v k d = nI j
  | 0, k => Or.inl rfl
  | d + 1, k => by
    unfold rIu
    by_cases h : s (7 + 4 * k) = v ∧ 0 < s (7 + 4 * k + 2)
    · rw [if_pos h]
      exact Or.inr ⟨k, by omega, rfl⟩
    · rw [if_neg h]
      rcases rIu_ok (s := s) (v := v) d (k + 1) with q | ⟨j, q1, q2⟩
      · exact Or.inl q
      · exact Or.inr ⟨j, by omega, q2⟩
def rIx (l : Int32) (t : Nat) : Nat := (nI 7 + nI 4 * l + nI t).toNatClampNeg
theorem rIx_n {k t : Nat} (h : 7 + 4 * k + t < 2 ^ 31) : rIx (nI k) t = 7 + 4 * k + t := by
  unfold rIx
  rw [pk_mul, nI_add, nI_add, nI_clamp h]
theorem rIx_in {l : Int32} {t : Nat} (h : l = -1 ∨ ∃ j, j < 16 ∧ l = nI j) (ht : t ≤ 3) : vp_in (nI 7 + nI 4 * l + nI t) 1371 ∧ 3 ≤ rIx l t ∧ rIx l t ≤ 70 := by
  rcases h with rfl | ⟨j, hj, rfl⟩
  · rcases (show t = 0 ∨ t = 1 ∨ t = 2 ∨ t = 3 by omega) with rfl | rfl | rfl | rfl <;> exact ⟨by unfold vp_in; decide, by decide, by decide⟩
  · rw [rIx_n (by omega)]
    refine ⟨?_, by omega, by omega⟩
    rw [pk_mul, nI_add, nI_add]
    exact vp_in_nI (by omega) (by decide)
theorem rIu_s {s : Nat → Int32} {v : Int32} {cnt j : Nat} (h : j < cnt) : rIu s v (cnt - (j + 1)) (j + 1) = if s (7 + 4 * (cnt - j - 1)) = v ∧ 0 < s (7 + 4 * (cnt - j - 1) + 2) then nI (cnt - j - 1) else rIu s v (cnt - j) j := by
  rw [show cnt - (j + 1) = cnt - j - 1 by omega]
  show (if s (7 + 4 * (cnt - j - 1)) = v ∧ 0 < s (7 + 4 * (cnt - j - 1) + 2) then nI (cnt - j - 1) else rIu s v (cnt - j - 1 + 1) j) = _
  rw [show cnt - j - 1 + 1 = cnt - j by omega]
theorem rIu_in {s : Nat → Int32} {v : Int32} {cnt : Nat} (h : cnt ≤ 16) : rIu s v 0 cnt = -1 ∨ ∃ j, j < 16 ∧ rIu s v 0 cnt = nI j := by
  rcases rIu_ok (s := s) (v := v) cnt 0 with q | ⟨j, q1, q2⟩
  · exact Or.inl q
  · exact Or.inr ⟨j, by omega, q2⟩
def rTk (s : Nat → Int32) (v : Int32) (cnt : Nat) : Nat → Int32 := upd s (rIx (rIu s v 0 cnt) 2) (s (rIx (rIu s v 0 cnt) 2) - nI 1)
def rOl (s L : Nat → Int32) (y : Nat) : Nat → Bool
  | 0 => false
  | b + 1 => (!rBeg L b && rOl s L y b) || (decide (0 < y) && rW s (y - 1) b == L b)
def rEnd (L : Nat → Int32) (c b : Nat) : Bool := b + 1 == c || !(L (b + 1) == L b)
def rFre (s : Nat → Int32) (L : Nat → Int32) (c y : Nat) : Nat := zCt (fun b => rEnd L c b && !rOl s L y (b + 1)) c
def rPt (s : Nat → Int32) (w y b : Nat) : Bool := decide (y < w) && !(rW s y b == rW s y (b + 1))
def rSv (past aside : Nat → Int32) (pasts : Nat) : Nat → Int32 := if pasts = 4 then zFa (1371 * 3) aside (zFl (fun k => past (k + 1371)) past 4113) 1371 else zFa (1371 * pasts) aside past 1371
theorem m_pl {a : Nat} (h : a < 2 ^ 31) (q : nI a - nI 1 < 0) : a = 0 := by
  cases a with
  | zero => rfl
  | succ k => exact absurd q (by rw [pk_sub (by omega)]; exact nI_pos (by omega))
theorem m_npl {a : Nat} (h : a < 2 ^ 31) (q : ¬ nI a - nI 1 < 0) : 0 < a := by
  cases a with
  | zero => exact absurd (by decide) q
  | succ k => omega
