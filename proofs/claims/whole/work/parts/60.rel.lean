/-! THE TWO SIDES ARE EQUAL: rows and counts -/
theorem zAt_n {f : Nat → Int32} {b y : Nat} (hb : b < 20) (hy : y < 16) : zAt f (nI b) (nI y) = f (20 * y + b) := by
  unfold zAt
  have e : nI y * nI 20 + nI b = nI (20 * y + b) := by rw [pk_mul, nI_add, Nat.mul_comm]
  rw [e, if_neg (nI_pos (by omega)), if_neg (nI_ge hb (by decide)), if_neg (nI_pos (by omega)), if_neg (nI_ge (by omega) (by decide)), nI_clamp (by omega)]
theorem zAt_m {f : Nat → Int32} {y : Int32} : zAt f (nI 0 - 1) y = -1 := by
  unfold zAt
  rw [if_pos (by decide)]
theorem zAt_20 {f : Nat → Int32} {b : Nat} {y : Int32} (h : 20 ≤ b) (hb : b < 2 ^ 31) : zAt f (nI b) y = -1 := by
  unfold zAt
  rw [if_neg (nI_pos hb), if_pos (nI_le h hb)]
theorem zAt_ym {f : Nat → Int32} {b : Nat} (hb : b < 20) : zAt f (nI b) (nI 0 - 1) = -1 := by
  unfold zAt
  have h : ((nI 0 - 1) * nI 20 + nI b < 0) := (by decide : ∀ b : Fin 20, ((nI 0 - 1) * nI 20 + nI b.1 < 0)) ⟨b, hb⟩
  rw [if_neg (nI_pos (by omega)), if_neg (nI_ge hb (by decide)), if_pos h]
theorem zPutG_n {f : Nat → Int32} {b y : Nat} {v : Int32} (hb : b < 20) (hy : y < 16) : zPutG f (nI b) (nI y) v = upd f (20 * y + b) v := by
  unfold zPutG
  have e : nI y * nI 20 + nI b = nI (20 * y + b) := by rw [pk_mul, nI_add, Nat.mul_comm]
  rw [e, if_neg (nI_pos (by omega)), if_neg (nI_ge hb (by decide)), if_neg (nI_pos (by omega)), if_neg (nI_ge (by omega) (by decide)), nI_clamp (by omega)]
theorem zPutN_n {n : Nat} {f : Nat → Int32} {k : Nat} {v : Int32} (hk : k < n) (hn : n < 2 ^ 31) : zPutN n f (nI k) v = upd f k v := by
  unfold zPutN
  rw [if_neg (nI_pos (by omega)), if_neg (nI_ge hk hn), nI_clamp (by omega)]
theorem zSh_n {f : Nat → UInt32} {k : Nat} (hk : k < 16) : zSh f (nI k) = f k := by
  unfold zSh
  rw [if_neg (nI_pos (by omega)), if_neg (nI_ge hk (by decide)), nI_clamp (by omega)]
theorem zPutS_n {f : Nat → UInt32} {k : Nat} {v : UInt32} (hk : k < 16) : zPutS f (nI k) v = vf_upd f k v := by
  unfold zPutS
  rw [if_neg (nI_pos (by omega)), if_neg (nI_ge hk (by decide)), nI_clamp (by omega)]
theorem zSN_cg {f g : Nat → Nat} : ∀ {n : Nat}, (∀ y, y < n → f y = g y) → zSN f n = zSN g n
  | 0, _ => rfl
  | n + 1, h => by
    show zSN f n + f n = zSN g n + g n
    rw [zSN_cg (n := n) fun y hy => h y (by omega), h n (by omega)]
theorem zSm_cg {f g : Nat → Int32} : ∀ {n : Nat}, (∀ y, y < n → f y = g y) → zSm f n = zSm g n
  | 0, _ => rfl
  | n + 1, h => by
    show zSm f n + f n = zSm g n + g n
    rw [zSm_cg (n := n) fun y hy => h y (by omega), h n (by omega)]
theorem zMx_cg {f g : Nat → Nat} : ∀ {n : Nat}, (∀ y, y < n → f y = g y) → zMx f n = zMx g n
  | 0, _ => rfl
  | n + 1, h => by
    show max (zMx f n) (f n) = max (zMx g n) (g n)
    rw [zMx_cg (n := n) fun y hy => h y (by omega), h n (by omega)]
theorem zIt_cg {α : Type} {f g : Nat → α → α} {s : α} : ∀ {n : Nat}, (∀ y, y < n → ∀ q, f y q = g y q) → zIt f n s = zIt g n s
  | 0, _ => rfl
  | n + 1, h => by
    show f n (zIt f n s) = g n (zIt g n s)
    rw [zIt_cg (n := n) fun y hy => h y (by omega), h n (by omega)]
theorem rAny_ct {P : Nat → Bool} : ∀ n : Nat, rAny P n = decide (0 < zCt P n)
  | 0 => rfl
  | n + 1 => by
    show (rAny P n || P n) = decide (0 < zCt P n + (if P n then 1 else 0))
    rw [rAny_ct n]
    cases h : P n
    · simp
    · simp
/-- a row of a grid is the row L -/
def zRL (f : Nat → Int32) (y c : Nat) (L : Nat → Int32) : Prop := y < 16 ∧ c ≤ 20 ∧ ∀ b, b < c → f (20 * y + b) = L b ∧ ¬ L b = -1
theorem zRL.at {f L : Nat → Int32} {y c b : Nat} (h : zRL f y c L) (hb : b < c) : zAt f (nI b) (nI y) = L b := by
  have h2 := h.2.1
  rw [zAt_n (by omega) h.1]
  exact (h.2.2 b hb).1
theorem zRL.st {f L : Nat → Int32} {y c b : Nat} (h : zRL f y c L) (hb : b < c) : zSt f (nI b) (nI y) = rBeg L b := by
  unfold zSt rBeg
  rw [h.at hb]
  cases b with
  | zero => rw [zAt_m]; simp [(h.2.2 0 hb).2]
  | succ k => rw [nI_pred, h.at (by omega)]; simp
theorem zRL.ru {f L : Nat → Int32} {y c : Nat} (h : zRL f y c L) : zRu f (nI y) c = zCt (rBeg L) c := zCt_cg fun _ hb => h.st hb
theorem zRL.ce {f L : Nat → Int32} {y c : Nat} {v : Int32} (h : zRL f y c L) : zCe f v (nI y) c = zCt (fun b => L b == v) c := zCt_cg fun b hb => by
  show (zAt f (nI b) (nI y) == v) = _
  rw [h.at hb]
theorem zRL.ro {f L : Nat → Int32} {y c : Nat} {v : Int32} (h : zRL f y c L) (hv : ¬ v = -1) : zRo f v (nI y) c = zCt (fun b => L b == v && rBeg L b) c := zCt_cg fun b hb => by
  show (zAt f (nI b) (nI y) == v && !(zAt f (nI b - 1) (nI y) == v)) = _
  rw [h.at hb]
  unfold rBeg
  cases b with
  | zero =>
    rw [zAt_m]
    have : ((-1 : Int32) == v) = false := by simpa using fun q : (-1 : Int32) = v => hv q.symm
    simp [this]
  | succ k =>
    rw [nI_pred, h.at (by omega)]
    by_cases e : L (k + 1) = v
    · subst e
      by_cases e2 : L k = L (k + 1)
      · simp [e2]
      · have e3 : ¬ L (k + 1) = L k := fun q => e2 q.symm
        rw [show (L k == L (k + 1)) = false from by simpa using e2, show k + 1 - 1 = k from rfl, show (L (k + 1) == L k) = false from by simpa using e3]
        rfl
    · rw [show (L (k + 1) == v) = false from by simpa using e]
      rfl
theorem zRL.un {f L : Nat → Int32} {y c : Nat} {v : Int32} (h : zRL f y c L) (hv : ¬ v = -1) : zUn f v c y = zCt (fun b => L b == v) c + zCt (fun b => L b == v && rBeg L b) c := by
  unfold zUn
  rw [h.ce, h.ro hv]
theorem zRL.wc {f g L M : Nat → Int32} {y c : Nat} (h : zRL f y c L) (k : zRL g y c M) : zWc9 f g (nI y) c = zCt (fun b => !(L b == M b)) c := zCt_cg fun b hb => by
  unfold zWr
  rw [h.at hb, k.at hb]
theorem nI_m1' {v : Nat} (h : v < 2 ^ 31) : ¬ nI v = -1 := fun q => nI_m1 h q
/-- lots in a row -/
theorem zRL.lr {f L : Nat → Int32} {y c n : Nat} (h : zRL f y c L) : zLr f (nI y) c n = zCt (fun l => rAny (fun b => L b == nI l) c) n := zCt_cg fun l _ => by
  show decide (0 < zCe f (nI l) (nI y) c) = _
  rw [h.ce, rAny_ct]
/-- a count over what is left of a row -/
def zC2 (p : Nat → Bool) : Nat → Nat → Nat
  | _, 0 => 0
  | a, d + 1 => (if p a then 1 else 0) + zC2 p (a + 1) d
theorem zC2_s (p : Nat → Bool) : ∀ (d a : Nat), zCt p (a + d) = zCt p a + zC2 p a d
  | 0, a => rfl
  | d + 1, a => by
    rw [show a + (d + 1) = (a + 1) + d from by omega, zC2_s p d (a + 1)]
    show zCt p a + (if p a then 1 else 0) + _ = zCt p a + ((if p a then 1 else 0) + _)
    omega
theorem zC2_0 (p : Nat → Bool) (c : Nat) : zCt p c = zC2 p 0 c := by
  have := zC2_s p c 0
  rw [Nat.zero_add] at this
  rw [this]
  show 0 + _ = _
  omega
/-- new shuttles: runs told by their starts, and by their ends -/
theorem zNs_e {L : Nat → Int32} {Nw M beg old en : Nat → Bool} {c : Nat} (hN : ∀ a, a < c → Nw a = (!M a && (en a || Nw (a + 1)))) (hO : ∀ a, old (a + 1) = ((!beg a && old a) || M a)) (hE : ∀ a, a < c → en a = (a + 1 == c || beg (a + 1))) : ∀ (d a : Nat), a + d = c → zC2 (fun b => en b && !old (b + 1)) a d = zC2 (fun b => beg b && Nw b) a d + (if a < c ∧ beg a = false ∧ old a = false ∧ Nw a = true then 1 else 0)
  | 0, a, h => by
    rw [if_neg (by omega)]
    rfl
  | d + 1, a, h => by
    have ih := zNs_e (L := L) hN hO hE d (a + 1) (by omega)
    show (if (en a && !old (a + 1)) then 1 else 0) + zC2 _ (a + 1) d = (if (beg a && Nw a) then 1 else 0) + zC2 _ (a + 1) d + _
    rw [ih, hN a (by omega), hO a]
    have e := hE a (by omega)
    by_cases hc : a + 1 = c
    · have e1 : en a = true := by rw [e]; simp [hc]
      rw [if_neg (by omega : ¬ (a + 1 < c ∧ _))]
      rw [e1]
      have e4 : a < c := by omega
      cases beg a <;> cases old a <;> cases M a <;> simp [e4] <;> omega
    · have e1 : en a = beg (a + 1) := by rw [e]; simp [hc]
      have e3 : a + 1 < c := by omega
      have e4 : a < c := by omega
      rw [e1]
      cases beg a <;> cases old a <;> cases M a <;> cases beg (a + 1) <;> cases Nw (a + 1) <;> simp [e3, e4] <;> omega
theorem zNr_e {f L : Nat → Int32} {y c : Nat} (h : zRL f y c L) {M : Nat → Bool} (hM : ∀ b, b < c → decide (zAt f (nI b) (nI y - 1) = L b) = M b) {v : Int32} : ∀ (d a : Nat), a + d = c → (∀ b, b < c → L b = v → decide (zAt f (nI b) (nI y - 1) = v) = M b) → zNr f (nI y) v a d = (if d = 0 then true else if L a = v then (!M a && zNr f (nI y) v (a + 1) (d - 1)) else true)
  | 0, _, _, _ => rfl
  | d + 1, a, e, hv => by
    rw [if_neg (by omega)]
    show (if zAt f (nI a) (nI y) = v then _ else true) = _
    rw [h.at (by omega)]
    by_cases q : L a = v
    · rw [if_pos q, if_pos q]
      have := hv a (by omega) q
      by_cases r : zAt f (nI a) (nI y - 1) = v
      · rw [if_pos r]
        rw [decide_eq_true r] at this
        rw [← this]
        rfl
      · rw [if_neg r]
        rw [decide_eq_false r] at this
        rw [← this]
        rfl
    · rw [if_neg q, if_neg q]
theorem zRL.ns {f L : Nat → Int32} {s : Nat → Int32} {y c : Nat} (h : zRL f y c L) (hp : ∀ b, b < c → decide (zAt f (nI b) (nI y - 1) = L b) = (decide (0 < y) && rW s (y - 1) b == L b)) : zNs f (nI y) c = rFre s L c y := by
  unfold zNs rFre
  have hN : ∀ a, a < c → zNr f (nI y) (zAt f (nI a) (nI y)) a (c - a) = (!(decide (0 < y) && rW s (y - 1) a == L a) && (rEnd L c a || zNr f (nI y) (zAt f (nI (a + 1)) (nI y)) (a + 1) (c - (a + 1)))) := by
    intro a ha
    rw [h.at ha, zNr_e h hp (c - a) a (by omega) (fun b hb q => by rw [← q]; exact hp b hb), if_neg (by omega), if_pos rfl]
    refine congrArg _ ?_
    unfold rEnd
    by_cases e : a + 1 = c
    · rw [show c - a - 1 = 0 from by omega]
      simp [e]
      rfl
    · have e3 : (a + 1 == c) = false := by simpa using e
      rw [e3, Bool.false_or, h.at (by omega), show c - a - 1 = c - (a + 1) from by omega]
      by_cases e2 : L (a + 1) = L a
      · rw [e2]
        simp
      · have e4 : (L (a + 1) == L a) = false := by simpa using e2
        rw [e4, zNr_e h hp (c - (a + 1)) (a + 1) (by omega) (fun b hb q => by rw [← q]; exact hp b hb), if_neg (by omega), if_neg e2]
        rfl
  have key := zNs_e (L := L) (Nw := fun a => zNr f (nI y) (zAt f (nI a) (nI y)) a (c - a)) (M := fun a => decide (0 < y) && rW s (y - 1) a == L a) (beg := rBeg L) (old := rOl s L y) (en := rEnd L c) (c := c) hN (fun a => rfl) (fun a ha => by unfold rEnd rBeg; simp) c 0 (by omega)
  rw [if_neg (fun q => by have := q.2.1; simp [rBeg] at this)] at key
  rw [zC2_0, zC2_0, key, Nat.add_zero]
  rw [← zC2_0, ← zC2_0]
  exact zCt_cg fun b hb => by rw [h.st hb]
