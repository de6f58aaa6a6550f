/-! slits -/
theorem zRl_room {wov : Nat → Int32} {c w b a : Nat} : zRl wov c w (nI b) a ≤ w - a := by
  unfold zRl
  split
  · omega
  · exact zLn_le _ _ _
theorem pSc_le (wov : Nat → Int32) {c w : Nat} (lm : Nat) (hc : c ≤ 20) (hw : w ≤ 16) : zSc wov c w lm ≤ 320 := by
  unfold zSc
  refine Nat.le_trans (zSN_mono (g := fun _ => w) fun b _ => zCt_le _ _) ?_
  rw [zSN_const, Nat.mul_comm]
  exact Nat.mul_le_mul hc hw
theorem pSc_anti (wov : Nat → Int32) (c w : Nat) {a b : Nat} (h : a ≤ b) : zSc wov c w b ≤ zSc wov c w a := by
  unfold zSc
  refine zSN_mono fun x _ => zCt_mono fun y _ q => ?_
  have := of_decide_eq_true q
  exact decide_eq_true (by omega)
/-- the places of the slits, in their order -/
abbrev pL (wov : Nat → Int32) (c w lm : Nat) : List (Nat × Nat) := zSL (zSlP wov c w lm) c w
def pB (wov : Nat → Int32) (c w lm k : Nat) : Nat := ((pL wov c w lm).getD k (0, 0)).1
def pY (wov : Nat → Int32) (c w lm k : Nat) : Nat := ((pL wov c w lm).getD k (0, 0)).2
theorem pL_at {wov : Nat → Int32} {c w lm k : Nat} (hk : k < zSc wov c w lm) : (pL wov c w lm)[k]? = some (pB wov c w lm k, pY wov c w lm k) ∧ pB wov c w lm k < c ∧ pY wov c w lm k < w ∧ lm < zRl wov c w (nI (pB wov c w lm k)) (pY wov c w lm k) := by
  rw [zSc_l] at hk
  obtain ⟨b, y, h1, h2, h3, h4, h5⟩ := zSL_at hk
  unfold pB pY
  rw [h2]
  exact ⟨h1, h3, h4, of_decide_eq_true h5⟩
/-- the place of the slit of a number, as the class tells it -/
theorem pPlace {wov : Nat → Int32} {c w lm k : Nat} (hc : c ≤ 20) (hw : w ≤ 16) (hk : k < zSc wov c w lm) : zSp wov c w lm (nI k) = nI (16 * pB wov c w lm k + pY wov c w lm k) ∧ ¬ zSp wov c w lm (nI k) = -1 ∧ zSp wov c w lm (nI k) / nI 16 = nI (pB wov c w lm k) ∧ zSp wov c w lm (nI k) - zSp wov c w lm (nI k) / nI 16 * nI 16 = nI (pY wov c w lm k) := by
  obtain ⟨h1, h2, h3, -⟩ := pL_at hk
  have h0 : k < 2 ^ 31 := by have := pSc_le wov lm hc hw; omega
  have e : zSp wov c w lm (nI k) = nI (16 * pB wov c w lm k + pY wov c w lm k) := by rw [zSp_k hc hw h0, h1]
  rw [e, pk_div (by omega) (by decide) (by decide), pk_mul, show (16 * pB wov c w lm k + pY wov c w lm k) / 16 = pB wov c w lm k by omega, pk_sub (by omega), show 16 * pB wov c w lm k + pY wov c w lm k - pB wov c w lm k * 16 = pY wov c w lm k by omega]
  exact ⟨rfl, fun q => nI_m1 (by omega) q, rfl, rfl⟩
theorem pNoPlace {wov : Nat → Int32} {c w lm k : Nat} (hc : c ≤ 20) (hw : w ≤ 16) (hk2 : k < 2 ^ 31) (hk : zSc wov c w lm ≤ k) : zSp wov c w lm (nI k) = -1 := k_noplace hc hw hk2 (by rw [← zSc_l]; exact hk)
/-- one behind the other: by b, then by their first rows -/
theorem pFil_ord {P : Nat → Bool} {b : Nat} : ∀ w : Nat, (((List.range w).filter P).map fun y => (b, y)).Pairwise (fun x z => x.1 = z.1 ∧ x.2 < z.2)
  | 0 => List.Pairwise.nil
  | w + 1 => by
    rw [List.range_succ, List.filter_append, List.map_append, List.pairwise_append]
    refine ⟨pFil_ord w, ?_, ?_⟩
    · cases h : P w <;> simp [h]
    · intro x hx z hz
      simp only [List.mem_map, List.mem_filter, List.mem_range, List.mem_singleton] at hx hz
      obtain ⟨y, ⟨h1, h2⟩, rfl⟩ := hx
      obtain ⟨u, ⟨rfl, h3⟩, rfl⟩ := hz
      exact ⟨rfl, h1⟩
theorem zSL_ord {P : Nat → Nat → Bool} {w : Nat} (hw : w ≤ 20) : ∀ c : Nat, (zSL P c w).Pairwise (fun x z => 20 * x.1 + x.2 < 20 * z.1 + z.2)
  | 0 => List.Pairwise.nil
  | c + 1 => by
    rw [zSL_s, List.pairwise_append]
    refine ⟨zSL_ord hw c, (pFil_ord w).imp fun {x z} h => by rw [h.1]; omega, ?_⟩
    intro x hx z hz
    obtain ⟨b, y⟩ := x
    obtain ⟨h1, h2, -⟩ := zSL_mem.mp hx
    simp only [List.mem_map, List.mem_filter, List.mem_range] at hz
    obtain ⟨u, ⟨h3, h4⟩, rfl⟩ := hz
    show 20 * b + y < 20 * c + u
    omega
theorem pOrd {wov : Nat → Int32} {c w lm k : Nat} (hw : w ≤ 16) (hk : k + 1 < zSc wov c w lm) : 20 * pB wov c w lm k + pY wov c w lm k < 20 * pB wov c w lm (k + 1) + pY wov c w lm (k + 1) := by
  have h1 := (pL_at (wov := wov) (c := c) (w := w) (lm := lm) (k := k) (by omega)).1
  have h2 := (pL_at hk).1
  have h := List.pairwise_iff_getElem.mp (zSL_ord (P := zSlP wov c w lm) (w := w) (by omega) c)
  rw [zSc_l] at hk
  have a1 := Option.some.inj ((List.getElem?_eq_getElem (show k < (pL wov c w lm).length from Nat.lt_of_succ_lt hk)).symm.trans h1)
  have a2 := Option.some.inj ((List.getElem?_eq_getElem hk).symm.trans h2)
  have := h k (k + 1) (Nat.lt_of_succ_lt hk) hk (by omega)
  rw [a1, a2] at this
  exact this
theorem pOrdLt {wov : Nat → Int32} {c w lm j k : Nat} (hw : w ≤ 16) (hk : k < zSc wov c w lm) (hj : j < k) : 20 * pB wov c w lm j + pY wov c w lm j < 20 * pB wov c w lm k + pY wov c w lm k := by
  obtain ⟨d, rfl⟩ : ∃ d, k = j + 1 + d := ⟨k - (j + 1), by omega⟩
  clear hj
  induction d with
  | zero => exact pOrd hw hk
  | succ d ih => exact Nat.lt_trans (ih (by omega)) (pOrd (k := j + 1 + d) hw hk)
theorem zCt_upd {p : Nat → Bool} {k : Nat} (h : p k = false) : ∀ n, zCt (fun j => if j = k then true else p j) n = zCt p n + (if k < n then 1 else 0)
  | 0 => by rw [if_neg (by omega)]; rfl
  | n + 1 => by
    show zCt _ n + (if (if n = k then true else p n) then 1 else 0) = zCt p n + (if p n then 1 else 0) + _
    rw [zCt_upd h n]
    by_cases q : n = k
    · subst q
      simp [h]
    · simp only [if_neg q]
      have e : (k < n + 1) = (k < n) := propext ⟨fun z => by omega, fun z => by omega⟩
      simp only [e]
      omega
/-- what is sewn lies at the slits -/
theorem pSe.at {wov sew : Nat → Int32} {c w lim b y : Nat} (h : pSe wov sew c w lim) (hb : b < 20) (hy : y < 16) : (zAt sew (nI b) (nI y) == 1) = (sew (20 * y + b) == 1) := by rw [zAt_n hb hy]
theorem pSe.no {wov sew : Nat → Int32} {c w lim b y : Nat} (h : pSe wov sew c w lim) (hb : b < 20) (hy : y < 16) (hn : ¬ (b < c ∧ y < w ∧ zSlP wov c w lim b y = true)) : (zAt sew (nI b) (nI y) == 1) = false := by
  rw [h.at hb hy]
  rcases h b y hb hy with e | ⟨e, h1, h2, h3⟩
  · rw [e]; decide
  · exact absurd ⟨h1, h2, decide_eq_true h3⟩ hn
def pSs (wov sew : Nat → Int32) (c w lm k : Nat) : Bool := zAt sew (nI (pB wov c w lm k)) (nI (pY wov c w lm k)) == 1
theorem zSL_sum2 (P : Nat → Nat → Bool) (g : Nat → Nat → Nat) (w c : Nat) : zSN (fun b => zSN (fun y => if P b y then g b y else 0) w) c = zSN (fun k => g ((zSL P c w).getD k (0, 0)).1 ((zSL P c w).getD k (0, 0)).2) (zSL P c w).length := by
  rw [zSL_sum, zSN_list (zSL P c w) (0, 0) (fun x => g x.1 x.2)]
/-- a sum over all places, where what is sewn lies at slits -/
theorem pSew_sum {wov sew : Nat → Int32} {c w lim : Nat} (h : pSe wov sew c w lim) (hc : c ≤ 20) (hw : w ≤ 16) (g : Nat → Nat → Nat) : zSN (fun b => zSN (fun y => if zAt sew (nI b) (nI y) == 1 then g b y else 0) w) c = zSN (fun k => if pSs wov sew c w lim k then g (pB wov c w lim k) (pY wov c w lim k) else 0) (zSc wov c w lim) := by
  rw [zSc_l]
  have := zSL_sum2 (zSlP wov c w lim) (fun b y => if zAt sew (nI b) (nI y) == 1 then g b y else 0) w c
  unfold pSs pB pY
  rw [← this]
  refine zSN_cg fun b hb => zSN_cg fun y hy => ?_
  by_cases q : zSlP wov c w lim b y = true
  · rw [if_pos q]
  · rw [if_neg q, h.no (by omega) (by omega) fun z => q z.2.2]
    rfl
/-- rows behind the woven ones have nothing sewn -/
theorem pSewn {wov sew : Nat → Int32} {c r w lim : Nat} (h : pSe wov sew c w lim) (hc : c ≤ 20) (hr : r ≤ 16) (hw : w ≤ r) : zCi sew 1 c r = zCt (pSs wov sew c w lim) (zSc wov c w lim) := by
  have e1 : zCi sew 1 c r = zSN (fun y => zCe sew 1 (nI y) c) w := by
    unfold zCi
    obtain ⟨d, rfl⟩ : ∃ d, r = w + d := ⟨r - w, by omega⟩
    rw [zSN_split, zSN_cg (f := fun j => zCe sew 1 (nI (w + j)) c) (g := fun _ => 0) fun j hj => ?_, zSN_0]
    · rfl
    · unfold zCe
      rw [zCt_cg (Q := fun _ => false) fun b hb => h.no (by omega) (by omega) fun z => by omega]
      rw [zCt_SN]
      simp [zSN_const]
  rw [e1]
  unfold zCe
  rw [zSN_cg (g := fun y => zSN (fun b => if zAt sew (nI b) (nI y) == 1 then 1 else 0) c) fun y _ => zCt_SN _ _, zSN_swap, pSew_sum h hc (by omega) (fun _ _ => 1), zCt_SN]
theorem pSewnRows {wov sew : Nat → Int32} {c w lim : Nat} (h : pSe wov sew c w lim) (hc : c ≤ 20) (hw : w ≤ 16) : zSr wov sew c w = zSN (fun k => if pSs wov sew c w lim k then zRl wov c w (nI (pB wov c w lim k)) (pY wov c w lim k) else 0) (zSc wov c w lim) := pSew_sum h hc hw fun b y => zRl wov c w (nI b) y
/-- seams that can be seen are seams -/
theorem zGt_2_1 {x : UInt32} (h : zPos x ∨ x = 3212836864) : zGt x (zFb 1073741824) = true → zGt x 3212836864 = true := by
  rcases h with h | rfl
  · exact fun _ => zGt_m1r h
  · intro q
    rw [show zGt 3212836864 (zFb 1073741824) = false by decide +kernel] at q
    cases q
theorem zGp_or {wov lot : Nat → Int32} {shd : Nat → UInt32} {c w : Nat} {b y b2 y2 : Int32} (hs : ∀ j, zFinS (shd j)) : zPos (zGp wov lot shd c w b y b2 y2) ∨ zGp wov lot shd c w b y b2 y2 = 3212836864 := by
  unfold zGp
  split
  · exact Or.inl (fp_df (zSh_ok hs _) (zSh_ok hs _))
  · exact Or.inr rfl
theorem pGa_le {wov lot : Nat → Int32} {shd : Nat → UInt32} {c w : Nat} (hs : ∀ j, zFinS (shd j)) : zGa wov lot shd c w (zFb 1073741824) ≤ zGa wov lot shd c w 3212836864 := by
  unfold zGa
  have key : ∀ x : UInt32, (zPos x ∨ x = 3212836864) → (if zGt x (zFb 1073741824) then 1 else 0) ≤ (if zGt x 3212836864 then 1 else 0) := fun x h => by
    cases q : zGt x (zFb 1073741824)
    · exact Nat.zero_le _
    · rw [zGt_2_1 h q]
      exact Nat.le_refl _
  refine zSN_mono fun y _ => zSN_mono fun b _ => Nat.add_le_add (key _ ?_) (key _ ?_)
  · exact zGp_or hs
  · exact zGp_or hs
theorem pGa_small (wov lot : Nat → Int32) (shd : Nat → UInt32) {c w : Nat} (t : UInt32) (hc : c ≤ 20) (hw : w ≤ 16) : zGa wov lot shd c w t ≤ 640 := by
  unfold zGa
  refine Nat.le_trans (zSN_mono (g := fun _ => 40) fun y _ => Nat.le_trans (zSN_mono (g := fun _ => 2) fun b _ => ?_) (by rw [zSN_const]; omega)) (by rw [zSN_const]; omega)
  split <;> split <;> omega
