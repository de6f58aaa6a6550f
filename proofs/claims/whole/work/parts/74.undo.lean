/-! what can be undone is the same on both sides -/
theorem zRe_cg {c r w lim : Nat} {tol : Int32} {cart wov lot sew mis cart' wov' lot' sew' mis' : Nat → Int32} {cnt : Nat} {col len lef sbt col' len' lef' sbt' : Nat → Int32} {shd shd' : Nat → UInt32} {s s' : Nat → Int32} (h : zRe c r w lim tol cart wov lot sew mis cnt col len lef sbt shd s) (es : ∀ j, j < 1371 → s' j = s j) (e1 : ∀ j, j < 320 → cart' j = cart j) (e2 : ∀ j, j < 320 → wov' j = wov j) (e3 : ∀ j, j < 320 → lot' j = lot j) (e4 : ∀ j, j < 320 → sew' j = sew j) (e5 : ∀ j, j < 20 → mis' j = mis j) (e6 : ∀ j, j < 16 → col' j = col j) (e7 : ∀ j, j < 16 → len' j = len j) (e8 : ∀ j, j < 16 → lef' j = lef j) (e9 : ∀ j, j < 16 → sbt' j = sbt j) (ea : ∀ j, j < 16 → shd' j = shd j) (hf : ∀ j, zFinS (shd' j)) : zRe c r w lim tol cart' wov' lot' sew' mis' cnt col' len' lef' sbt' shd' s' := by
  obtain ⟨hM, h1, ⟨h5, h5v⟩, hC, hW, hL, hS, hMi, hQ, hN, hs, h6⟩ := h
  obtain ⟨m0, m1, m2, m3, m4, hc1, hc20, hr1, hr16, hw, hn, hl⟩ := hM
  have kW : ∀ y b, y < w → b < c → rW s' y b = rW s y b := fun y b hy hb => es _ (by omega)
  have kY : ∀ y b, y < w → b < c → rY s' y b = rY s y b := fun y b hy hb => es _ (by omega)
  have hW' : zWW wov' s' c w := hW.cg (fun y b hy hb => e2 _ (by omega)) kW
  refine ⟨⟨by rw [es _ (by decide)]; exact m0, by rw [es _ (by decide)]; exact m1, by rw [es _ (by decide)]; exact m2, by rw [es _ (by decide)]; exact m3, by rw [es _ (by decide)]; exact m4, hc1, hc20, hr1, hr16, hw, hn, hl⟩, h1, ⟨by rw [es _ (by decide)]; exact h5, h5v⟩, ⟨hc20, hr16, fun y b hy hb => ?_⟩, hW', fun y b hy hb => ?_, fun b y hb hy => ?_, fun b hb => ?_, fun k hk => ?_, hN.cg (fun j _ _ => es _ (by omega)) kY, hf, by rw [es _ (by decide)]; exact h6⟩
  · have k : rD s' c y b = rD s c y b := es _ (by omega)
    rw [k, e1 _ (by omega)]
    exact hC.2.2 y b hy hb
  · rw [kY y b hy hb, e3 _ (by omega)]
    exact hL y b hy hb
  · rw [e4 _ (by omega), es _ (by omega)]
    refine ⟨(hS b y hb hy).1, ?_⟩
    rcases (hS b y hb hy).2 with q | ⟨q1, q2, q3, q4⟩
    · exact Or.inl q
    · exact Or.inr ⟨q1, q2, q3, by rw [zSlP_cg hW hW' kW hb q3]; exact q4⟩
  · rw [e5 _ hb, es _ (by omega)]
    exact hMi b hb
  · rw [e6 _ hk, e7 _ hk, e8 _ hk, e9 _ hk, ea _ hk, es _ (by omega), es _ (by omega), es _ (by omega), es _ (by omega)]
    exact hQ k hk
def zFin4 (S : zS) : Prop := ∀ j, zFinS (S.2.2.2.2.2.2.2.2.2.2.2.2.2.2.2 j)
theorem zRel.fin {S : zS} {s : Nat → Int32} (h : zRel S s) : zFin4 S := h.2.2.2.2.2.2.2.2.2.2.1
theorem zCp_fin {S S1 : zS} (h : zFin4 S) (h1 : zFin4 S1) : zFin4 (zCp S S1) := fun j => by
  show zFinS (if j < 16 then S.2.2.2.2.2.2.2.2.2.2.2.2.2.2.2 j else S1.2.2.2.2.2.2.2.2.2.2.2.2.2.2.2 j)
  split
  · exact h j
  · exact h1 j
theorem zCp_rel {S S1 : zS} {s s' : Nat → Int32} (h : zRel S s) (h1 : zFin4 S1) (es : ∀ j, j < 1371 → s' j = s j) : zRel (zCp S S1) s' := by
  have hf := zCp_fin h.fin h1
  obtain ⟨c, r, w, lim, tol, cart, wov, lot, sew, mis, cnt, col, len, lef, sbt, shd⟩ := S
  obtain ⟨c1, r1, w1, lim1, tol1, cart1, wov1, lot1, sew1, mis1, cnt1, col1, len1, lef1, sbt1, shd1⟩ := S1
  have h' : zRe c r w lim tol cart wov lot sew mis cnt col len lef sbt shd s := h
  have hf' : ∀ j, zFinS (zFl shd shd1 16 j) := hf
  have e : zCp (c, r, w, lim, tol, cart, wov, lot, sew, mis, cnt, col, len, lef, sbt, shd) (c1, r1, w1, lim1, tol1, cart1, wov1, lot1, sew1, mis1, cnt1, col1, len1, lef1, sbt1, shd1) = (c, r, w, lim, tol, zFl cart cart1 320, zFl wov wov1 320, zFl lot lot1 320, zFl sew sew1 320, zFl mis mis1 20, cnt, zFl col col1 16, zFl len len1 16, zFl lef lef1 16, zFl sbt sbt1 16, zFl shd shd1 16) := rfl
  rw [e, zRel_t]
  exact zRe_cg h' es (fun j hj => zFl_in hj) (fun j hj => zFl_in hj) (fun j hj => zFl_in hj) (fun j hj => zFl_in hj) (fun j hj => zFl_in hj) (fun j hj => zFl_in hj) (fun j hj => zFl_in hj) (fun j hj => zFl_in hj) (fun j hj => zFl_in hj) (fun j hj => zFl_in hj) hf'
/-- the looms that were saved -/
def zSlot (sa sb sc sd : zS) (j : Nat) : zS := if j = 0 then sa else if j = 1 then sb else if j = 2 then sc else sd
def zHist (sa sb sc sd : zS) (hcn hnx : Nat) (past : Nat → Int32) : Prop := hcn ≤ 4 ∧ hnx < 4 ∧ (∀ j, j < 4 → zFin4 (zSlot sa sb sc sd j)) ∧ ∀ i, i < hcn → zRel (zSlot sa sb sc sd ((hnx + 4 - hcn + i) % 4)) (fun k => past (1371 * i + k))
theorem zRel.cg {S : zS} {s s' : Nat → Int32} (h : zRel S s) (es : ∀ j, j < 1371 → s' j = s j) : zRel S s' := by
  obtain ⟨c, r, w, lim, tol, cart, wov, lot, sew, mis, cnt, col, len, lef, sbt, shd⟩ := S
  have h' : zRe c r w lim tol cart wov lot sew mis cnt col len lef sbt shd s := h
  rw [zRel_t]
  exact zRe_cg h' es (fun _ _ => rfl) (fun _ _ => rfl) (fun _ _ => rfl) (fun _ _ => rfl) (fun _ _ => rfl) (fun _ _ => rfl) (fun _ _ => rfl) (fun _ _ => rfl) (fun _ _ => rfl) (fun _ _ => rfl) h.fin
theorem k_save {S sa sb sc sd : zS} {hcn hnx : Nat} {s past aside : Nat → Int32} (h : zRel S s) (hh : zHist sa sb sc sd hcn hnx past) : zHist (if hnx = 0 then zCp S sa else sa) (if hnx = 1 then zCp S sb else sb) (if hnx = 2 then zCp S sc else sc) (if hnx = 3 then zCp S sd else sd) (min (hcn + 1) 4) ((hnx + 1) % 4) (rSv past (zFl s aside 1371) hcn) := by
  obtain ⟨h4, hx, hf, hr⟩ := hh
  have es : ∀ j, j < 4 → zSlot (if hnx = 0 then zCp S sa else sa) (if hnx = 1 then zCp S sb else sb) (if hnx = 2 then zCp S sc else sc) (if hnx = 3 then zCp S sd else sd) j = if hnx = j then zCp S (zSlot sa sb sc sd j) else zSlot sa sb sc sd j := by
    intro j hj
    rcases (show j = 0 ∨ j = 1 ∨ j = 2 ∨ j = 3 by omega) with rfl | rfl | rfl | rfl
    · rfl
    · rfl
    · rfl
    · rfl
  refine ⟨by omega, by omega, fun j hj => ?_, fun i hi => ?_⟩
  · rw [es j hj]
    split
    · exact zCp_fin h.fin (hf j hj)
    · exact hf j hj
  · have hm : ((hnx + 1) % 4 + 4 - min (hcn + 1) 4 + i) % 4 < 4 := Nat.mod_lt _ (by decide)
    rw [es _ hm]
    unfold rSv
    by_cases q : hcn = 4
    · subst q
      rw [if_pos rfl]
      by_cases z : i = 3
      · subst z
        rw [if_pos (by omega)]
        refine zCp_rel h (hf _ hm) fun j hj => ?_
        show zFa (1371 * 3) (zFl s aside 1371) _ 1371 (1371 * 3 + j) = _
        unfold zFa
        rw [if_pos (by omega), show 1371 * 3 + j - 1371 * 3 = j by omega, zFl_in hj]
      · rw [if_neg (by omega)]
        have e := hr (i + 1) (by omega)
        rw [show (hnx + 4 - 4 + (i + 1)) % 4 = ((hnx + 1) % 4 + 4 - min (4 + 1) 4 + i) % 4 by omega] at e
        refine e.cg fun j hj => ?_
        show zFa (1371 * 3) (zFl s aside 1371) (zFl (fun k => past (k + 1371)) past 4113) 1371 (1371 * i + j) = past (1371 * (i + 1) + j)
        rw [zFa_lo (by omega), zFl_in (by omega)]
        exact congrArg past (by omega)
    · rw [if_neg q]
      by_cases z : i = hcn
      · subst z
        rw [if_pos (by omega)]
        refine zCp_rel h (hf _ hm) fun j hj => ?_
        show zFa (1371 * i) (zFl s aside 1371) past 1371 (1371 * i + j) = _
        unfold zFa
        rw [if_pos (by omega), show 1371 * i + j - 1371 * i = j by omega, zFl_in hj]
      · rw [if_neg (by omega)]
        have e := hr i (by omega)
        rw [show (hnx + 4 - hcn + i) % 4 = ((hnx + 1) % 4 + 4 - min (hcn + 1) 4 + i) % 4 by omega] at e
        refine e.cg fun j hj => ?_
        show zFa (1371 * hcn) (zFl s aside 1371) past 1371 (1371 * i + j) = past (1371 * i + j)
        rw [zFa_lo (by omega)]
theorem k_undo {S sa sb sc sd : zS} {hcn hnx : Nat} {s past : Nat → Int32} (hf4 : zFin4 S) (hh : zHist sa sb sc sd hcn hnx past) (h0 : 0 < hcn) : zRel (zCp (if hnx = 1 then sa else if hnx = 2 then sb else if hnx = 3 then sc else sd) S) (zFl (fun k => past (1371 * (hcn - 1) + k)) s 1371) ∧ zHist sa sb sc sd (hcn - 1) ((hnx + 3) % 4) past := by
  obtain ⟨h4, hx, hf, hr⟩ := hh
  have el : (if hnx = 1 then sa else if hnx = 2 then sb else if hnx = 3 then sc else sd) = zSlot sa sb sc sd ((hnx + 3) % 4) := by
    unfold zSlot
    rcases (show hnx = 0 ∨ hnx = 1 ∨ hnx = 2 ∨ hnx = 3 by omega) with rfl | rfl | rfl | rfl
    · rw [if_neg (by decide), if_neg (by decide), if_neg (by decide), if_neg (by decide), if_neg (by decide), if_neg (by decide)]
    · rw [if_pos rfl, if_pos (by decide)]
    · rw [if_neg (by decide), if_pos rfl, if_neg (by decide), if_pos (by decide)]
    · rw [if_neg (by decide), if_neg (by decide), if_pos rfl, if_neg (by decide), if_neg (by decide), if_pos (by decide)]
  rw [el]
  refine ⟨?_, by omega, by omega, hf, fun i hi => ?_⟩
  · have e := hr (hcn - 1) (by omega)
    rw [show (hnx + 4 - hcn + (hcn - 1)) % 4 = (hnx + 3) % 4 by omega] at e
    exact zCp_rel e hf4 fun j hj => zFl_in hj
  · have e := hr i (by omega)
    rw [show (hnx + 4 - hcn + i) % 4 = ((hnx + 3) % 4 + 4 - (hcn - 1) + i) % 4 by omega] at e
    exact e
