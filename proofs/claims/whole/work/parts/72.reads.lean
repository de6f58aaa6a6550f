/-! reading commands: both sides read the same -/
theorem zHn_lt {D : Nat → Nat} {s : Nat} (hD : ∀ q, D q ≤ 26 ∨ True) : ∀ k p v m : Nat, (∀ q, p ≤ q → q < p + k → D q ≤ 26) → p - s = m → s ≤ p → m + k ≤ 5 → v < 32 ^ m → zHn D s k p v < 32 ^ 5
  | 0, p, v, m, _, _, _, hm, hv => Nat.lt_of_lt_of_le hv (Nat.pow_le_pow_right (by decide) (by omega))
  | k + 1, p, v, m, hq, hp, hs, hm, hv => by
    have e : zHn D s (k + 1) p v = zHn D s k (p + 1) (if p - s < 5 then 32 * v + D p else 0) := rfl
    rw [e, if_pos (by omega)]
    have := hq p (by omega) (by omega)
    exact zHn_lt hD k (p + 1) _ (m + 1) (fun q h1 h2 => hq q (by omega) (by omega)) (by omega) (by omega) (by omega) (by rw [Nat.pow_succ]; omega)
theorem zFd_r {txt : Nat → Int32} {tln s e : Nat} : ∀ d j : Nat, j + d = 8 → (zFd txt tln s e j d < 8 ∧ zMw txt tln s e (zFd txt tln s e j d) = true) ∨ (zFd txt tln s e j d = 8 ∧ ∀ i, j ≤ i → i < 8 → zMw txt tln s e i = false)
  | 0, j, h => Or.inr ⟨rfl, fun i h1 h2 => absurd h1 (by omega)⟩
  | d + 1, j, h => by
    have ed : zFd txt tln s e j (d + 1) = if zMw txt tln s e j then j else zFd txt tln s e (j + 1) d := rfl
    rw [ed]
    by_cases q : zMw txt tln s e j = true
    · rw [if_pos q]
      exact Or.inl ⟨by omega, q⟩
    · rw [if_neg q]
      rcases zFd_r (txt := txt) (tln := tln) (s := s) (e := e) d (j + 1) (by omega) with ⟨h1, h2⟩ | ⟨h1, h2⟩
      · exact Or.inl ⟨h1, h2⟩
      · refine Or.inr ⟨h1, fun i i1 i2 => ?_⟩
        by_cases z : i = j
        · rw [z]; simpa using q
        · exact h2 i (by omega) i2
theorem rNc_k : ∀ j, j < 8 → rNc (nI (zKc j)) = some (zWq j) := fun j hj => (by decide +kernel : ∀ j : Fin 8, rNc (nI (zKc j.1)) = some (zWq j.1)) ⟨j, hj⟩
theorem rNc_no {v : Nat} (hv : v < 2 ^ 31) (h : ∀ j, j < 8 → ¬ v = zKc j) : rNc (nI v) = none := by
  have ne : ∀ (k : Nat) (x : Int32), k < 2 ^ 31 → x = nI k → ¬ v = k → ¬ nI v = x := fun k x hk hx hn z => hn (m_eq hv hk (z.trans hx))
  unfold rNc
  rw [if_neg (ne 3554952 _ (by decide) (by decide) (h 0 (by decide))), if_neg (ne 635184 _ (by decide) (by decide) (h 5 (by decide))), if_neg (ne 206220 _ (by decide) (by decide) (h 1 (by decide))), if_neg (ne 12788 _ (by decide) (by decide) (h 2 (by decide))), if_neg (ne 24282821 _ (by decide) (by decide) (h 3 (by decide))), if_neg (ne 702607 _ (by decide) (by decide) (h 4 (by decide))), if_neg (ne 19639 _ (by decide) (by decide) (h 6 (by decide))), if_neg (ne 12891444 _ (by decide) (by decide) (h 7 (by decide)))]
/-- the word here -/
theorem k_word (txt : Nat → Int32) (tln s : Nat) : (rWl txt tln s (tln - s) s (nI 0)).1 = zPl txt tln s ∧ ((∃ j, j < 8 ∧ zFd txt tln s (zPl txt tln s) 0 8 = j ∧ rNc (if (rWl txt tln s (tln - s) s (nI 0)).1 - s < 6 then (rWl txt tln s (tln - s) s (nI 0)).2 else nI 0) = some (zWq j) ∧ (rWl txt tln s (tln - s) s (nI 0)).2 = nI (zKc j)) ∨ (zFd txt tln s (zPl txt tln s) 0 8 = 8 ∧ rNc (if (rWl txt tln s (tln - s) s (nI 0)).1 - s < 6 then (rWl txt tln s (tln - s) s (nI 0)).2 else nI 0) = none)) := by
  rw [rWl_hn]
  have eL : zLw txt tln (tln - s) s = zPl txt tln s := rfl
  rw [eL]
  obtain ⟨l1, l2, l3⟩ := zLw_le txt tln (tln - s) s
  rw [eL] at l1 l2 l3
  refine ⟨rfl, ?_⟩
  show (∃ j, j < 8 ∧ zFd txt tln s (zPl txt tln s) 0 8 = j ∧ rNc (if zPl txt tln s - s < 6 then nI (zHn (zDt txt tln) s (zPl txt tln s - s) s 0) else nI 0) = some (zWq j) ∧ nI (zHn (zDt txt tln) s (zPl txt tln s - s) s 0) = nI (zKc j)) ∨ _ ∧ rNc (if zPl txt tln s - s < 6 then nI (zHn (zDt txt tln) s (zPl txt tln s - s) s 0) else nI 0) = none
  by_cases hl : zPl txt tln s - s < 6
  · rw [if_pos hl]
    have hq : ∀ q, s ≤ q → q < s + (zPl txt tln s - s) → zFr (nI 97) (zTb txt tln q) (nI 122) = true := fun q h1 h2 => l3 q h1 (by omega)
    have hv := zHn_lt (D := zDt txt tln) (s := s) (fun _ => Or.inr trivial) (zPl txt tln s - s) s 0 0 (fun q h1 h2 => (zDt_n (hq q h1 h2)).2.1) (by omega) (Nat.le_refl _)
    have hM : ∀ j, j < 8 → zMw txt tln s (zPl txt tln s) j = decide (zHn (zDt txt tln) s (zPl txt tln s - s) s 0 = zKc j) := by
      intro j hj
      rcases (show j = 0 ∨ j = 1 ∨ j = 2 ∨ j = 3 ∨ j = 4 ∨ j = 5 ∨ j = 6 ∨ j = 7 by omega) with h | h | h | h | h | h | h | h <;> subst h
      · exact zWd_0 rfl hl hq
      · exact zWd_1 rfl hl hq
      · exact zWd_2 rfl hl hq
      · exact zWd_3 rfl hl hq
      · exact zWd_4 rfl hl hq
      · exact zWd_5 rfl hl hq
      · exact zWd_6 rfl hl hq
      · exact zWd_7 rfl hl hq
    rcases zFd_r (txt := txt) (tln := tln) (s := s) (e := zPl txt tln s) 8 0 rfl with ⟨h1, h2⟩ | ⟨h1, h2⟩
    · rw [hM _ h1] at h2
      have e := of_decide_eq_true h2
      refine Or.inl ⟨_, h1, rfl, ?_, ?_⟩
      · rw [e]; exact rNc_k _ h1
      · exact congrArg nI e
    · refine Or.inr ⟨h1, rNc_no ?_ fun j hj z => ?_⟩
      · by_cases h5 : zPl txt tln s - s ≤ 5
        · have := hv (by omega) (by decide)
          omega
        · omega
      · have := h2 j (by omega) hj
        rw [hM j hj, decide_eq_true z] at this
        exact absurd this (by decide)
  · rw [if_neg hl]
    refine Or.inr ⟨?_, by decide +kernel⟩
    rcases zFd_r (txt := txt) (tln := tln) (s := s) (e := zPl txt tln s) 8 0 rfl with ⟨h1, h2⟩ | ⟨h1, h2⟩
    · exfalso
      unfold zMw at h2
      rw [Bool.and_eq_true, decide_eq_true_eq] at h2
      have h3 := h2.1
      have h4 : zSl.getD (zFd txt tln s (zPl txt tln s) 0 8) 0 ≤ 5 := (by decide +kernel : ∀ j : Fin 8, zSl.getD j.1 0 ≤ 5) ⟨_, h1⟩
      omega
    · exact h1
/-- digits -/
theorem zRd_r (txt : Nat → Int32) (tln : Nat) : ∀ (d p : Nat) (v : Int32), zRd txt tln d p v = rDg txt tln d p v
  | 0, _, _ => rfl
  | d + 1, p, v => by
    show (if zFr (nI 48) (zTb txt tln p) (nI 57) then zRd txt tln d (p + 1) (v * nI 10 + zTb txt tln p - nI 48) else (p, v)) = (if zFr (nI 48) (zTb txt tln p) (nI 57) then rDg txt tln d (p + 1) (nI 10 * v + txt p - nI 48) else (p, v))
    by_cases q : zFr (nI 48) (zTb txt tln p) (nI 57) = true
    · obtain ⟨n, h1, h2, e⟩ := (zFr_e (by decide) (by decide)).mp q
      obtain ⟨e1, e2⟩ := zTb_lu (by omega) e
      rw [if_pos q, if_pos q, zRd_r txt tln d (p + 1), e, e2, Int32.mul_comm]
    · rw [if_neg q, if_neg q]
theorem zPs_lt {txt : Nat → Int32} {tln p : Nat} (h : zTb txt tln p = nI 32) : p < zPs txt tln p := by
  obtain ⟨h1, h2⟩ := zPs_s h
  rw [h2]
  have := (zPs_le (txt := txt) (typed := tln) (p := p + 1) (by omega)).1
  omega
/-- numbers -/
theorem k_nums (txt : Nat → Int32) (tln : Nat) : ∀ (d k j p : Nat) (num g : Nat → Int32), k + d ≤ 5 → p ≤ tln → (∀ i, i < k → num i = g i) → (zRN txt tln d k (num, j, p, -1)).2.2.2.1 = (rNr txt tln d k p g).2.1 ∧ (zRN txt tln d k (num, j, p, -1)).2.2.1 = j ∧ (rNr txt tln d k p g).2.1 ≤ tln ∧ (((zRN txt tln d k (num, j, p, -1)).1 = true ∧ (rNr txt tln d k p g).1 = true ∧ (zRN txt tln d k (num, j, p, -1)).2.2.2.2 = -1 ∧ ∀ i, i < k + d → (zRN txt tln d k (num, j, p, -1)).2.1 i = (rNr txt tln d k p g).2.2 i) ∨ ((zRN txt tln d k (num, j, p, -1)).1 = false ∧ (rNr txt tln d k p g).1 = false ∧ (zRN txt tln d k (num, j, p, -1)).2.2.2.2 = nI (rNr txt tln d k p g).2.1))
  | 0, k, j, p, num, g, _, hp, hg => ⟨rfl, rfl, hp, Or.inl ⟨rfl, rfl, rfl, hg⟩⟩
  | d + 1, k, j, p, num, g, hk, hp, hg => by
    have e1 : zRN txt tln (d + 1) k (num, j, p, -1) = if zTb txt tln p = nI 32 then (if zPs txt tln p < (zRd txt tln 3 (zPs txt tln p) 0).1 then zRN txt tln d (k + 1) (zPutN 5 num (nI k) (zRd txt tln 3 (zPs txt tln p) 0).2, j, (zRd txt tln 3 (zPs txt tln p) 0).1, -1) else (false, (zPutN 5 num (nI k) (zRd txt tln 3 (zPs txt tln p) 0).2, j, (zRd txt tln 3 (zPs txt tln p) 0).1, nI (zRd txt tln 3 (zPs txt tln p) 0).1))) else (false, (num, j, p, nI p)) := rfl
    have e2 : rNr txt tln (d + 1) k p g = if zPs txt tln p = p then (false, zPs txt tln p, g) else if zFr (nI 48) (zTb txt tln (zPs txt tln p)) (nI 57) then rNr txt tln d (k + 1) (rDg txt tln 3 (zPs txt tln p) (nI 0)).1 (upd g k (rDg txt tln 3 (zPs txt tln p) (nI 0)).2) else (false, zPs txt tln p, g) := rfl
    rw [e1, e2]
    by_cases q : zTb txt tln p = nI 32
    · have hlt := zPs_lt q
      have hle := (zPs_le (txt := txt) (typed := tln) hp).2
      rw [if_pos q, if_neg (by omega : ¬ zPs txt tln p = p), ← nI_0, zRd_r]
      by_cases z : zFr (nI 48) (zTb txt tln (zPs txt tln p)) (nI 57) = true
      · have hdg : zPs txt tln p < (rDg txt tln 3 (zPs txt tln p) (nI 0)).1 := by
          have ez : rDg txt tln 3 (zPs txt tln p) (nI 0) = rDg txt tln 2 (zPs txt tln p + 1) (nI 10 * nI 0 + txt (zPs txt tln p) - nI 48) := if_pos z
          rw [ez, ← zRd_r]
          obtain ⟨n, h1, h2, e⟩ := (zFr_e (by decide) (by decide)).mp z
          have := (zRd_b txt tln 2 (zPs txt tln p + 1) (nI 10 * nI 0 + txt (zPs txt tln p) - nI 48) (by have := (zTb_lu (by omega) e).1; omega)).1
          omega
        have hb := (zRd_b txt tln 3 (zPs txt tln p) (nI 0) hle).2
        rw [zRd_r] at hb
        rw [if_pos hdg, if_pos z, zPutN_n (by omega) (by decide)]
        have := k_nums txt tln d (k + 1) j (rDg txt tln 3 (zPs txt tln p) (nI 0)).1 (upd num k (rDg txt tln 3 (zPs txt tln p) (nI 0)).2) (upd g k (rDg txt tln 3 (zPs txt tln p) (nI 0)).2) (by omega) hb (fun i hi => by
          by_cases w : i = k
          · rw [w, upd_eq, upd_eq]
          · rw [upd_ne w, upd_ne w]
            exact hg i (by omega))
        rw [show k + 1 + d = k + (d + 1) by omega] at this
        exact this
      · have ez : rDg txt tln 3 (zPs txt tln p) (nI 0) = (zPs txt tln p, nI 0) := if_neg z
        rw [ez, if_neg (Nat.lt_irrefl _), if_neg z]
        exact ⟨rfl, rfl, hle, Or.inr ⟨rfl, rfl, rfl⟩⟩
    · rw [if_neg q, zPs_e q, if_pos rfl]
      exact ⟨rfl, rfl, hp, Or.inr ⟨rfl, rfl, rfl⟩⟩
theorem zFr_59 {v : Int32} : zFr (nI 59) v (nI 59) = true ↔ v = nI 59 := by
  rw [zFr_e (by decide) (by decide)]
  constructor
  · rintro ⟨n, h1, h2, rfl⟩
    exact congrArg nI (by omega)
  · rintro rfl
    exact ⟨59, Nat.le_refl _, Nat.le_refl _, rfl⟩
/-- a command -/
theorem k_read {txt : Nat → Int32} {tln pos wj : Nat} (num g : Nat → Int32) (h150 : tln ≤ 150) (hp : pos ≤ tln) (hlt : zPs txt tln pos < tln) :
    ((zNx txt tln (num, wj, pos, -1)).1 = true ∧ (rRd txt tln (zPs txt tln pos) g).1 = -1 ∧ (rRd txt tln (zPs txt tln pos) g).2.1 = (zNx txt tln (num, wj, pos, -1)).2.2.2.1 ∧ (rRd txt tln (zPs txt tln pos) g).2.2.1 = nI (zKc (zNx txt tln (num, wj, pos, -1)).2.2.1) ∧ (zNx txt tln (num, wj, pos, -1)).2.2.1 < 8 ∧ (zNx txt tln (num, wj, pos, -1)).2.2.2.2 = -1 ∧ ∀ i, i < zWq (zNx txt tln (num, wj, pos, -1)).2.2.1 → (zNx txt tln (num, wj, pos, -1)).2.1 i = (rRd txt tln (zPs txt tln pos) g).2.2.2 i) ∨
    ((zNx txt tln (num, wj, pos, -1)).1 = false ∧ ∃ q, q ≤ 150 ∧ (rRd txt tln (zPs txt tln pos) g).1 = nI q ∧ (zNx txt tln (num, wj, pos, -1)).2.2.2.2 = nI q) := by
  generalize hP : zPs txt tln pos = p at hlt ⊢
  obtain ⟨w1, w2⟩ := k_word txt tln p
  have hpl : zPl txt tln p ≤ tln := by
    have := (zLw_le txt tln (tln - p) p).2.1
    show zLw txt tln (tln - p) p ≤ tln
    omega
  have e1 : zNx txt tln (num, wj, pos, -1) = if tln ≤ p then (false, (num, wj, p, -1)) else if (zRW txt tln (num, wj, p, -1)).1 then (if (zRN txt tln (zWq (zRW txt tln (num, wj, p, -1)).2.2.1) 0 (zRW txt tln (num, wj, p, -1)).2).1 then zRS txt tln (zRN txt tln (zWq (zRW txt tln (num, wj, p, -1)).2.2.1) 0 (zRW txt tln (num, wj, p, -1)).2).2 else (false, (zRN txt tln (zWq (zRW txt tln (num, wj, p, -1)).2.2.1) 0 (zRW txt tln (num, wj, p, -1)).2).2)) else (false, (zRW txt tln (num, wj, p, -1)).2) := by
    rw [← hP]
    rfl
  rw [if_neg (by omega)] at e1
  rcases w2 with ⟨j, hj, f1, f2, f3⟩ | ⟨f1, f2⟩
  · have eW : zRW txt tln (num, wj, p, -1) = (true, (num, j, zPl txt tln p, -1)) := by
      unfold zRW
      show (if zFd txt tln p (zPl txt tln p) 0 8 < 8 then _ else _) = _
      rw [f1, if_pos hj]
    rw [eW, if_pos rfl] at e1
    have eR : rRd txt tln p g = rRdN txt tln (zWq j) (zPl txt tln p) (nI (zKc j)) g := by
      unfold rRd
      rw [f2, w1, f3]
    have hk5 : zWq j ≤ 5 := (by decide : ∀ j : Fin 8, zWq j.1 ≤ 5) ⟨j, hj⟩
    obtain ⟨n1, n2, n3, n4⟩ := k_nums txt tln (zWq j) 0 j (zPl txt tln p) num g (by omega) hpl (fun i hi => absurd hi (by omega))
    rw [eR]
    unfold rRdN
    have e1' : zNx txt tln (num, wj, pos, -1) = if (zRN txt tln (zWq j) 0 (num, j, zPl txt tln p, -1)).1 then zRS txt tln (zRN txt tln (zWq j) 0 (num, j, zPl txt tln p, -1)).2 else (false, (zRN txt tln (zWq j) 0 (num, j, zPl txt tln p, -1)).2) := e1
    rw [e1']
    generalize zRN txt tln (zWq j) 0 (num, j, zPl txt tln p, -1) = A at n1 n2 n3 n4 ⊢
    generalize rNr txt tln (zWq j) 0 (zPl txt tln p) g = B at n1 n2 n3 n4 ⊢
    obtain ⟨ab, an, aj, ap, af⟩ := A
    obtain ⟨bb, bp, bg⟩ := B
    simp only at n1 n2 n3 n4
    subst n1 n2
    have hps := zPs_le (txt := txt) (typed := tln) n3
    rcases n4 with ⟨rfl, rfl, rfl, n5⟩ | ⟨rfl, rfl, n5⟩
    · rw [if_pos rfl, if_pos rfl]
      unfold zRS
      simp only
      by_cases z : zTb txt tln (zPs txt tln ap) = nI 59
      · rw [if_pos z, if_pos (zFr_59.mpr z)]
        exact Or.inl ⟨rfl, rfl, rfl, rfl, hj, rfl, fun i hi => n5 i (by have hi' : i < zWq aj := hi; omega)⟩
      · rw [if_neg z, if_neg (fun k => z (zFr_59.mp k))]
        exact Or.inr ⟨rfl, zPs txt tln ap, by omega, rfl, rfl⟩
    · rw [if_neg (show ¬ (false, an, aj, ap, af).1 = true from Bool.false_ne_true), if_neg (show ¬ (false, ap, bg).1 = true from Bool.false_ne_true)]
      exact Or.inr ⟨rfl, ap, by omega, rfl, n5⟩
  · have eW : zRW txt tln (num, wj, p, -1) = (false, (num, wj, zPl txt tln p, nI p)) := by
      unfold zRW
      show (if zFd txt tln p (zPl txt tln p) 0 8 < 8 then _ else _) = _
      rw [f1, if_neg (by decide)]
    rw [eW, if_neg (show ¬ (false, num, wj, zPl txt tln p, nI p).1 = true from Bool.false_ne_true)] at e1
    have eR : (rRd txt tln p g).1 = nI p := by
      unfold rRd
      rw [f2]
    rw [e1, eR]
    exact Or.inr ⟨rfl, p, by omega, rfl, rfl⟩
theorem zNx_end {txt : Nat → Int32} {tln pos wj : Nat} {num : Nat → Int32} {f : Int32} (h : tln ≤ zPs txt tln pos) : zNx txt tln (num, wj, pos, f) = (false, (num, wj, zPs txt tln pos, f)) := if_pos h
/-- the fault of a text -/
theorem k_fault {txt : Nat → Int32} {tln : Nat} (h150 : tln ≤ 150) : ∀ (d d' pos wj : Nat) (num g : Nat → Int32) (v : Int32), pos ≤ tln → tln - pos ≤ d → tln - pos < d' → (zFF txt tln d (num, wj, pos, -1)).2.2.2 = (rFt txt tln d' (zPs txt tln pos) v g).1
  | 0, d', pos, wj, num, g, v, hp, h1, h2 => by
    have hq := (zPs_le (txt := txt) (typed := tln) hp).1
    rw [rFt_e (by omega)]
    rfl
  | d + 1, d', pos, wj, num, g, v, hp, h1, h2 => by
    obtain ⟨d', rfl⟩ : ∃ k, d' = k + 1 := ⟨d' - 1, by omega⟩
    have hq := zPs_le (txt := txt) (typed := tln) hp
    have e1 : zFF txt tln (d + 1) (num, wj, pos, -1) = if (zNx txt tln (num, wj, pos, -1)).1 then zFF txt tln d (zNx txt tln (num, wj, pos, -1)).2 else (zNx txt tln (num, wj, pos, -1)).2 := rfl
    rw [e1]
    by_cases hlt : zPs txt tln pos < tln
    · rcases k_read (wj := wj) num g h150 hp hlt with ⟨r1, r2, r3, r4, r5, r6, r7⟩ | ⟨r1, q, r2, r3, r4⟩
      · rw [if_pos r1, rFt_t hlt r2, r3]
        have hpos := rRd_pos (g := g) (by omega : zPs txt tln pos ≤ tln) h150 r2
        rw [r3] at hpos
        generalize zNx txt tln (num, wj, pos, -1) = A at r6 hpos ⊢
        obtain ⟨ab, an, aj, ap, af⟩ := A
        have r6' : af = -1 := r6
        subst r6'
        have hpos' : zPs txt tln pos < ap ∧ ap ≤ tln := hpos
        exact k_fault h150 d d' ap aj an _ _ hpos'.2 (by omega) (by omega)
      · rw [if_neg (by rw [r1]; decide), r4, rFt_f hlt (by rw [r3]; exact nI_m1' (by omega)), r3]
    · rw [zNx_end (by omega), if_neg (show ¬ (false, num, wj, zPs txt tln pos, (-1 : Int32)).1 = true from Bool.false_ne_true), rFt_e (by omega)]
