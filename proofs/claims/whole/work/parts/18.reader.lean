def zTa (byt : Nat → Int32) (tln : Nat) (i : Int32) : Int32 := if nI tln ≤ i then -1 else zAtN 150 byt i
def zTb (byt : Nat → Int32) (tln k : Nat) : Int32 := if k < tln then byt k else -1
theorem zTa_n {byt : Nat → Int32} {tln k : Nat} (ht : tln ≤ 150) (hk : k < 2 ^ 31) : zTa byt tln (nI k) = zTb byt tln k := by
  unfold zTa zTb zAtN
  by_cases h : k < tln
  · rw [if_pos h, if_neg (nI_ge (by omega) (by omega)), if_neg (nI_pos (by omega)), if_neg (nI_ge (by omega) (by decide)), nI_clamp (by omega)]
  · rw [if_neg h, if_pos ((nI_leI (by omega) (by omega)).mpr (by omega))]
def zWq (k : Nat) : Nat := [2, 5, 3, 1, 1, 2, 1, 1].getD k 0
theorem zWq_eq {k : Nat} (h : k < 8) : zWc k = nI (zWq k) := by
  rcases (show k = 0 ∨ k = 1 ∨ k = 2 ∨ k = 3 ∨ k = 4 ∨ k = 5 ∨ k = 6 ∨ k = 7 by omega) with rfl | rfl | rfl | rfl | rfl | rfl | rfl | rfl <;> rfl
theorem zWq_le (k : Nat) : zWq k ≤ 5 := by
  by_cases h : k < 8
  · rcases (show k = 0 ∨ k = 1 ∨ k = 2 ∨ k = 3 ∨ k = 4 ∨ k = 5 ∨ k = 6 ∨ k = 7 by omega) with rfl | rfl | rfl | rfl | rfl | rfl | rfl | rfl <;> decide
  · unfold zWq
    rw [List.getD_eq_getElem?_getD, List.getElem?_eq_none (by show 8 ≤ k; omega)]
    decide
/-- spaces are skipped -/
def zSk (byt : Nat → Int32) (tln : Nat) : Nat → Nat → Nat
  | 0, p => p
  | d + 1, p => if zTb byt tln p = nI 32 then zSk byt tln d (p + 1) else p
theorem zSk_b (byt : Nat → Int32) (tln : Nat) : ∀ d p : Nat, p ≤ zSk byt tln d p ∧ zSk byt tln d p ≤ p + d
  | 0, p => ⟨Nat.le_refl p, Nat.le_refl p⟩
  | d + 1, p => by
    have := zSk_b byt tln d (p + 1)
    unfold zSk
    split <;> omega
def zPs (byt : Nat → Int32) (tln p : Nat) : Nat := zSk byt tln (tln - p) p
theorem zPs_b {byt : Nat → Int32} {tln p : Nat} (h : p ≤ tln) : p ≤ zPs byt tln p ∧ zPs byt tln p ≤ tln := by
  have := zSk_b byt tln (tln - p) p
  unfold zPs
  omega
/-- digits are read: where they end, and the number -/
def zRd (byt : Nat → Int32) (tln : Nat) : Nat → Nat → Int32 → Nat × Int32
  | 0, p, v => (p, v)
  | d + 1, p, v => if zFr (nI 48) (zTb byt tln p) (nI 57) then zRd byt tln d (p + 1) (v * nI 10 + zTb byt tln p - nI 48) else (p, v)
theorem zTb_lt {byt : Nat → Int32} {tln p : Nat} (h : zTb byt tln p ≠ -1) : p < tln := by
  unfold zTb at h
  split at h
  · assumption
  · exact absurd rfl h
theorem zTb_fr {byt : Nat → Int32} {tln p : Nat} {b : Int32} {a : Nat} (ha : a < 2 ^ 31) (h : zFr (nI a) (zTb byt tln p) b = true) : p < tln := by
  refine zTb_lt fun (q : zTb byt tln p = -1) => ?_
  rw [q] at h
  unfold zFr at h
  rw [show decide ((-1 : Int32) < nI a) = true from decide_eq_true (Int32.lt_of_lt_of_le (by decide : (-1 : Int32) < 0) (Int32.not_lt.mp (nI_pos ha)))] at h
  exact absurd h (by simp)
theorem zRd_b (byt : Nat → Int32) (tln : Nat) : ∀ (d p : Nat) (v : Int32), p ≤ tln → p ≤ (zRd byt tln d p v).1 ∧ (zRd byt tln d p v).1 ≤ tln
  | 0, p, v, h => ⟨Nat.le_refl p, h⟩
  | d + 1, p, v, h => by
    unfold zRd
    split
    · rename_i hc
      have := zRd_b byt tln d (p + 1) (v * nI 10 + zTb byt tln p - nI 48) (zTb_fr (by decide) hc)
      omega
    · exact ⟨Nat.le_refl p, h⟩

set_option maxHeartbeats 4000000 in
set_option maxRecDepth 100000 in
theorem c_tAt {G : zT} {S : zS} {sa sb sc sd : zS} {hcn hnx tln wj pos : Nat} {byt num : Nat → Int32} {flt : Int32} {Y : zYr} {out : Nat → Int64} (hG : zAl G = false) (ht : tln ≤ 150) (hj9 : wj < 8) (hpt : pos ≤ tln) (i : Int32) : zRun G mX1_at 0 0 [.ref 108, .int i] (zHp S (sa, sb, sc, sd, hcn, hnx, byt, tln, num, (1000 + wj), pos, flt) Y out) (.inr (some (.int (zTa byt tln i)))) (zHp S (sa, sb, sc, sd, hcn, hnx, byt, tln, num, (1000 + wj), pos, flt) Y out) := by
  refine zRun_of (by decide +kernel) rfl rfl (Nat.le_of_ble_eq_true rfl) ?_
  suffices hs : ∀ (o9 : zO) (h9 : zH), (Sum.inr (some (.int (zTa byt tln i))) : zO) = o9 → (zHp S (sa, sb, sc, sd, hcn, hnx, byt, tln, num, (1000 + wj), pos, flt) Y out) = h9 → zPW G mX1_at 0 0 o9 h9 0 0 0 [(0, .ref 108), (1, .int i)] [] (zHp S (sa, sb, sc, sd, hcn, hnx, byt, tln, num, (1000 + wj), pos, flt) Y out) from hs _ _ rfl rfl
  intro o9 h9 ho9 hh9
  refine z_iload_n 1 dX1_at_0 rfl rfl ?_
  refine z_aload_n 0 dX1_at_1 rfl rfl ?_
  refine z_get (v := .int (nI tln)) 1 zgo_108 rfl inX1 (by decide) zw_276 rfl rfl dX1_at_2 ?_
  refine z_icmp_ge (tgt := 19) dX1_at_5 (by decide) (fun c_5 => ?_) (fun c_5 => ?_)
  · skip
    refine z_iconst (v := (-1)) dX1_at_19 (by decide) ?_
    exact z_iret rfl dX1_at_20 (zo_i ho9 (by first | rw [zTa, if_pos c_5] | rw [zTa, if_neg c_5])) (zo_h hh9 (by rfl)) (Nat.zero_le _) (Nat.zero_le _)
  · skip
    refine z_aload_n 0 dX1_at_8 rfl rfl ?_
    refine z_get (v := .ref 109) 0 zgo_108 rfl inX1 (by decide) zw_275 rfl rfl dX1_at_9 ?_
    refine z_iload_n 1 dX1_at_12 rfl rfl ?_
    refine z_callV (N := mX6_at) 1 [.int i] [] lX6_at ⟨zw_450, zw_383, zw_384⟩ rfl zgo_109 rfl rfl (Nat.le_of_ble_eq_true rfl) (by decide) ⟨zlt, zlt⟩ ⟨Nat.zero_le _, Nat.zero_le _⟩ (fun _ => rfl) (c_nAt (g := 109) (v := 110) (n := 150) (f := byt) (by omega) zlt zgo_109 zga_110 i) dX1_at_13 ?_
    refine z_goto (tgt := 20) dX1_at_16 (by decide) ?_
    exact z_iret rfl dX1_at_20 (zo_i ho9 (by first | rw [zTa, if_pos c_5] | rw [zTa, if_neg c_5])) (zo_h hh9 (by rfl)) (Nat.zero_le _) (Nat.zero_le _)

set_option maxHeartbeats 4000000 in
set_option maxRecDepth 100000 in
theorem c_append {G : zT} {S : zS} {sa sb sc sd : zS} {hcn hnx tln wj pos : Nat} {byt num : Nat → Int32} {flt : Int32} {Y : zYr} {out : Nat → Int64} (hG : zAl G = false) (ht : tln ≤ 150) (hj9 : wj < 8) (h150 : tln < 150) (v : Int32) : zRun G mX1_append 0 0 [.ref 108, .int v] (zHp S (sa, sb, sc, sd, hcn, hnx, byt, tln, num, (1000 + wj), pos, flt) Y out) (.inr (some (.int (nI (tln + 1))))) (zHp S (sa, sb, sc, sd, hcn, hnx, (zPutN 150 byt (nI tln) v), (tln + 1), num, (1000 + wj), pos, flt) Y out) := by
  refine zRun_of (by decide +kernel) rfl rfl (Nat.le_of_ble_eq_true rfl) ?_
  suffices hs : ∀ (o9 : zO) (h9 : zH), (Sum.inr (some (.int (nI (tln + 1)))) : zO) = o9 → (zHp S (sa, sb, sc, sd, hcn, hnx, (zPutN 150 byt (nI tln) v), (tln + 1), num, (1000 + wj), pos, flt) Y out) = h9 → zPW G mX1_append 0 0 o9 h9 0 0 0 [(0, .ref 108), (1, .int v)] [] (zHp S (sa, sb, sc, sd, hcn, hnx, byt, tln, num, (1000 + wj), pos, flt) Y out) from hs _ _ rfl rfl
  intro o9 h9 ho9 hh9
  refine z_aload_n 0 dX1_append_0 rfl rfl ?_
  refine z_get (v := .int (nI tln)) 1 zgo_108 rfl inX1 (by decide) zw_276 rfl rfl dX1_append_1 ?_
  refine z_sipush (v := nI 150) dX1_append_4 (by decide) ?_
  refine z_icmp_ge (tgt := 32) dX1_append_7 (by decide) (fun c_7 => ?_) (fun c_7 => ?_)
  · exact absurd c_7 (nI_ge (by omega) (by decide))
  · skip
    refine z_aload_n 0 dX1_append_10 rfl rfl ?_
    refine z_get (v := .ref 109) 0 zgo_108 rfl inX1 (by decide) zw_275 rfl rfl dX1_append_11 ?_
    refine z_aload_n 0 dX1_append_14 rfl rfl ?_
    refine z_get (v := .int (nI tln)) 1 zgo_108 rfl inX1 (by decide) zw_276 rfl rfl dX1_append_15 ?_
    refine z_iload_n 1 dX1_append_18 rfl rfl ?_
    refine z_callV (N := mX6_put) 2 [.int (nI tln), .int v] [] lX6_put ⟨zw_1150, zw_525, zw_526⟩ rfl zgo_109 rfl rfl (Nat.le_of_ble_eq_true rfl) (by decide) ⟨zlt, zlt⟩ ⟨Nat.zero_le _, Nat.zero_le _⟩ zal (c_nPut (g := 109) (v := 110) (n := 150) (f := byt) (h1 := (zHp S (sa, sb, sc, sd, hcn, hnx, (zPutN 150 byt (nI tln) v), tln, num, (1000 + wj), pos, flt) Y out)) (by omega) zlt zgo_109 zga_110 (nI tln) v zsa_110) dX1_append_19 ?_
    refine z_aload_n 0 dX1_append_22 rfl rfl ?_
    refine z_dup dX1_append_23 rfl ?_
    refine z_get (v := .int (nI tln)) 1 zgo_108 rfl inX1 (by decide) zw_276 rfl rfl dX1_append_24 ?_
    refine z_iconst (v := 1) dX1_append_27 (by decide) ?_
    refine z_iadd dX1_append_28 ?_
    refine z_top (v2 := .int (nI (tln + 1))) (by rw [nI_1]) ?_
    refine z_puti 1 tyX1 zgo_108 rfl inX1 tyX1_ok nmX1 (by decide) zw_276 rfl rfl (by decide +kernel) (Nat.le_of_ble_eq_true rfl) dX1_append_29 ?_
    refine z_eqh (h2 := (zHp S (sa, sb, sc, sd, hcn, hnx, (zPutN 150 byt (nI tln) v), (tln + 1), num, (1000 + wj), pos, flt) Y out)) zsf_108_1 ?_
    refine z_aload_n 0 dX1_append_32 rfl rfl ?_
    refine z_get (v := .int (nI (tln + 1))) 1 zgo_108 rfl inX1 (by decide) zw_276 rfl rfl dX1_append_33 ?_
    exact z_iret rfl dX1_append_36 (zo_i ho9 (by rfl)) (zo_h hh9 (by rfl)) (Nat.zero_le _) (Nat.zero_le _)

set_option maxHeartbeats 4000000 in
set_option maxRecDepth 100000 in
theorem c_empty {G : zT} {S : zS} {sa sb sc sd : zS} {hcn hnx tln wj pos : Nat} {byt num : Nat → Int32} {flt : Int32} {Y : zYr} {out : Nat → Int64} (hG : zAl G = false) (ht : tln ≤ 150) (hj9 : wj < 8) : zRun G mX1_empty 0 0 [.ref 108] (zHp S (sa, sb, sc, sd, hcn, hnx, byt, tln, num, (1000 + wj), pos, flt) Y out) (.inr (some (.int (nI tln)))) (zHp S (sa, sb, sc, sd, hcn, hnx, byt, 0, num, (1000 + wj), pos, flt) Y out) := by
  refine zRun_of (by decide +kernel) rfl rfl (Nat.le_of_ble_eq_true rfl) ?_
  suffices hs : ∀ (o9 : zO) (h9 : zH), (Sum.inr (some (.int (nI tln))) : zO) = o9 → (zHp S (sa, sb, sc, sd, hcn, hnx, byt, 0, num, (1000 + wj), pos, flt) Y out) = h9 → zPW G mX1_empty 0 0 o9 h9 0 0 0 [(0, .ref 108)] [] (zHp S (sa, sb, sc, sd, hcn, hnx, byt, tln, num, (1000 + wj), pos, flt) Y out) from hs _ _ rfl rfl
  intro o9 h9 ho9 hh9
  refine z_aload_n 0 dX1_empty_0 rfl rfl ?_
  refine z_get (v := .int (nI tln)) 1 zgo_108 rfl inX1 (by decide) zw_276 rfl rfl dX1_empty_1 ?_
  refine z_istore_n (lv' := [(1, .int (nI tln)), (0, .ref 108)]) dX1_empty_4 rfl (by decide) rfl ?_
  refine z_aload_n 1 dX1_empty_5 rfl rfl ?_
  refine z_iconst (v := 0) dX1_empty_6 (by decide) ?_
  refine z_puti 1 tyX1 zgo_108 rfl inX1 tyX1_ok nmX1 (by decide) zw_276 rfl rfl (by decide +kernel) (Nat.le_of_ble_eq_true rfl) dX1_empty_7 ?_
  refine z_eqh (h2 := (zHp S (sa, sb, sc, sd, hcn, hnx, byt, 0, num, (1000 + wj), pos, flt) Y out)) zsf_108_1 ?_
  refine z_iload_n 0 dX1_empty_10 rfl rfl ?_
  exact z_iret rfl dX1_empty_11 (zo_i ho9 (by rfl)) (zo_h hh9 (by rfl)) (Nat.zero_le _) (Nat.zero_le _)

set_option maxHeartbeats 4000000 in
set_option maxRecDepth 100000 in
theorem c_rewind {G : zT} {S : zS} {sa sb sc sd : zS} {hcn hnx tln wj pos : Nat} {byt num : Nat → Int32} {flt : Int32} {Y : zYr} {out : Nat → Int64} (hG : zAl G = false) (ht : tln ≤ 150) (hj9 : wj < 8) : zRun G mX0_rewind 0 0 [.ref 111] (zHp S (sa, sb, sc, sd, hcn, hnx, byt, tln, num, (1000 + wj), pos, flt) Y out) (.inr none) (zHp S (sa, sb, sc, sd, hcn, hnx, byt, tln, num, (1000 + wj), 0, (-1)) Y out) := by
  refine zRun_of (by decide +kernel) rfl rfl (Nat.le_of_ble_eq_true rfl) ?_
  suffices hs : ∀ (o9 : zO) (h9 : zH), (Sum.inr none : zO) = o9 → (zHp S (sa, sb, sc, sd, hcn, hnx, byt, tln, num, (1000 + wj), 0, (-1)) Y out) = h9 → zPW G mX0_rewind 0 0 o9 h9 0 0 0 [(0, .ref 111)] [] (zHp S (sa, sb, sc, sd, hcn, hnx, byt, tln, num, (1000 + wj), pos, flt) Y out) from hs _ _ rfl rfl
  intro o9 h9 ho9 hh9
  refine z_aload_n 0 dX0_rewind_0 rfl rfl ?_
  refine z_iconst (v := 0) dX0_rewind_1 (by decide) ?_
  refine z_puti 3 tyX0 zgo_111 rfl inX0 tyX0_ok nmX0 (by decide) zw_299 rfl rfl (by decide +kernel) (Nat.le_of_ble_eq_true rfl) dX0_rewind_2 ?_
  refine z_eqh (h2 := (zHp S (sa, sb, sc, sd, hcn, hnx, byt, tln, num, (1000 + wj), 0, flt) Y out)) zsf_111_3 ?_
  refine z_aload_n 0 dX0_rewind_5 rfl rfl ?_
  refine z_iconst (v := (-1)) dX0_rewind_6 (by decide) ?_
  refine z_puti 4 tyX0 zgo_111 rfl inX0 tyX0_ok nmX0 (by decide) zw_300 rfl rfl (by decide +kernel) (Nat.le_of_ble_eq_true rfl) dX0_rewind_7 ?_
  refine z_eqh (h2 := (zHp S (sa, sb, sc, sd, hcn, hnx, byt, tln, num, (1000 + wj), 0, ((-1))) Y out)) zsf_111_4 ?_
  exact z_vret rfl dX0_rewind_10 ho9.symm (zo_h hh9 (by rfl)) (Nat.zero_le _) (Nat.zero_le _)

set_option maxHeartbeats 4000000 in
set_option maxRecDepth 100000 in
theorem c_failAt {G : zT} {S : zS} {sa sb sc sd : zS} {hcn hnx tln wj pos : Nat} {byt num : Nat → Int32} {flt : Int32} {Y : zYr} {out : Nat → Int64} (hG : zAl G = false) (ht : tln ≤ 150) (hj9 : wj < 8) (hpt : pos ≤ tln) (i : Int32) : zRun G mX0_failAt 0 0 [.ref 111, .int i] (zHp S (sa, sb, sc, sd, hcn, hnx, byt, tln, num, (1000 + wj), pos, flt) Y out) (.inr (some (.int 0))) (zHp S (sa, sb, sc, sd, hcn, hnx, byt, tln, num, (1000 + wj), pos, i) Y out) := by
  refine zRun_of (by decide +kernel) rfl rfl (Nat.le_of_ble_eq_true rfl) ?_
  suffices hs : ∀ (o9 : zO) (h9 : zH), (Sum.inr (some (.int 0)) : zO) = o9 → (zHp S (sa, sb, sc, sd, hcn, hnx, byt, tln, num, (1000 + wj), pos, i) Y out) = h9 → zPW G mX0_failAt 0 0 o9 h9 0 0 0 [(0, .ref 111), (1, .int i)] [] (zHp S (sa, sb, sc, sd, hcn, hnx, byt, tln, num, (1000 + wj), pos, flt) Y out) from hs _ _ rfl rfl
  intro o9 h9 ho9 hh9
  refine z_aload_n 0 dX0_failAt_0 rfl rfl ?_
  refine z_iload_n 1 dX0_failAt_1 rfl rfl ?_
  refine z_puti 4 tyX0 zgo_111 rfl inX0 tyX0_ok nmX0 (by decide) zw_300 rfl rfl (by decide +kernel) (Nat.le_of_ble_eq_true rfl) dX0_failAt_2 ?_
  refine z_eqh (h2 := (zHp S (sa, sb, sc, sd, hcn, hnx, byt, tln, num, (1000 + wj), pos, i) Y out)) zsf_111_4 ?_
  refine z_iconst (v := 0) dX0_failAt_5 (by decide) ?_
  exact z_zret rfl (by rfl) dX0_failAt_6 (zo_i ho9 (by rfl)) (zo_h hh9 (by rfl)) (Nat.zero_le _) (Nat.zero_le _)

set_option maxHeartbeats 4000000 in
set_option maxRecDepth 100000 in
theorem c_skip {G : zT} {S : zS} {sa sb sc sd : zS} {hcn hnx tln wj pos : Nat} {byt num : Nat → Int32} {flt : Int32} {Y : zYr} {out : Nat → Int64} (hG : zAl G = false) (ht : tln ≤ 150) (hj9 : wj < 8) (hpt : pos ≤ tln) : zRun G mX0_skipSpaces 0 0 [.ref 111] (zHp S (sa, sb, sc, sd, hcn, hnx, byt, tln, num, (1000 + wj), pos, flt) Y out) (.inr none) (zHp S (sa, sb, sc, sd, hcn, hnx, byt, tln, num, (1000 + wj), (zPs byt tln pos), flt) Y out) := by
  refine zRun_of (by decide +kernel) rfl rfl (Nat.le_of_ble_eq_true rfl) ?_
  suffices hs : ∀ (o9 : zO) (h9 : zH), (Sum.inr none : zO) = o9 → (zHp S (sa, sb, sc, sd, hcn, hnx, byt, tln, num, (1000 + wj), (zPs byt tln pos), flt) Y out) = h9 → zPW G mX0_skipSpaces 0 0 o9 h9 0 0 0 [(0, .ref 111)] [] (zHp S (sa, sb, sc, sd, hcn, hnx, byt, tln, num, (1000 + wj), pos, flt) Y out) from hs _ _ rfl rfl
  intro o9 h9 ho9 hh9
  have L0_1 : ∀ (d k : Nat), k ≤ tln → tln + 1 ≤ k + d → zSk byt tln (tln - pos) pos = zSk byt tln (tln - k) k → zPW G mX0_skipSpaces 0 0 o9 h9 0 0 0 [(0, .ref 111)] [] (zHp S (sa, sb, sc, sd, hcn, hnx, byt, tln, num, (1000 + wj), k, flt) Y out) := by
    intro d
    induction d with
    | zero => intro k hk hd; exact absurd hd (by omega)
    | succ d ih =>
      intro k hk_k hd_k he_k
      have ih0 := ih
      clear ih
      refine z_aload_n 0 dX0_skipSpaces_0 rfl rfl ?_
      refine z_get (v := .int (nI k)) 3 zgo_111 rfl inX0 (by decide) zw_299 rfl rfl dX0_skipSpaces_1 ?_
      refine z_aload_n 0 dX0_skipSpaces_4 rfl rfl ?_
      refine z_get (v := .ref 108) 0 zgo_111 rfl inX0 (by decide) zw_294 rfl rfl dX0_skipSpaces_5 ?_
      refine z_getN (v := .int (nI tln)) 1 zgo_108 rfl inX1 (by decide) (by decide) rfl rfl dX0_skipSpaces_8 ?_
      refine z_icmp_ge (tgt := 43) dX0_skipSpaces_11 (by decide) (fun c_11 => ?_) (fun c_11 => ?_)
      · skip
        have hx_k := zge (by omega) hk_k c_11
        exact z_vret rfl dX0_skipSpaces_43 ho9.symm (zo_h hh9 (by first | (rw [zPs, he_k, show tln - k = (tln - (k + 1)) + 1 by omega, zSk, if_neg c_27]; done) | (rw [zPs, he_k, hx_k, Nat.sub_self, zSk]))) (Nat.zero_le _) (Nat.zero_le _)
      · skip
        have hx_k := zlt' (by omega) hk_k c_11
        refine z_aload_n 0 dX0_skipSpaces_14 rfl rfl ?_
        refine z_get (v := .ref 108) 0 zgo_111 rfl inX0 (by decide) zw_294 rfl rfl dX0_skipSpaces_15 ?_
        refine z_aload_n 0 dX0_skipSpaces_18 rfl rfl ?_
        refine z_get (v := .int (nI k)) 3 zgo_111 rfl inX0 (by decide) zw_299 rfl rfl dX0_skipSpaces_19 ?_
        refine z_callV (N := mX1_at) 1 [.int (nI k)] [] lX1_at ⟨zw_446, zw_447, zw_448⟩ rfl zgo_108 rfl rfl (Nat.le_of_ble_eq_true rfl) (by decide) ⟨zlt, zlt⟩ ⟨Nat.zero_le _, Nat.zero_le _⟩ (fun _ => rfl) (c_tAt hG ht hj9 (by omega) (nI k)) dX0_skipSpaces_22 ?_
        refine z_top (v2 := .int (zTb byt tln k)) (by rw [zTa_n ht (by omega)]) ?_
        refine z_bipush (v := nI 32) dX0_skipSpaces_25 (by decide) ?_
        refine z_icmp_ne (tgt := 43) dX0_skipSpaces_27 (by decide) (fun c_27 => ?_) (fun c_27 => ?_)
        · skip
          exact z_vret rfl dX0_skipSpaces_43 ho9.symm (zo_h hh9 (by first | (rw [zPs, he_k, show tln - k = (tln - (k + 1)) + 1 by omega, zSk, if_neg c_27]; done) | (rw [zPs, he_k, hx_k, Nat.sub_self, zSk]))) (Nat.zero_le _) (Nat.zero_le _)
        · skip
          refine z_aload_n 0 dX0_skipSpaces_30 rfl rfl ?_
          refine z_dup dX0_skipSpaces_31 rfl ?_
          refine z_get (v := .int (nI k)) 3 zgo_111 rfl inX0 (by decide) zw_299 rfl rfl dX0_skipSpaces_32 ?_
          refine z_iconst (v := 1) dX0_skipSpaces_35 (by decide) ?_
          refine z_iadd dX0_skipSpaces_36 ?_
          refine z_top (v2 := .int (nI (k + 1))) (by rw [nI_1]) ?_
          refine z_puti 3 tyX0 zgo_111 rfl inX0 tyX0_ok nmX0 (by decide) zw_299 rfl rfl (by decide +kernel) (Nat.le_of_ble_eq_true rfl) dX0_skipSpaces_37 ?_
          refine z_eqh (h2 := (zHp S (sa, sb, sc, sd, hcn, hnx, byt, tln, num, (1000 + wj), (k + 1), flt) Y out)) zsf_111_3 ?_
          refine z_goto (tgt := 0) dX0_skipSpaces_40 (by decide) ?_
          refine z_sub [0] (lv' := [(0, .ref 111)]) rfl ?_
          refine z_eqs (lv2 := [(0, .ref 111)]) (h2 := (zHp S (sa, sb, sc, sd, hcn, hnx, byt, tln, num, (1000 + wj), (k + 1), flt) Y out)) (by rfl) (by rfl) ?_
          exact ih0 (k + 1) (by omega) (by omega) (by rw [he_k, show tln - k = (tln - (k + 1)) + 1 by omega, zSk, if_pos c_27])
  refine z_sub [0] (lv' := [(0, .ref 111)]) rfl ?_
  refine z_eqs (lv2 := [(0, .ref 111)]) (h2 := (zHp S (sa, sb, sc, sd, hcn, hnx, byt, tln, num, (1000 + wj), pos, flt) Y out)) (by rfl) (by rfl) ?_
  exact L0_1 (tln + 1) pos hpt (by omega) rfl

set_option maxHeartbeats 4000000 in
set_option maxRecDepth 100000 in
theorem c_readNumber {G : zT} {S : zS} {sa sb sc sd : zS} {hcn hnx tln wj pos : Nat} {byt num : Nat → Int32} {flt : Int32} {Y : zYr} {out : Nat → Int64} (hG : zAl G = false) (ht : tln ≤ 150) (hj9 : wj < 8) (hpt : pos ≤ tln) (i : Int32) : zRun G mX0_readNumber 0 0 [.ref 111, .int i] (zHp S (sa, sb, sc, sd, hcn, hnx, byt, tln, num, (1000 + wj), pos, flt) Y out) (.inr (some (.int (zB (decide (pos < (zRd byt tln 3 pos 0).1)))))) (zHp S (sa, sb, sc, sd, hcn, hnx, byt, tln, (zPutN 5 num i (zRd byt tln 3 pos 0).2), (1000 + wj), (zRd byt tln 3 pos 0).1, (if pos < (zRd byt tln 3 pos 0).1 then flt else nI (zRd byt tln 3 pos 0).1)) Y out) := by
  refine zRun_of (by decide +kernel) rfl rfl (Nat.le_of_ble_eq_true rfl) ?_
  suffices hs : ∀ (o9 : zO) (h9 : zH), (Sum.inr (some (.int (zB (decide (pos < (zRd byt tln 3 pos 0).1))))) : zO) = o9 → (zHp S (sa, sb, sc, sd, hcn, hnx, byt, tln, (zPutN 5 num i (zRd byt tln 3 pos 0).2), (1000 + wj), (zRd byt tln 3 pos 0).1, (if pos < (zRd byt tln 3 pos 0).1 then flt else nI (zRd byt tln 3 pos 0).1)) Y out) = h9 → zPW G mX0_readNumber 0 0 o9 h9 0 0 0 [(0, .ref 111), (1, .int i)] [] (zHp S (sa, sb, sc, sd, hcn, hnx, byt, tln, num, (1000 + wj), pos, flt) Y out) from hs _ _ rfl rfl
  intro o9 h9 ho9 hh9
  refine z_iconst (v := 0) dX0_readNumber_0 (by decide) ?_
  refine z_istore_n (lv' := [(2, .int 0), (0, .ref 111), (1, .int i)]) dX0_readNumber_1 rfl (by decide) rfl ?_
  refine z_iconst (v := 0) dX0_readNumber_2 (by decide) ?_
  refine z_istore_n (lv' := [(3, .int 0), (2, .int 0), (0, .ref 111), (1, .int i)]) dX0_readNumber_3 rfl (by decide) rfl ?_
  have L4_1 : ∀ (d k : Nat) (v : Int32), k ≤ 3 → 3 + 1 ≤ k + d → pos + k ≤ tln → (zRd byt tln 3 pos 0) = zRd byt tln (3 - k) (pos + k) v → zPW G mX0_readNumber 0 0 o9 h9 0 0 4 [(3, .int (nI k)), (2, .int v), (0, .ref 111), (1, .int i)] [] (zHp S (sa, sb, sc, sd, hcn, hnx, byt, tln, num, (1000 + wj), (pos + k), flt) Y out) := by
    intro d
    induction d with
    | zero => intro k v hk hd; exact absurd hd (by omega)
    | succ d ih =>
      intro k v hk_k hd_k hq_k he_k
      have ih4 := ih
      clear ih
      refine z_iload_n 0 dX0_readNumber_4 rfl rfl ?_
      refine z_iconst (v := nI 3) dX0_readNumber_5 (by decide) ?_
      refine z_icmp_ge (tgt := 66) dX0_readNumber_6 (by decide) (fun c_6 => ?_) (fun c_6 => ?_)
      · skip
        have hx_k := zge (by omega) hk_k c_6
        have hz : (zRd byt tln 3 pos 0) = (pos + k, v) := by rw [he_k, hx_k]; rfl
        refine z_aload_n 2 dX0_readNumber_66 rfl rfl ?_
        refine z_get (v := .ref 112) 1 zgo_111 rfl inX0 (by decide) zw_295 rfl rfl dX0_readNumber_67 ?_
        refine z_iload_n 3 dX0_readNumber_70 rfl rfl ?_
        refine z_iload_n 1 dX0_readNumber_71 rfl rfl ?_
        refine z_callV (N := mX6_put) 2 [.int i, .int v] [] lX6_put ⟨zw_524, zw_525, zw_526⟩ rfl zgo_112 rfl rfl (Nat.le_of_ble_eq_true rfl) (by decide) ⟨zlt, zlt⟩ ⟨Nat.zero_le _, Nat.zero_le _⟩ zal (c_nPut (g := 112) (v := 113) (n := 5) (f := num) (h1 := (zHp S (sa, sb, sc, sd, hcn, hnx, byt, tln, (zPutN 5 num i v), (1000 + wj), (pos + k), flt) Y out)) (by omega) zlt zgo_112 zga_113 i v zsa_113) dX0_readNumber_72 ?_
        refine z_iload_n 0 dX0_readNumber_75 rfl rfl ?_
        refine z_if_gt (tgt := 90) dX0_readNumber_76 (by decide) (fun c_76 => ?_) (fun c_76 => ?_)
        · skip
          have hk0 : 0 < k := (nI_ltI (a := 0) (b := k) (by omega) (by omega)).mp c_76
          refine z_iconst (v := 1) dX0_readNumber_90 (by decide) ?_
          refine z_goto (tgt := 95) dX0_readNumber_91 (by decide) ?_
          exact z_zret rfl (by rfl) dX0_readNumber_95 (zo_i ho9 (by rw [hz]; first | exact zB_1 (decide_eq_true (show pos < pos + k by omega)) | exact zB_z (decide_eq_false (show ¬ pos < pos + k by omega)))) (zo_h hh9 (by simp only [hz]; first | (rw [if_pos (by omega)]; done) | (rw [if_neg (by omega)]))) (Nat.zero_le _) (Nat.zero_le _)
        · skip
          have hk0 : k = 0 := Nat.eq_zero_of_not_pos fun q => c_76 ((nI_ltI (a := 0) (b := k) (by omega) (by omega)).mpr q)
          refine z_aload_n 2 dX0_readNumber_79 rfl rfl ?_
          refine z_aload_n 2 dX0_readNumber_80 rfl rfl ?_
          refine z_get (v := .int (nI (pos + k))) 3 zgo_111 rfl inX0 (by decide) zw_299 rfl rfl dX0_readNumber_81 ?_
          refine z_callV (N := mX0_failAt) 1 [.int (nI (pos + k))] [] lX0_failAt ⟨zw_512, zw_514, zw_11⟩ rfl zgo_111 rfl rfl (Nat.le_of_ble_eq_true rfl) (by decide) ⟨zlt, zlt⟩ ⟨Nat.zero_le _, Nat.zero_le _⟩ zal (c_failAt hG ht hj9 (by omega) (nI (pos + k))) dX0_readNumber_84 ?_
          refine z_if_eq (tgt := 94) dX0_readNumber_87 (by decide) (fun c_87 => ?_) (fun c_87 => ?_)
          · skip
            refine z_iconst (v := 0) dX0_readNumber_94 (by decide) ?_
            exact z_zret rfl (by rfl) dX0_readNumber_95 (zo_i ho9 (by rw [hz]; first | exact zB_1 (decide_eq_true (show pos < pos + k by omega)) | exact zB_z (decide_eq_false (show ¬ pos < pos + k by omega)))) (zo_h hh9 (by simp only [hz]; first | (rw [if_pos (by omega)]; done) | (rw [if_neg (by omega)]))) (Nat.zero_le _) (Nat.zero_le _)
          · exfalso; exact c_87 rfl
      · skip
        have hx_k := zlt' (by omega) hk_k c_6
        refine z_bipush (v := nI 48) dX0_readNumber_9 (by decide) ?_
        refine z_aload_n 2 dX0_readNumber_11 rfl rfl ?_
        refine z_get (v := .ref 108) 0 zgo_111 rfl inX0 (by decide) zw_294 rfl rfl dX0_readNumber_12 ?_
        refine z_aload_n 2 dX0_readNumber_15 rfl rfl ?_
        refine z_get (v := .int (nI (pos + k))) 3 zgo_111 rfl inX0 (by decide) zw_299 rfl rfl dX0_readNumber_16 ?_
        refine z_callV (N := mX1_at) 1 [.int (nI (pos + k))] [.int (nI 48)] lX1_at ⟨zw_446, zw_447, zw_448⟩ rfl zgo_108 rfl rfl (Nat.le_of_ble_eq_true rfl) (by decide) ⟨zlt, zlt⟩ ⟨Nat.zero_le _, Nat.zero_le _⟩ (fun _ => rfl) (c_tAt hG ht hj9 (by omega) (nI (pos + k))) dX0_readNumber_19 ?_
        refine z_top (v2 := .int (zTb byt tln (pos + k))) (by rw [zTa_n ht (by omega)]) ?_
        refine z_bipush (v := nI 57) dX0_readNumber_22 (by decide) ?_
        refine z_callSN (N := mX9_isFrom) 3 [.int (nI 48), .int (zTb byt tln (pos + k)), .int (nI 57)] [] lX9_isFrom ⟨by decide, zw_456⟩ rfl rfl (Nat.le_of_ble_eq_true rfl) (by decide) ⟨zlt, zlt⟩ hG ⟨Nat.zero_le _, Nat.zero_le _⟩ (c_isFrom hG zlt (nI 48) (zTb byt tln (pos + k)) (nI 57)) dX0_readNumber_24 ?_
        refine z_if_eq (tgt := 66) dX0_readNumber_27 (by decide) (fun c_27 => ?_) (fun c_27 => ?_)
        · skip
          have b_27 := zB_0.mp c_27
          have hz : (zRd byt tln 3 pos 0) = (pos + k, v) := by rw [he_k, show 3 - k = (3 - (k + 1)) + 1 by omega, zRd, if_neg (by rw [b_27]; exact Bool.false_ne_true)]
          refine z_aload_n 2 dX0_readNumber_66 rfl rfl ?_
          refine z_get (v := .ref 112) 1 zgo_111 rfl inX0 (by decide) zw_295 rfl rfl dX0_readNumber_67 ?_
          refine z_iload_n 3 dX0_readNumber_70 rfl rfl ?_
          refine z_iload_n 1 dX0_readNumber_71 rfl rfl ?_
          refine z_callV (N := mX6_put) 2 [.int i, .int v] [] lX6_put ⟨zw_524, zw_525, zw_526⟩ rfl zgo_112 rfl rfl (Nat.le_of_ble_eq_true rfl) (by decide) ⟨zlt, zlt⟩ ⟨Nat.zero_le _, Nat.zero_le _⟩ zal (c_nPut (g := 112) (v := 113) (n := 5) (f := num) (h1 := (zHp S (sa, sb, sc, sd, hcn, hnx, byt, tln, (zPutN 5 num i v), (1000 + wj), (pos + k), flt) Y out)) (by omega) zlt zgo_112 zga_113 i v zsa_113) dX0_readNumber_72 ?_
          refine z_iload_n 0 dX0_readNumber_75 rfl rfl ?_
          refine z_if_gt (tgt := 90) dX0_readNumber_76 (by decide) (fun c_76 => ?_) (fun c_76 => ?_)
          · skip
            have hk0 : 0 < k := (nI_ltI (a := 0) (b := k) (by omega) (by omega)).mp c_76
            refine z_iconst (v := 1) dX0_readNumber_90 (by decide) ?_
            refine z_goto (tgt := 95) dX0_readNumber_91 (by decide) ?_
            exact z_zret rfl (by rfl) dX0_readNumber_95 (zo_i ho9 (by rw [hz]; first | exact zB_1 (decide_eq_true (show pos < pos + k by omega)) | exact zB_z (decide_eq_false (show ¬ pos < pos + k by omega)))) (zo_h hh9 (by simp only [hz]; first | (rw [if_pos (by omega)]; done) | (rw [if_neg (by omega)]))) (Nat.zero_le _) (Nat.zero_le _)
          · skip
            have hk0 : k = 0 := Nat.eq_zero_of_not_pos fun q => c_76 ((nI_ltI (a := 0) (b := k) (by omega) (by omega)).mpr q)
            refine z_aload_n 2 dX0_readNumber_79 rfl rfl ?_
            refine z_aload_n 2 dX0_readNumber_80 rfl rfl ?_
            refine z_get (v := .int (nI (pos + k))) 3 zgo_111 rfl inX0 (by decide) zw_299 rfl rfl dX0_readNumber_81 ?_
            refine z_callV (N := mX0_failAt) 1 [.int (nI (pos + k))] [] lX0_failAt ⟨zw_512, zw_514, zw_11⟩ rfl zgo_111 rfl rfl (Nat.le_of_ble_eq_true rfl) (by decide) ⟨zlt, zlt⟩ ⟨Nat.zero_le _, Nat.zero_le _⟩ zal (c_failAt hG ht hj9 (by omega) (nI (pos + k))) dX0_readNumber_84 ?_
            refine z_if_eq (tgt := 94) dX0_readNumber_87 (by decide) (fun c_87 => ?_) (fun c_87 => ?_)
            · skip
              refine z_iconst (v := 0) dX0_readNumber_94 (by decide) ?_
              exact z_zret rfl (by rfl) dX0_readNumber_95 (zo_i ho9 (by rw [hz]; first | exact zB_1 (decide_eq_true (show pos < pos + k by omega)) | exact zB_z (decide_eq_false (show ¬ pos < pos + k by omega)))) (zo_h hh9 (by simp only [hz]; first | (rw [if_pos (by omega)]; done) | (rw [if_neg (by omega)]))) (Nat.zero_le _) (Nat.zero_le _)
            · exfalso; exact c_87 rfl
        · skip
          have b_27 := zB_tt c_27
          have hpl := zTb_fr (by decide) b_27
          refine z_iload_n 1 dX0_readNumber_30 rfl rfl ?_
          refine z_bipush (v := nI 10) dX0_readNumber_31 (by decide) ?_
          refine z_imul dX0_readNumber_33 ?_
          refine z_aload_n 2 dX0_readNumber_34 rfl rfl ?_
          refine z_get (v := .ref 108) 0 zgo_111 rfl inX0 (by decide) zw_294 rfl rfl dX0_readNumber_35 ?_
          refine z_aload_n 2 dX0_readNumber_38 rfl rfl ?_
          refine z_get (v := .int (nI (pos + k))) 3 zgo_111 rfl inX0 (by decide) zw_299 rfl rfl dX0_readNumber_39 ?_
          refine z_callV (N := mX1_at) 1 [.int (nI (pos + k))] [.int (v * (nI 10))] lX1_at ⟨zw_446, zw_447, zw_448⟩ rfl zgo_108 rfl rfl (Nat.le_of_ble_eq_true rfl) (by decide) ⟨zlt, zlt⟩ ⟨Nat.zero_le _, Nat.zero_le _⟩ (fun _ => rfl) (c_tAt hG ht hj9 (by omega) (nI (pos + k))) dX0_readNumber_42 ?_
          refine z_top (v2 := .int (zTb byt tln (pos + k))) (by rw [zTa_n ht (by omega)]) ?_
          refine z_iadd dX0_readNumber_45 ?_
          refine z_bipush (v := nI 48) dX0_readNumber_46 (by decide) ?_
          refine z_isub dX0_readNumber_48 ?_
          refine z_istore_n (lv' := [(2, .int (((v * (nI 10)) + (zTb byt tln (pos + k))) - (nI 48))), (3, .int (nI k)), (0, .ref 111), (1, .int i)]) dX0_readNumber_49 rfl (by decide) rfl ?_
          refine z_iinc (v := nI (k + 1)) (lv' := [(3, .int (nI (k + 1))), (2, .int (((v * (nI 10)) + (zTb byt tln (pos + k))) - (nI 48))), (0, .ref 111), (1, .int i)]) 1 dX0_readNumber_50 rfl (nI_1 k) (by decide) rfl ?_
          refine z_aload_n 2 dX0_readNumber_53 rfl rfl ?_
          refine z_dup dX0_readNumber_54 rfl ?_
          refine z_get (v := .int (nI (pos + k))) 3 zgo_111 rfl inX0 (by decide) zw_299 rfl rfl dX0_readNumber_55 ?_
          refine z_iconst (v := 1) dX0_readNumber_58 (by decide) ?_
          refine z_iadd dX0_readNumber_59 ?_
          refine z_top (v2 := .int (nI (pos + (k + 1)))) (by rw [← Nat.add_assoc, nI_1]) ?_
          refine z_puti 3 tyX0 zgo_111 rfl inX0 tyX0_ok nmX0 (by decide) zw_299 rfl rfl (by decide +kernel) (Nat.le_of_ble_eq_true rfl) dX0_readNumber_60 ?_
          refine z_eqh (h2 := (zHp S (sa, sb, sc, sd, hcn, hnx, byt, tln, num, (1000 + wj), (pos + (k + 1)), flt) Y out)) zsf_111_3 ?_
          refine z_goto (tgt := 4) dX0_readNumber_63 (by decide) ?_
          refine z_sub [0, 1, 2, 3] (lv' := [(3, .int (nI (k + 1))), (2, .int (((v * (nI 10)) + (zTb byt tln (pos + k))) - (nI 48))), (0, .ref 111), (1, .int i)]) rfl ?_
          refine z_eqs (lv2 := [(3, .int (nI (k + 1))), (2, .int (v * nI 10 + zTb byt tln (pos + k) - nI 48)), (0, .ref 111), (1, .int i)]) (h2 := (zHp S (sa, sb, sc, sd, hcn, hnx, byt, tln, num, (1000 + wj), (pos + (k + 1)), flt) Y out)) (by rfl) (by rfl) ?_
          exact ih4 (k + 1) (v * nI 10 + zTb byt tln (pos + k) - nI 48) (by omega) (by omega) (by omega) (by rw [he_k, show 3 - k = (3 - (k + 1)) + 1 by omega, zRd, if_pos b_27]; rfl)
  refine z_sub [0, 1, 2, 3] (lv' := [(3, .int 0), (2, .int 0), (0, .ref 111), (1, .int i)]) rfl ?_
  refine z_eqs (lv2 := [(3, .int (nI 0)), (2, .int 0), (0, .ref 111), (1, .int i)]) (h2 := (zHp S (sa, sb, sc, sd, hcn, hnx, byt, tln, num, (1000 + wj), (pos + 0), flt) Y out)) (by rfl) (by rfl) ?_
  exact L4_1 (3 + 1) 0 0 (Nat.zero_le _) (by omega) hpt rfl

set_option maxHeartbeats 4000000 in
set_option maxRecDepth 100000 in
theorem c_readSemi {G : zT} {S : zS} {sa sb sc sd : zS} {hcn hnx tln wj pos : Nat} {byt num : Nat → Int32} {flt : Int32} {Y : zYr} {out : Nat → Int64} (hG : zAl G = false) (ht : tln ≤ 150) (hj9 : wj < 8) (hpt : pos ≤ tln) : zRun G mX0_readSemicolon 0 0 [.ref 111] (zHp S (sa, sb, sc, sd, hcn, hnx, byt, tln, num, (1000 + wj), pos, flt) Y out) (.inr (some (.int (zB (zTb byt tln (zPs byt tln pos) == nI 59))))) (zHp S (sa, sb, sc, sd, hcn, hnx, byt, tln, num, (1000 + wj), (if zTb byt tln (zPs byt tln pos) = nI 59 then (zPs byt tln pos) + 1 else (zPs byt tln pos)), (if zTb byt tln (zPs byt tln pos) = nI 59 then flt else nI (zPs byt tln pos))) Y out) := by
  have hps := zPs_b (byt := byt) hpt
  refine zRun_of (by decide +kernel) rfl rfl (Nat.le_of_ble_eq_true rfl) ?_
  suffices hs : ∀ (o9 : zO) (h9 : zH), (Sum.inr (some (.int (zB (zTb byt tln (zPs byt tln pos) == nI 59)))) : zO) = o9 → (zHp S (sa, sb, sc, sd, hcn, hnx, byt, tln, num, (1000 + wj), (if zTb byt tln (zPs byt tln pos) = nI 59 then (zPs byt tln pos) + 1 else (zPs byt tln pos)), (if zTb byt tln (zPs byt tln pos) = nI 59 then flt else nI (zPs byt tln pos))) Y out) = h9 → zPW G mX0_readSemicolon 0 0 o9 h9 0 0 0 [(0, .ref 111)] [] (zHp S (sa, sb, sc, sd, hcn, hnx, byt, tln, num, (1000 + wj), pos, flt) Y out) from hs _ _ rfl rfl
  intro o9 h9 ho9 hh9
  refine z_aload_n 0 dX0_readSemicolon_0 rfl rfl ?_
  refine z_callV (N := mX0_skipSpaces) 0 [] [] lX0_skipSpaces ⟨zw_442, zw_444, zw_8⟩ rfl zgo_111 rfl rfl (Nat.le_of_ble_eq_true rfl) (by decide) ⟨zlt, zlt⟩ ⟨Nat.zero_le _, Nat.zero_le _⟩ zal (c_skip hG ht hj9 (by omega)) dX0_readSemicolon_1 ?_
  refine z_aload_n 0 dX0_readSemicolon_4 rfl rfl ?_
  refine z_get (v := .ref 108) 0 zgo_111 rfl inX0 (by decide) zw_294 rfl rfl dX0_readSemicolon_5 ?_
  refine z_aload_n 0 dX0_readSemicolon_8 rfl rfl ?_
  refine z_get (v := .int (nI (zPs byt tln pos))) 3 zgo_111 rfl inX0 (by decide) zw_299 rfl rfl dX0_readSemicolon_9 ?_
  refine z_callV (N := mX1_at) 1 [.int (nI (zPs byt tln pos))] [] lX1_at ⟨zw_446, zw_447, zw_448⟩ rfl zgo_108 rfl rfl (Nat.le_of_ble_eq_true rfl) (by decide) ⟨zlt, zlt⟩ ⟨Nat.zero_le _, Nat.zero_le _⟩ (fun _ => rfl) (c_tAt hG ht hj9 (by omega) (nI (zPs byt tln pos))) dX0_readSemicolon_12 ?_
  refine z_top (v2 := .int (zTb byt tln (zPs byt tln pos))) (by rw [zTa_n ht (by omega)]) ?_
  refine z_bipush (v := nI 59) dX0_readSemicolon_15 (by decide) ?_
  refine z_icmp_eq (tgt := 29) dX0_readSemicolon_17 (by decide) (fun c_17 => ?_) (fun c_17 => ?_)
  · skip
    refine z_aload_n 0 dX0_readSemicolon_29 rfl rfl ?_
    refine z_dup dX0_readSemicolon_30 rfl ?_
    refine z_get (v := .int (nI (zPs byt tln pos))) 3 zgo_111 rfl inX0 (by decide) zw_299 rfl rfl dX0_readSemicolon_31 ?_
    refine z_iconst (v := 1) dX0_readSemicolon_34 (by decide) ?_
    refine z_iadd dX0_readSemicolon_35 ?_
    refine z_top (v2 := .int (nI ((zPs byt tln pos) + 1))) (by rw [nI_1]) ?_
    refine z_puti 3 tyX0 zgo_111 rfl inX0 tyX0_ok nmX0 (by decide) zw_299 rfl rfl (by decide +kernel) (Nat.le_of_ble_eq_true rfl) dX0_readSemicolon_36 ?_
    refine z_eqh (h2 := (zHp S (sa, sb, sc, sd, hcn, hnx, byt, tln, num, (1000 + wj), ((zPs byt tln pos) + 1), flt) Y out)) zsf_111_3 ?_
    refine z_iconst (v := 1) dX0_readSemicolon_39 (by decide) ?_
    exact z_zret rfl (by rfl) dX0_readSemicolon_40 (zo_i ho9 (by rw [zB_1 (beq_iff_eq.mpr c_17)])) (zo_h hh9 (by rw [if_pos c_17, if_pos c_17])) (Nat.zero_le _) (Nat.zero_le _)
  · skip
    refine z_aload_n 0 dX0_readSemicolon_20 rfl rfl ?_
    refine z_aload_n 0 dX0_readSemicolon_21 rfl rfl ?_
    refine z_get (v := .int (nI (zPs byt tln pos))) 3 zgo_111 rfl inX0 (by decide) zw_299 rfl rfl dX0_readSemicolon_22 ?_
    refine z_callV (N := mX0_failAt) 1 [.int (nI (zPs byt tln pos))] [] lX0_failAt ⟨zw_512, zw_514, zw_11⟩ rfl zgo_111 rfl rfl (Nat.le_of_ble_eq_true rfl) (by decide) ⟨zlt, zlt⟩ ⟨Nat.zero_le _, Nat.zero_le _⟩ zal (c_failAt hG ht hj9 (by omega) (nI (zPs byt tln pos))) dX0_readSemicolon_25 ?_
    exact z_zret rfl (by rfl) dX0_readSemicolon_28 (zo_i ho9 (by rw [zB_z (beq_eq_false_iff_ne.mpr c_17)])) (zo_h hh9 (by rw [if_neg c_17, if_neg c_17])) (Nat.zero_le _) (Nat.zero_le _)

