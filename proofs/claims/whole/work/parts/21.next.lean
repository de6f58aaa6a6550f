/-- commands are read, d at most -/
def zFF (byt : Nat → Int32) (tln : Nat) : Nat → zQ4 → zQ4
  | 0, s => s
  | d + 1, s => if (zNx byt tln s).1 then zFF byt tln d (zNx byt tln s).2 else (zNx byt tln s).2
theorem zFF_ok {byt : Nat → Int32} {tln : Nat} : ∀ (d : Nat) {s : zQ4}, zOk4 tln s → zOk4 tln (zFF byt tln d s)
  | 0, s, h => h
  | d + 1, s, h => by
    unfold zFF
    split
    · exact zFF_ok d (zNx_ok h)
    · exact zNx_ok h

set_option maxHeartbeats 4000000 in
set_option maxRecDepth 100000 in
theorem c_readSemi4 {G : zT} {S : zS} {sa sb sc sd : zS} {hcn hnx tln wj pos : Nat} {byt num : Nat → Int32} {flt : Int32} {Y : zYr} {out : Nat → Int64} (hG : zAl G = false) (ht : tln ≤ 150) (hj9 : wj < 8) (hpt : pos ≤ tln) : zRun G mX0_readSemicolon 0 0 [.ref 111] (zHp S (sa, sb, sc, sd, hcn, hnx, byt, tln, num, (1000 + wj), pos, flt) Y out) (.inr (some (.int (zB (zRS byt tln (num, wj, pos, flt)).1)))) (zHp S (sa, sb, sc, sd, hcn, hnx, byt, tln, (zRS byt tln (num, wj, pos, flt)).2.1, (1000 + (zRS byt tln (num, wj, pos, flt)).2.2.1), (zRS byt tln (num, wj, pos, flt)).2.2.2.1, (zRS byt tln (num, wj, pos, flt)).2.2.2.2) Y out) := by
  have hps := zPs_b (byt := byt) hpt
  refine zRun_of (by decide +kernel) rfl rfl (Nat.le_of_ble_eq_true rfl) ?_
  suffices hs : ∀ (o9 : zO) (h9 : zH), (Sum.inr (some (.int (zB (zRS byt tln (num, wj, pos, flt)).1))) : zO) = o9 → (zHp S (sa, sb, sc, sd, hcn, hnx, byt, tln, (zRS byt tln (num, wj, pos, flt)).2.1, (1000 + (zRS byt tln (num, wj, pos, flt)).2.2.1), (zRS byt tln (num, wj, pos, flt)).2.2.2.1, (zRS byt tln (num, wj, pos, flt)).2.2.2.2) Y out) = h9 → zPW G mX0_readSemicolon 0 0 o9 h9 0 0 0 [(0, .ref 111)] [] (zHp S (sa, sb, sc, sd, hcn, hnx, byt, tln, num, (1000 + wj), pos, flt) Y out) from hs _ _ rfl rfl
  intro o9 h9 ho9 hh9
  refine z_aload_n 0 dX0_readSemicolon_0 rfl rfl ?_
  refine z_callV (N := mX0_skipSpaces) 0 [] [] lX0_skipSpaces ⟨zw_442, zw_444, zw_8⟩ rfl zgo_111 rfl rfl (Nat.le_of_ble_eq_true rfl) (by decide) ⟨zlt, zlt⟩ ⟨Nat.zero_le _, Nat.zero_le _⟩ zal (c_skip hG ht hj9 (by omega)) dX0_readSemicolon_1 ?_
  refine z_aload_n 0 dX0_readSemicolon_4 rfl rfl ?_
  refine z_get (v := .ref 108) 0 zgo_111 rfl inX0 (by decide) zw_294 rfl rfl dX0_readSemicolon_5 ?_
  refine z_aload_n 0 dX0_readSemicolon_8 rfl rfl ?_
  refine z_get (v := .int (nI (zPs byt tln pos))) 3 zgo_111 rfl inX0 (by decide) zw_299 rfl rfl dX0_readSemicolon_9 ?_
  refine z_callV (N := mX1_at) 1 [.int (nI (zPs byt tln pos))] [] lX1_at ⟨zw_446, zw_447, zw_448⟩ rfl zgo_108 rfl rfl (Nat.le_of_ble_eq_true rfl) (by decide) ⟨zlt, zlt⟩ ⟨Nat.zero_le _, Nat.zero_le _⟩ (fun _ => rfl) (c_tAt hG ht hj9 (by omega) (nI (zPs byt tln pos))) dX0_readSemicolon_12 ?_
  refine z_top (v2 := .int (zTb byt tln (zPs byt tln pos))) (by rw [zTa_n ht (by omega)]) ?_
  refine z_bipush (v := nI 59) dX0_readSemicolon_15 (by decide) ?_
  refine z_icmp_eq (tgt := 29) dX0_readSemicolon_17 (by decide) (fun c_17 => ?_) (fun c_17 => ?_)
  · skip
    have hq : (zRS byt tln (num, wj, pos, flt)) = (true, (num, wj, zPs byt tln pos + 1, flt)) := if_pos c_17
    refine z_aload_n 0 dX0_readSemicolon_29 rfl rfl ?_
    refine z_dup dX0_readSemicolon_30 rfl ?_
    refine z_get (v := .int (nI (zPs byt tln pos))) 3 zgo_111 rfl inX0 (by decide) zw_299 rfl rfl dX0_readSemicolon_31 ?_
    refine z_iconst (v := 1) dX0_readSemicolon_34 (by decide) ?_
    refine z_iadd dX0_readSemicolon_35 ?_
    refine z_top (v2 := .int (nI ((zPs byt tln pos) + 1))) (by rw [nI_1]) ?_
    refine z_puti 3 tyX0 zgo_111 rfl inX0 tyX0_ok nmX0 (by decide) zw_299 rfl rfl (by decide +kernel) (Nat.le_of_ble_eq_true rfl) dX0_readSemicolon_36 ?_
    refine z_eqh (h2 := (zHp S (sa, sb, sc, sd, hcn, hnx, byt, tln, num, (1000 + wj), ((zPs byt tln pos) + 1), flt) Y out)) zsf_111_3 ?_
    refine z_iconst (v := 1) dX0_readSemicolon_39 (by decide) ?_
    exact z_zret rfl (by rfl) dX0_readSemicolon_40 (zo_i ho9 (by rw [hq]; rfl)) (zo_h hh9 (by rw [hq])) (Nat.zero_le _) (Nat.zero_le _)
  · skip
    have hq : (zRS byt tln (num, wj, pos, flt)) = (false, (num, wj, zPs byt tln pos, nI (zPs byt tln pos))) := if_neg c_17
    refine z_aload_n 0 dX0_readSemicolon_20 rfl rfl ?_
    refine z_aload_n 0 dX0_readSemicolon_21 rfl rfl ?_
    refine z_get (v := .int (nI (zPs byt tln pos))) 3 zgo_111 rfl inX0 (by decide) zw_299 rfl rfl dX0_readSemicolon_22 ?_
    refine z_callV (N := mX0_failAt) 1 [.int (nI (zPs byt tln pos))] [] lX0_failAt ⟨zw_512, zw_514, zw_11⟩ rfl zgo_111 rfl rfl (Nat.le_of_ble_eq_true rfl) (by decide) ⟨zlt, zlt⟩ ⟨Nat.zero_le _, Nat.zero_le _⟩ zal (c_failAt hG ht hj9 (by omega) (nI (zPs byt tln pos))) dX0_readSemicolon_25 ?_
    exact z_zret rfl (by rfl) dX0_readSemicolon_28 (zo_i ho9 (by rw [hq]; rfl)) (zo_h hh9 (by rw [hq])) (Nat.zero_le _) (Nat.zero_le _)

set_option maxHeartbeats 4000000 in
set_option maxRecDepth 100000 in
theorem c_readNext {G : zT} {S : zS} {sa sb sc sd : zS} {hcn hnx tln wj pos : Nat} {byt num : Nat → Int32} {flt : Int32} {Y : zYr} {out : Nat → Int64} (hG : zAl G = false) (ht : tln ≤ 150) (hj9 : wj < 8) (hpt : pos ≤ tln) : zRun G mX0_readNext 0 0 [.ref 111] (zHp S (sa, sb, sc, sd, hcn, hnx, byt, tln, num, (1000 + wj), pos, flt) Y out) (.inr (some (.int (zB (zNx byt tln (num, wj, pos, flt)).1)))) (zHp S (sa, sb, sc, sd, hcn, hnx, byt, tln, (zNx byt tln (num, wj, pos, flt)).2.1, (1000 + (zNx byt tln (num, wj, pos, flt)).2.2.1), (zNx byt tln (num, wj, pos, flt)).2.2.2.1, (zNx byt tln (num, wj, pos, flt)).2.2.2.2) Y out) := by
  have hps := zPs_b (byt := byt) hpt
  refine zRun_of (by decide +kernel) rfl rfl (Nat.le_of_ble_eq_true rfl) ?_
  suffices hs : ∀ (o9 : zO) (h9 : zH), (Sum.inr (some (.int (zB (zNx byt tln (num, wj, pos, flt)).1))) : zO) = o9 → (zHp S (sa, sb, sc, sd, hcn, hnx, byt, tln, (zNx byt tln (num, wj, pos, flt)).2.1, (1000 + (zNx byt tln (num, wj, pos, flt)).2.2.1), (zNx byt tln (num, wj, pos, flt)).2.2.2.1, (zNx byt tln (num, wj, pos, flt)).2.2.2.2) Y out) = h9 → zPW G mX0_readNext 0 0 o9 h9 0 0 0 [(0, .ref 111)] [] (zHp S (sa, sb, sc, sd, hcn, hnx, byt, tln, num, (1000 + wj), pos, flt) Y out) from hs _ _ rfl rfl
  intro o9 h9 ho9 hh9
  refine z_aload_n 0 dX0_readNext_0 rfl rfl ?_
  refine z_callV (N := mX0_skipSpaces) 0 [] [] lX0_skipSpaces ⟨zw_442, zw_444, zw_8⟩ rfl zgo_111 rfl rfl (Nat.le_of_ble_eq_true rfl) (by decide) ⟨zlt, zlt⟩ ⟨Nat.zero_le _, Nat.zero_le _⟩ zal (c_skip hG ht (by omega) (by omega)) dX0_readNext_1 ?_
  refine z_aload_n 0 dX0_readNext_4 rfl rfl ?_
  refine z_get (v := .int (nI (zPs byt tln pos))) 3 zgo_111 rfl inX0 (by decide) zw_299 rfl rfl dX0_readNext_5 ?_
  refine z_aload_n 0 dX0_readNext_8 rfl rfl ?_
  refine z_get (v := .ref 108) 0 zgo_111 rfl inX0 (by decide) zw_294 rfl rfl dX0_readNext_9 ?_
  refine z_getN (v := .int (nI tln)) 1 zgo_108 rfl inX1 (by decide) (by decide) rfl rfl dX0_readNext_12 ?_
  refine z_icmp_ge (tgt := 43) dX0_readNext_15 (by decide) (fun c_15 => ?_) (fun c_15 => ?_)
  · skip
    have hlt : tln ≤ zPs byt tln pos := (nI_leI (by omega) (by omega)).mp c_15
    have hq : (zNx byt tln (num, wj, pos, flt)) = (false, (num, wj, zPs byt tln pos, flt)) := if_pos hlt
    refine z_iconst (v := 0) dX0_readNext_43 (by decide) ?_
    exact z_zret rfl (by rfl) dX0_readNext_44 (zo_i ho9 (by rw [hq]; first | rfl | exact zB_1 b_36 | exact zB_z b_36)) (zo_h hh9 (by rw [hq])) (Nat.zero_le _) (Nat.zero_le _)
  · skip
    have hlt : ¬ tln ≤ zPs byt tln pos := fun q => c_15 ((nI_leI (by omega) (by omega)).mpr q)
    refine z_aload_n 0 dX0_readNext_18 rfl rfl ?_
    refine z_callV (N := mX0_readWord) 0 [] [] lX0_readWord ⟨zw_451, zw_453, zw_9⟩ rfl zgo_111 rfl rfl (Nat.le_of_ble_eq_true rfl) (by decide) ⟨zlt, zlt⟩ ⟨Nat.zero_le _, Nat.zero_le _⟩ zal (c_readWord hG ht (by omega) (by omega)) dX0_readNext_19 ?_
    have hk1 : (zRW byt tln (num, wj, (zPs byt tln pos), flt)).2.2.1 < 8 ∧ (zRW byt tln (num, wj, (zPs byt tln pos), flt)).2.2.2.1 ≤ tln := zRW_ok (byt := byt) (s := (num, wj, zPs byt tln pos, flt)) ⟨hj9, hps.2⟩
    refine z_if_eq (tgt := 43) dX0_readNext_22 (by decide) (fun c_22 => ?_) (fun c_22 => ?_)
    · skip
      have b_22 := zB_0.mp c_22
      have hq : (zNx byt tln (num, wj, pos, flt)) = (false, ((zRW byt tln (num, wj, (zPs byt tln pos), flt)).2.1, (zRW byt tln (num, wj, (zPs byt tln pos), flt)).2.2.1, (zRW byt tln (num, wj, (zPs byt tln pos), flt)).2.2.2.1, (zRW byt tln (num, wj, (zPs byt tln pos), flt)).2.2.2.2)) := by
        show (if tln ≤ zPs byt tln pos then _ else if (zRW byt tln (num, wj, (zPs byt tln pos), flt)).1 = true then _ else _) = _
        rw [if_neg hlt, if_neg (by rw [b_22]; exact Bool.false_ne_true)]
      refine z_iconst (v := 0) dX0_readNext_43 (by decide) ?_
      exact z_zret rfl (by rfl) dX0_readNext_44 (zo_i ho9 (by rw [hq]; first | rfl | exact zB_1 b_36 | exact zB_z b_36)) (zo_h hh9 (by rw [hq])) (Nat.zero_le _) (Nat.zero_le _)
    · skip
      have b_22 := zB_tt c_22
      refine z_aload_n 0 dX0_readNext_25 rfl rfl ?_
      refine z_callV (N := mX0_readNumbers) 0 [] [] lX0_readNumbers ⟨zw_516, zw_518, zw_12⟩ rfl zgo_111 rfl rfl (Nat.le_of_ble_eq_true rfl) (by decide) ⟨zlt, zlt⟩ ⟨Nat.zero_le _, Nat.zero_le _⟩ zal (c_readNumbers hG ht (by omega) (by omega)) dX0_readNext_26 ?_
      have hk2 : (zRN byt tln (zWq (zRW byt tln (num, wj, (zPs byt tln pos), flt)).2.2.1) 0 ((zRW byt tln (num, wj, (zPs byt tln pos), flt)).2.1, (zRW byt tln (num, wj, (zPs byt tln pos), flt)).2.2.1, (zRW byt tln (num, wj, (zPs byt tln pos), flt)).2.2.2.1, (zRW byt tln (num, wj, (zPs byt tln pos), flt)).2.2.2.2)).2.2.1 < 8 ∧ (zRN byt tln (zWq (zRW byt tln (num, wj, (zPs byt tln pos), flt)).2.2.1) 0 ((zRW byt tln (num, wj, (zPs byt tln pos), flt)).2.1, (zRW byt tln (num, wj, (zPs byt tln pos), flt)).2.2.1, (zRW byt tln (num, wj, (zPs byt tln pos), flt)).2.2.2.1, (zRW byt tln (num, wj, (zPs byt tln pos), flt)).2.2.2.2)).2.2.2.1 ≤ tln := zRN_ok (byt := byt) (zWq (zRW byt tln (num, wj, (zPs byt tln pos), flt)).2.2.1) 0 (s := ((zRW byt tln (num, wj, (zPs byt tln pos), flt)).2.1, (zRW byt tln (num, wj, (zPs byt tln pos), flt)).2.2.1, (zRW byt tln (num, wj, (zPs byt tln pos), flt)).2.2.2.1, (zRW byt tln (num, wj, (zPs byt tln pos), flt)).2.2.2.2)) hk1
      refine z_if_eq (tgt := 43) dX0_readNext_29 (by decide) (fun c_29 => ?_) (fun c_29 => ?_)
      · skip
        have b_29 := zB_0.mp c_29
        have hq : (zNx byt tln (num, wj, pos, flt)) = (false, ((zRN byt tln (zWq (zRW byt tln (num, wj, (zPs byt tln pos), flt)).2.2.1) 0 ((zRW byt tln (num, wj, (zPs byt tln pos), flt)).2.1, (zRW byt tln (num, wj, (zPs byt tln pos), flt)).2.2.1, (zRW byt tln (num, wj, (zPs byt tln pos), flt)).2.2.2.1, (zRW byt tln (num, wj, (zPs byt tln pos), flt)).2.2.2.2)).2.1, (zRN byt tln (zWq (zRW byt tln (num, wj, (zPs byt tln pos), flt)).2.2.1) 0 ((zRW byt tln (num, wj, (zPs byt tln pos), flt)).2.1, (zRW byt tln (num, wj, (zPs byt tln pos), flt)).2.2.1, (zRW byt tln (num, wj, (zPs byt tln pos), flt)).2.2.2.1, (zRW byt tln (num, wj, (zPs byt tln pos), flt)).2.2.2.2)).2.2.1, (zRN byt tln (zWq (zRW byt tln (num, wj, (zPs byt tln pos), flt)).2.2.1) 0 ((zRW byt tln (num, wj, (zPs byt tln pos), flt)).2.1, (zRW byt tln (num, wj, (zPs byt tln pos), flt)).2.2.1, (zRW byt tln (num, wj, (zPs byt tln pos), flt)).2.2.2.1, (zRW byt tln (num, wj, (zPs byt tln pos), flt)).2.2.2.2)).2.2.2.1, (zRN byt tln (zWq (zRW byt tln (num, wj, (zPs byt tln pos), flt)).2.2.1) 0 ((zRW byt tln (num, wj, (zPs byt tln pos), flt)).2.1, (zRW byt tln (num, wj, (zPs byt tln pos), flt)).2.2.1, (zRW byt tln (num, wj, (zPs byt tln pos), flt)).2.2.2.1, (zRW byt tln (num, wj, (zPs byt tln pos), flt)).2.2.2.2)).2.2.2.2)) := by
          show (if tln ≤ zPs byt tln pos then _ else if (zRW byt tln (num, wj, (zPs byt tln pos), flt)).1 = true then _ else _) = _
          rw [if_neg hlt, if_pos b_22]
          exact if_neg (by rw [b_29]; exact Bool.false_ne_true)
        refine z_iconst (v := 0) dX0_readNext_43 (by decide) ?_
        exact z_zret rfl (by rfl) dX0_readNext_44 (zo_i ho9 (by rw [hq]; first | rfl | exact zB_1 b_36 | exact zB_z b_36)) (zo_h hh9 (by rw [hq])) (Nat.zero_le _) (Nat.zero_le _)
      · skip
        have b_29 := zB_tt c_29
        have hq : (zNx byt tln (num, wj, pos, flt)) = (zRS byt tln ((zRN byt tln (zWq (zRW byt tln (num, wj, (zPs byt tln pos), flt)).2.2.1) 0 ((zRW byt tln (num, wj, (zPs byt tln pos), flt)).2.1, (zRW byt tln (num, wj, (zPs byt tln pos), flt)).2.2.1, (zRW byt tln (num, wj, (zPs byt tln pos), flt)).2.2.2.1, (zRW byt tln (num, wj, (zPs byt tln pos), flt)).2.2.2.2)).2.1, (zRN byt tln (zWq (zRW byt tln (num, wj, (zPs byt tln pos), flt)).2.2.1) 0 ((zRW byt tln (num, wj, (zPs byt tln pos), flt)).2.1, (zRW byt tln (num, wj, (zPs byt tln pos), flt)).2.2.1, (zRW byt tln (num, wj, (zPs byt tln pos), flt)).2.2.2.1, (zRW byt tln (num, wj, (zPs byt tln pos), flt)).2.2.2.2)).2.2.1, (zRN byt tln (zWq (zRW byt tln (num, wj, (zPs byt tln pos), flt)).2.2.1) 0 ((zRW byt tln (num, wj, (zPs byt tln pos), flt)).2.1, (zRW byt tln (num, wj, (zPs byt tln pos), flt)).2.2.1, (zRW byt tln (num, wj, (zPs byt tln pos), flt)).2.2.2.1, (zRW byt tln (num, wj, (zPs byt tln pos), flt)).2.2.2.2)).2.2.2.1, (zRN byt tln (zWq (zRW byt tln (num, wj, (zPs byt tln pos), flt)).2.2.1) 0 ((zRW byt tln (num, wj, (zPs byt tln pos), flt)).2.1, (zRW byt tln (num, wj, (zPs byt tln pos), flt)).2.2.1, (zRW byt tln (num, wj, (zPs byt tln pos), flt)).2.2.2.1, (zRW byt tln (num, wj, (zPs byt tln pos), flt)).2.2.2.2)).2.2.2.2)) := by
          show (if tln ≤ zPs byt tln pos then _ else if (zRW byt tln (num, wj, (zPs byt tln pos), flt)).1 = true then _ else _) = _
          rw [if_neg hlt, if_pos b_22]
          exact if_pos b_29
        refine z_aload_n 0 dX0_readNext_32 rfl rfl ?_
        refine z_callV (N := mX0_readSemicolon) 0 [] [] lX0_readSemicolon ⟨zw_528, zw_530, zw_14⟩ rfl zgo_111 rfl rfl (Nat.le_of_ble_eq_true rfl) (by decide) ⟨zlt, zlt⟩ ⟨Nat.zero_le _, Nat.zero_le _⟩ zal (c_readSemi4 hG ht (by omega) (by omega)) dX0_readNext_33 ?_
        refine z_if_eq (tgt := 43) dX0_readNext_36 (by decide) (fun c_36 => ?_) (fun c_36 => ?_)
        · skip
          have b_36 := zB_0.mp c_36
          refine z_iconst (v := 0) dX0_readNext_43 (by decide) ?_
          exact z_zret rfl (by rfl) dX0_readNext_44 (zo_i ho9 (by rw [hq]; first | rfl | exact zB_1 b_36 | exact zB_z b_36)) (zo_h hh9 (by rw [hq])) (Nat.zero_le _) (Nat.zero_le _)
        · skip
          have b_36 := zB_tt c_36
          refine z_iconst (v := 1) dX0_readNext_39 (by decide) ?_
          refine z_goto (tgt := 44) dX0_readNext_40 (by decide) ?_
          exact z_zret rfl (by rfl) dX0_readNext_44 (zo_i ho9 (by rw [hq]; first | rfl | exact zB_1 b_36 | exact zB_z b_36)) (zo_h hh9 (by rw [hq])) (Nat.zero_le _) (Nat.zero_le _)

set_option maxHeartbeats 4000000 in
set_option maxRecDepth 100000 in
theorem c_findFault {G : zT} {S : zS} {sa sb sc sd : zS} {hcn hnx tln wj pos : Nat} {byt num : Nat → Int32} {flt : Int32} {Y : zYr} {out : Nat → Int64} (hG : zAl G = false) (ht : tln ≤ 150) (hj9 : wj < 8) : zRun G mX0_findFault 0 0 [.ref 111] (zHp S (sa, sb, sc, sd, hcn, hnx, byt, tln, num, (1000 + wj), pos, flt) Y out) (.inr (some (.int ((zFF byt tln 150 (num, wj, 0, (-1))).2.2.2)))) (zHp S (sa, sb, sc, sd, hcn, hnx, byt, tln, (zFF byt tln 150 (num, wj, 0, (-1))).1, (1000 + (zFF byt tln 150 (num, wj, 0, (-1))).2.1), (zFF byt tln 150 (num, wj, 0, (-1))).2.2.1, (zFF byt tln 150 (num, wj, 0, (-1))).2.2.2) Y out) := by
  refine zRun_of (by decide +kernel) rfl rfl (Nat.le_of_ble_eq_true rfl) ?_
  suffices hs : ∀ (o9 : zO) (h9 : zH), (Sum.inr (some (.int ((zFF byt tln 150 (num, wj, 0, (-1))).2.2.2))) : zO) = o9 → (zHp S (sa, sb, sc, sd, hcn, hnx, byt, tln, (zFF byt tln 150 (num, wj, 0, (-1))).1, (1000 + (zFF byt tln 150 (num, wj, 0, (-1))).2.1), (zFF byt tln 150 (num, wj, 0, (-1))).2.2.1, (zFF byt tln 150 (num, wj, 0, (-1))).2.2.2) Y out) = h9 → zPW G mX0_findFault 0 0 o9 h9 0 0 0 [(0, .ref 111)] [] (zHp S (sa, sb, sc, sd, hcn, hnx, byt, tln, num, (1000 + wj), pos, flt) Y out) from hs _ _ rfl rfl
  intro o9 h9 ho9 hh9
  refine z_aload_n 0 dX0_findFault_0 rfl rfl ?_
  refine z_callV (N := mX0_rewind) 0 [] [] lX0_rewind ⟨zw_434, zw_435, zw_436⟩ rfl zgo_111 rfl rfl (Nat.le_of_ble_eq_true rfl) (by decide) ⟨zlt, zlt⟩ ⟨Nat.zero_le _, Nat.zero_le _⟩ zal (c_rewind hG ht (by omega)) dX0_findFault_1 ?_
  refine z_iconst (v := 0) dX0_findFault_4 (by decide) ?_
  refine z_istore_n (lv' := [(1, .int 0), (0, .ref 111)]) dX0_findFault_5 rfl (by decide) rfl ?_
  have L6_1 : ∀ (d k : Nat) (nm : Nat → Int32) (v p : Nat) (fl : Int32), k ≤ 150 → 150 + 1 ≤ k + d → v < 8 → p ≤ tln → (zFF byt tln 150 (num, wj, 0, (-1))) = zFF byt tln (150 - k) (nm, v, p, fl) → zPW G mX0_findFault 0 0 o9 h9 0 0 6 [(1, .int (nI k)), (0, .ref 111)] [] (zHp S (sa, sb, sc, sd, hcn, hnx, byt, tln, nm, (1000 + v), p, fl) Y out) := by
    intro d
    induction d with
    | zero => intro k nm v p fl hk hd; exact absurd hd (by omega)
    | succ d ih =>
      intro k nm v p fl hk_k hd_k hv8 hp9 he_k
      have hk1 : (zNx byt tln (nm, v, p, fl)).2.2.1 < 8 ∧ (zNx byt tln (nm, v, p, fl)).2.2.2.1 ≤ tln := zNx_ok (byt := byt) (s := (nm, v, p, fl)) ⟨hv8, hp9⟩
      have ih6 := ih
      clear ih
      refine z_iload_n 0 dX0_findFault_6 rfl rfl ?_
      refine z_sipush (v := nI 150) dX0_findFault_7 (by decide) ?_
      refine z_icmp_ge (tgt := 26) dX0_findFault_10 (by decide) (fun c_10 => ?_) (fun c_10 => ?_)
      · skip
        have hx_k := zge (by omega) hk_k c_10
        have hq : (zFF byt tln 150 (num, wj, 0, (-1))) = (nm, v, p, fl) := by rw [he_k, hx_k, Nat.sub_self, zFF]
        refine z_aload_n 1 dX0_findFault_26 rfl rfl ?_
        refine z_get (v := .int fl) 4 zgo_111 rfl inX0 (by decide) zw_300 rfl rfl dX0_findFault_27 ?_
        exact z_iret rfl dX0_findFault_30 (zo_i ho9 (by rw [hq])) (zo_h hh9 (by rw [hq])) (Nat.zero_le _) (Nat.zero_le _)
      · skip
        have hx_k := zlt' (by omega) hk_k c_10
        refine z_aload_n 1 dX0_findFault_13 rfl rfl ?_
        refine z_callV (N := mX0_readNext) 0 [] [] lX0_readNext ⟨zw_438, zw_439, zw_440⟩ rfl zgo_111 rfl rfl (Nat.le_of_ble_eq_true rfl) (by decide) ⟨zlt, zlt⟩ ⟨Nat.zero_le _, Nat.zero_le _⟩ zal (c_readNext hG ht (by omega) (by omega)) dX0_findFault_14 ?_
        refine z_if_eq (tgt := 26) dX0_findFault_17 (by decide) (fun c_17 => ?_) (fun c_17 => ?_)
        · skip
          have b_17 := zB_0.mp c_17
          have hq : (zFF byt tln 150 (num, wj, 0, (-1))) = ((zNx byt tln (nm, v, p, fl)).2.1, (zNx byt tln (nm, v, p, fl)).2.2.1, (zNx byt tln (nm, v, p, fl)).2.2.2.1, (zNx byt tln (nm, v, p, fl)).2.2.2.2) := by rw [he_k, show 150 - k = (150 - (k + 1)) + 1 by omega, zFF, if_neg (by rw [b_17]; exact Bool.false_ne_true)]
          refine z_aload_n 1 dX0_findFault_26 rfl rfl ?_
          refine z_get (v := .int (((zNx byt tln (nm, v, p, fl)).2.2.2.2))) 4 zgo_111 rfl inX0 (by decide) zw_300 rfl rfl dX0_findFault_27 ?_
          exact z_iret rfl dX0_findFault_30 (zo_i ho9 (by rw [hq])) (zo_h hh9 (by rw [hq])) (Nat.zero_le _) (Nat.zero_le _)
        · skip
          have b_17 := zB_tt c_17
          refine z_iinc (v := nI (k + 1)) (lv' := [(1, .int (nI (k + 1))), (0, .ref 111)]) 0 dX0_findFault_20 rfl (nI_1 k) (by decide) rfl ?_
          refine z_goto (tgt := 6) dX0_findFault_23 (by decide) ?_
          refine z_sub [0, 1] (lv' := [(1, .int (nI (k + 1))), (0, .ref 111)]) rfl ?_
          refine z_eqs (lv2 := [(1, .int (nI (k + 1))), (0, .ref 111)]) (h2 := (zHp S (sa, sb, sc, sd, hcn, hnx, byt, tln, (zNx byt tln (nm, v, p, fl)).2.1, (1000 + ((zNx byt tln (nm, v, p, fl)).2.2.1)), (zNx byt tln (nm, v, p, fl)).2.2.2.1, (zNx byt tln (nm, v, p, fl)).2.2.2.2) Y out)) (by rfl) (by rfl) ?_
          exact ih6 (k + 1) ((zNx byt tln (nm, v, p, fl)).2.1) ((zNx byt tln (nm, v, p, fl)).2.2.1) ((zNx byt tln (nm, v, p, fl)).2.2.2.1) ((zNx byt tln (nm, v, p, fl)).2.2.2.2) (by omega) (by omega) hk1.1 hk1.2 (by rw [he_k, show 150 - k = (150 - (k + 1)) + 1 by omega, zFF, if_pos b_17])
  refine z_sub [0, 1] (lv' := [(1, .int 0), (0, .ref 111)]) rfl ?_
  refine z_eqs (lv2 := [(1, .int (nI 0)), (0, .ref 111)]) (h2 := (zHp S (sa, sb, sc, sd, hcn, hnx, byt, tln, num, (1000 + wj), 0, (-1)) Y out)) (by rfl) (by rfl) ?_
  exact L6_1 (150 + 1) 0 num wj 0 (-1) (Nat.zero_le _) (by omega) hj9 (Nat.zero_le _) rfl

