def zMk (byt : Nat → Int32) (tln s j : Nat) (k : Nat) : Bool := decide ((zSb.getD j []).getD k 0 = zTb byt tln (s + k))
/-- the text from s to p is the word j -/
def zMw (byt : Nat → Int32) (tln s p j : Nat) : Bool := decide (zSl.getD j 0 = p - s) && zAF (zMk byt tln s j) 0 (zSl.getD j 0)
/-- behind the letters -/
def zLw (byt : Nat → Int32) (tln : Nat) : Nat → Nat → Nat
  | 0, p => p
  | d + 1, p => if zFr (nI 97) (zTb byt tln p) (nI 122) then zLw byt tln d (p + 1) else p
def zPl (byt : Nat → Int32) (tln p : Nat) : Nat := zLw byt tln (tln - p) p
theorem zLw_b (byt : Nat → Int32) (tln : Nat) : ∀ d p : Nat, p ≤ tln → p ≤ zLw byt tln d p ∧ zLw byt tln d p ≤ tln
  | 0, p, h => ⟨Nat.le_refl p, h⟩
  | d + 1, p, h => by
    unfold zLw
    split
    · rename_i hc
      have := zLw_b byt tln d (p + 1) (zTb_fr (by decide) hc)
      omega
    · exact ⟨Nat.le_refl p, h⟩
theorem zPl_b {byt : Nat → Int32} {tln p : Nat} (h : p ≤ tln) : p ≤ zPl byt tln p ∧ zPl byt tln p ≤ tln := zLw_b byt tln _ p h
/-- the first word that stands there; 8: none -/
def zFd (byt : Nat → Int32) (tln s p : Nat) : Nat → Nat → Nat
  | _, 0 => 8
  | j, d + 1 => if zMw byt tln s p j then j else zFd byt tln s p (j + 1) d
/-- what a reader changes: numbers, word, position, fault -/
abbrev zQ4 : Type := (Nat → Int32) × Nat × Nat × Int32
def zRW (byt : Nat → Int32) (tln : Nat) (s : zQ4) : Bool × zQ4 := if zFd byt tln s.2.2.1 (zPl byt tln s.2.2.1) 0 8 < 8 then (true, (s.1, zFd byt tln s.2.2.1 (zPl byt tln s.2.2.1) 0 8, zPl byt tln s.2.2.1, s.2.2.2)) else (false, (s.1, s.2.1, zPl byt tln s.2.2.1, nI s.2.2.1))
def zRN (byt : Nat → Int32) (tln : Nat) : Nat → Nat → zQ4 → Bool × zQ4
  | 0, _, s => (true, s)
  | d + 1, i, s => if zTb byt tln s.2.2.1 = nI 32 then
      (if zPs byt tln s.2.2.1 < (zRd byt tln 3 (zPs byt tln s.2.2.1) 0).1 then zRN byt tln d (i + 1) (zPutN 5 s.1 (nI i) (zRd byt tln 3 (zPs byt tln s.2.2.1) 0).2, s.2.1, (zRd byt tln 3 (zPs byt tln s.2.2.1) 0).1, s.2.2.2)
       else (false, (zPutN 5 s.1 (nI i) (zRd byt tln 3 (zPs byt tln s.2.2.1) 0).2, s.2.1, (zRd byt tln 3 (zPs byt tln s.2.2.1) 0).1, nI (zRd byt tln 3 (zPs byt tln s.2.2.1) 0).1)))
    else (false, (s.1, s.2.1, s.2.2.1, nI s.2.2.1))
def zRS (byt : Nat → Int32) (tln : Nat) (s : zQ4) : Bool × zQ4 := if zTb byt tln (zPs byt tln s.2.2.1) = nI 59 then (true, (s.1, s.2.1, zPs byt tln s.2.2.1 + 1, s.2.2.2)) else (false, (s.1, s.2.1, zPs byt tln s.2.2.1, nI (zPs byt tln s.2.2.1)))
/-- the next command is read -/
def zNx (byt : Nat → Int32) (tln : Nat) (s : zQ4) : Bool × zQ4 :=
  if tln ≤ zPs byt tln s.2.2.1 then (false, (s.1, s.2.1, zPs byt tln s.2.2.1, s.2.2.2)) else
  if (zRW byt tln (s.1, s.2.1, zPs byt tln s.2.2.1, s.2.2.2)).1 then
    (if (zRN byt tln (zWq (zRW byt tln (s.1, s.2.1, zPs byt tln s.2.2.1, s.2.2.2)).2.2.1) 0 (zRW byt tln (s.1, s.2.1, zPs byt tln s.2.2.1, s.2.2.2)).2).1 then zRS byt tln (zRN byt tln (zWq (zRW byt tln (s.1, s.2.1, zPs byt tln s.2.2.1, s.2.2.2)).2.2.1) 0 (zRW byt tln (s.1, s.2.1, zPs byt tln s.2.2.1, s.2.2.2)).2).2
     else (false, (zRN byt tln (zWq (zRW byt tln (s.1, s.2.1, zPs byt tln s.2.2.1, s.2.2.2)).2.2.1) 0 (zRW byt tln (s.1, s.2.1, zPs byt tln s.2.2.1, s.2.2.2)).2).2))
  else (false, (zRW byt tln (s.1, s.2.1, zPs byt tln s.2.2.1, s.2.2.2)).2)
def zOk4 (tln : Nat) (s : zQ4) : Prop := s.2.1 < 8 ∧ s.2.2.1 ≤ tln
theorem zRW_ok {byt : Nat → Int32} {tln : Nat} {s : zQ4} (h : zOk4 tln s) : zOk4 tln (zRW byt tln s).2 := by
  unfold zRW
  split
  · exact ⟨by assumption, (zPl_b h.2).2⟩
  · exact ⟨h.1, (zPl_b h.2).2⟩
theorem zRN_ok {byt : Nat → Int32} {tln : Nat} : ∀ (d i : Nat) {s : zQ4}, zOk4 tln s → zOk4 tln (zRN byt tln d i s).2
  | 0, _, s, h => h
  | d + 1, i, s, h => by
    unfold zRN
    have h3 := zRd_b byt tln 3 (zPs byt tln s.2.2.1) 0 (zPs_b h.2).2
    split
    · split
      · exact zRN_ok d (i + 1) ⟨h.1, h3.2⟩
      · exact ⟨h.1, h3.2⟩
    · exact h
theorem zTb_e {byt : Nat → Int32} {tln p : Nat} {a : Nat} (ha : a < 2 ^ 31) (h : zTb byt tln p = nI a) : p < tln := zTb_lt (byt := byt) fun (q : zTb byt tln p = -1) => absurd (q.symm.trans h) fun z => nI_pos ha (by rw [← z]; decide)
theorem zRS_ok {byt : Nat → Int32} {tln : Nat} {s : zQ4} (h : zOk4 tln s) : zOk4 tln (zRS byt tln s).2 := by
  unfold zRS
  split
  · rename_i hc
    exact ⟨h.1, zTb_e (by decide) hc⟩
  · exact ⟨h.1, (zPs_b h.2).2⟩
theorem zNx_ok {byt : Nat → Int32} {tln : Nat} {s : zQ4} (h : zOk4 tln s) : zOk4 tln (zNx byt tln s).2 := by
  have h1 : zOk4 tln (s.1, s.2.1, zPs byt tln s.2.2.1, s.2.2.2) := ⟨h.1, (zPs_b h.2).2⟩
  unfold zNx
  split
  · exact h1
  · split
    · split
      · exact zRS_ok (zRN_ok _ _ (zRW_ok h1))
      · exact zRN_ok _ _ (zRW_ok h1)
    · exact zRW_ok h1

set_option maxHeartbeats 4000000 in
set_option maxRecDepth 100000 in
theorem c_isBetween {G : zT} {S : zS} {sa sb sc sd : zS} {hcn hnx tln wj pos : Nat} {byt num : Nat → Int32} {flt : Int32} {Y : zYr} {out : Nat → Int64} (hG : zAl G = false) (ht : tln ≤ 150) (hj9 : wj < 8) (hpt : pos ≤ tln) {j s : Nat} (hj8 : j < 8) (hsp : s ≤ pos) : zRun G mX0_isBetween 0 0 [.ref 111, .ref ((1010 + j)), .int (nI s)] (zHp S (sa, sb, sc, sd, hcn, hnx, byt, tln, num, (1000 + wj), pos, flt) Y out) (.inr (some (.int (zB (zMw byt tln s pos j))))) (zHp S (sa, sb, sc, sd, hcn, hnx, byt, tln, num, (1000 + wj), pos, flt) Y out) := by
  have hs5 := zSl_le (j := j)
  refine zRun_of (by decide +kernel) rfl rfl (Nat.le_of_ble_eq_true rfl) ?_
  suffices hs : ∀ (o9 : zO) (h9 : zH), (Sum.inr (some (.int (zB (zMw byt tln s pos j)))) : zO) = o9 → (zHp S (sa, sb, sc, sd, hcn, hnx, byt, tln, num, (1000 + wj), pos, flt) Y out) = h9 → zPW G mX0_isBetween 0 0 o9 h9 0 0 0 [(0, .ref 111), (1, .ref ((1010 + j))), (2, .int (nI s))] [] (zHp S (sa, sb, sc, sd, hcn, hnx, byt, tln, num, (1000 + wj), pos, flt) Y out) from hs _ _ rfl rfl
  intro o9 h9 ho9 hh9
  refine z_aload_n 1 dX0_isBetween_0 rfl rfl ?_
  refine z_ifnull dX0_isBetween_1 ?_
  refine z_aload_n 1 dX0_isBetween_4 rfl rfl ?_
  refine z_callK (N := mJ0_length_8abf5) 0 [] [] lJ0_length_8abf5 ⟨zw_464, zw_465, zw_466⟩ rfl (by omega) rfl rfl (Nat.le_of_ble_eq_true rfl) (by decide) zlt hG ⟨Nat.zero_le _, Nat.zero_le _⟩ (c_sLen hG zlt (by omega)) dX0_isBetween_5 ?_
  refine z_aload_n 0 dX0_isBetween_8 rfl rfl ?_
  refine z_get (v := .int (nI pos)) 3 zgo_111 rfl inX0 (by decide) zw_299 rfl rfl dX0_isBetween_9 ?_
  refine z_iload_n 2 dX0_isBetween_12 rfl rfl ?_
  refine z_isub dX0_isBetween_13 ?_
  refine z_top (v2 := .int (nI (pos - s))) (by rw [pk_sub hsp]) ?_
  refine z_icmp_eq (tgt := 19) dX0_isBetween_14 (by decide) (fun c_14 => ?_) (fun c_14 => ?_)
  · skip
    have hls : zSl.getD j 0 = pos - s := (nI_eq (by omega) (by omega)).mp c_14
    refine z_iconst (v := 0) dX0_isBetween_19 (by decide) ?_
    refine z_istore_n (lv' := [(3, .int 0), (0, .ref 111), (1, .ref ((1010 + j))), (2, .int (nI s))]) dX0_isBetween_20 rfl (by decide) rfl ?_
    have L21_1 : ∀ (d k : Nat), k ≤ zSl.getD j 0 → zSl.getD j 0 + 1 ≤ k + d → zAF (zMk byt tln s j) 0 (zSl.getD j 0) = zAF (zMk byt tln s j) k (zSl.getD j 0 - k) → zPW G mX0_isBetween 0 0 o9 h9 0 0 21 [(3, .int (nI k)), (0, .ref 111), (1, .ref ((1010 + j))), (2, .int (nI s))] [] (zHp S (sa, sb, sc, sd, hcn, hnx, byt, tln, num, (1000 + wj), pos, flt) Y out) := by
      intro d
      induction d with
      | zero => intro k hk hd; exact absurd hd (by omega)
      | succ d ih =>
        intro k hk_k hd_k he_k
        have ih21 := ih
        clear ih
        refine z_iload_n 0 dX0_isBetween_21 rfl rfl ?_
        refine z_aload_n 2 dX0_isBetween_22 rfl rfl ?_
        refine z_callK (N := mJ0_length_8abf5) 0 [] [.int (nI k)] lJ0_length_8abf5 ⟨zw_464, zw_465, zw_466⟩ rfl (by omega) rfl rfl (Nat.le_of_ble_eq_true rfl) (by decide) zlt hG ⟨Nat.zero_le _, Nat.zero_le _⟩ (c_sLen hG zlt (by omega)) dX0_isBetween_23 ?_
        refine z_icmp_ge (tgt := 55) dX0_isBetween_26 (by decide) (fun c_26 => ?_) (fun c_26 => ?_)
        · skip
          have hx_k := zge (by omega) hk_k c_26
          refine z_iconst (v := 1) dX0_isBetween_55 (by decide) ?_
          exact z_zret rfl (by rfl) dX0_isBetween_56 (zo_i ho9 (by rw [zMw, decide_eq_true hls, Bool.true_and, he_k, ← hx_k, Nat.sub_self, zAF]; rfl)) (zo_h hh9 (by rfl)) (Nat.zero_le _) (Nat.zero_le _)
        · skip
          have hx_k := zlt' (by omega) hk_k c_26
          refine z_aload_n 2 dX0_isBetween_29 rfl rfl ?_
          refine z_iload_n 0 dX0_isBetween_30 rfl rfl ?_
          refine z_callK (N := mJ0_charAt_5068e) 1 [.int (nI k)] [] lJ0_charAt_5068e ⟨zw_474, zw_475, zw_476⟩ rfl (by omega) rfl rfl (Nat.le_of_ble_eq_true rfl) (by decide) zlt hG ⟨Nat.zero_le _, Nat.zero_le _⟩ (c_sChar hG zlt (by omega) hx_k) dX0_isBetween_31 ?_
          refine z_aload_n 1 dX0_isBetween_34 rfl rfl ?_
          refine z_get (v := .ref 108) 0 zgo_111 rfl inX0 (by decide) zw_294 rfl rfl dX0_isBetween_35 ?_
          refine z_iload_n 3 dX0_isBetween_38 rfl rfl ?_
          refine z_iload_n 0 dX0_isBetween_39 rfl rfl ?_
          refine z_iadd dX0_isBetween_40 ?_
          refine z_top (v2 := .int (nI (s + k))) (by rw [nI_add]) ?_
          refine z_callV (N := mX1_at) 1 [.int (nI (s + k))] [.int ((zSb.getD j []).getD k 0)] lX1_at ⟨zw_446, zw_447, zw_448⟩ rfl zgo_108 rfl rfl (Nat.le_of_ble_eq_true rfl) (by decide) ⟨zlt, zlt⟩ ⟨Nat.zero_le _, Nat.zero_le _⟩ (fun _ => rfl) (c_tAt hG ht hj9 (by omega) (nI (s + k))) dX0_isBetween_41 ?_
          refine z_top (v2 := .int (zTb byt tln (s + k))) (by rw [zTa_n ht (by omega)]) ?_
          refine z_icmp_eq (tgt := 49) dX0_isBetween_44 (by decide) (fun c_44 => ?_) (fun c_44 => ?_)
          · skip
            refine z_iinc (v := nI (k + 1)) (lv' := [(3, .int (nI (k + 1))), (0, .ref 111), (1, .ref ((1010 + j))), (2, .int (nI s))]) 0 dX0_isBetween_49 rfl (nI_1 k) (by decide) rfl ?_
            refine z_goto (tgt := 21) dX0_isBetween_52 (by decide) ?_
            refine z_sub [0, 1, 2, 3] (lv' := [(3, .int (nI (k + 1))), (0, .ref 111), (1, .ref ((1010 + j))), (2, .int (nI s))]) rfl ?_
            refine z_eqs (lv2 := [(3, .int (nI (k + 1))), (0, .ref 111), (1, .ref ((1010 + j))), (2, .int (nI s))]) (h2 := (zHp S (sa, sb, sc, sd, hcn, hnx, byt, tln, num, (1000 + wj), pos, flt) Y out)) (by rfl) (by rfl) ?_
            exact ih21 (k + 1) (by omega) (by omega) (by rw [he_k, show zSl.getD j 0 - k = (zSl.getD j 0 - (k + 1)) + 1 by omega, zAF, if_pos (show zMk byt tln s j k = true from decide_eq_true c_44)])
          · skip
            refine z_iconst (v := 0) dX0_isBetween_47 (by decide) ?_
            exact z_zret rfl (by rfl) dX0_isBetween_48 (zo_i ho9 (by rw [zMw, decide_eq_true hls, Bool.true_and, he_k, show zSl.getD j 0 - k = (zSl.getD j 0 - (k + 1)) + 1 by omega, zAF, if_neg (show ¬ zMk byt tln s j k = true from fun q => c_44 (of_decide_eq_true q))]; rfl)) (zo_h hh9 (by rfl)) (Nat.zero_le _) (Nat.zero_le _)
    refine z_sub [0, 1, 2, 3] (lv' := [(3, .int 0), (0, .ref 111), (1, .ref ((1010 + j))), (2, .int (nI s))]) rfl ?_
    refine z_eqs (lv2 := [(3, .int (nI 0)), (0, .ref 111), (1, .ref ((1010 + j))), (2, .int (nI s))]) (h2 := (zHp S (sa, sb, sc, sd, hcn, hnx, byt, tln, num, (1000 + wj), pos, flt) Y out)) (by rfl) (by rfl) ?_
    exact L21_1 (zSl.getD j 0 + 1) 0 (Nat.zero_le _) (by omega) rfl
  · skip
    refine z_iconst (v := 0) dX0_isBetween_17 (by decide) ?_
    exact z_zret rfl (by rfl) dX0_isBetween_18 (zo_i ho9 (by rw [zMw, decide_eq_false (fun q => c_14 (by rw [q])), Bool.false_and]; rfl)) (zo_h hh9 (by rfl)) (Nat.zero_le _) (Nat.zero_le _)

set_option maxHeartbeats 4000000 in
set_option maxRecDepth 100000 in
theorem c_readWord {G : zT} {S : zS} {sa sb sc sd : zS} {hcn hnx tln wj pos : Nat} {byt num : Nat → Int32} {flt : Int32} {Y : zYr} {out : Nat → Int64} (hG : zAl G = false) (ht : tln ≤ 150) (hj9 : wj < 8) (hpt : pos ≤ tln) : zRun G mX0_readWord 0 0 [.ref 111] (zHp S (sa, sb, sc, sd, hcn, hnx, byt, tln, num, (1000 + wj), pos, flt) Y out) (.inr (some (.int (zB (zRW byt tln (num, wj, pos, flt)).1)))) (zHp S (sa, sb, sc, sd, hcn, hnx, byt, tln, (zRW byt tln (num, wj, pos, flt)).2.1, (1000 + (zRW byt tln (num, wj, pos, flt)).2.2.1), (zRW byt tln (num, wj, pos, flt)).2.2.2.1, (zRW byt tln (num, wj, pos, flt)).2.2.2.2) Y out) := by
  refine zRun_of (by decide +kernel) rfl rfl (Nat.le_of_ble_eq_true rfl) ?_
  suffices hs : ∀ (o9 : zO) (h9 : zH), (Sum.inr (some (.int (zB (zRW byt tln (num, wj, pos, flt)).1))) : zO) = o9 → (zHp S (sa, sb, sc, sd, hcn, hnx, byt, tln, (zRW byt tln (num, wj, pos, flt)).2.1, (1000 + (zRW byt tln (num, wj, pos, flt)).2.2.1), (zRW byt tln (num, wj, pos, flt)).2.2.2.1, (zRW byt tln (num, wj, pos, flt)).2.2.2.2) Y out) = h9 → zPW G mX0_readWord 0 0 o9 h9 0 0 0 [(0, .ref 111)] [] (zHp S (sa, sb, sc, sd, hcn, hnx, byt, tln, num, (1000 + wj), pos, flt) Y out) from hs _ _ rfl rfl
  intro o9 h9 ho9 hh9
  refine z_aload_n 0 dX0_readWord_0 rfl rfl ?_
  refine z_get (v := .int (nI pos)) 3 zgo_111 rfl inX0 (by decide) zw_299 rfl rfl dX0_readWord_1 ?_
  refine z_istore_n (lv' := [(1, .int (nI pos)), (0, .ref 111)]) dX0_readWord_4 rfl (by decide) rfl ?_
  have L5_1 : ∀ (d k : Nat), k ≤ tln → tln + 1 ≤ k + d → pos ≤ k → zLw byt tln (tln - pos) pos = zLw byt tln (tln - k) k → zPW G mX0_readWord 0 0 o9 h9 0 0 5 [(1, .int (nI pos)), (0, .ref 111)] [] (zHp S (sa, sb, sc, sd, hcn, hnx, byt, tln, num, (1000 + wj), k, flt) Y out) := by
    intro d
    induction d with
    | zero => intro k hk hd; exact absurd hd (by omega)
    | succ d ih =>
      intro k hk_k hd_k hpk he_k
      have ih5 := ih
      clear ih
      refine z_aload_n 1 dX0_readWord_5 rfl rfl ?_
      refine z_get (v := .int (nI k)) 3 zgo_111 rfl inX0 (by decide) zw_299 rfl rfl dX0_readWord_6 ?_
      refine z_aload_n 1 dX0_readWord_9 rfl rfl ?_
      refine z_get (v := .ref 108) 0 zgo_111 rfl inX0 (by decide) zw_294 rfl rfl dX0_readWord_10 ?_
      refine z_getN (v := .int (nI tln)) 1 zgo_108 rfl inX1 (by decide) (by decide) rfl rfl dX0_readWord_13 ?_
      refine z_icmp_ge (tgt := 53) dX0_readWord_16 (by decide) (fun c_16 => ?_) (fun c_16 => ?_)
      · skip
        have hx_k := zge (by omega) hk_k c_16
        have hz : zPl byt tln pos = k := by rw [zPl, he_k, hx_k, Nat.sub_self, zLw]
        refine z_iconst (v := 0) dX0_readWord_53 (by decide) ?_
        refine z_istore_n (lv' := [(2, .int 0), (1, .int (nI pos)), (0, .ref 111)]) dX0_readWord_54 rfl (by decide) rfl ?_
        have L55_2 : ∀ (d j : Nat), j ≤ 8 → 8 + 1 ≤ j + d → zFd byt tln pos k 0 8 = zFd byt tln pos k j (8 - j) → zPW G mX0_readWord 0 0 o9 h9 0 0 55 [(2, .int (nI j)), (1, .int (nI pos)), (0, .ref 111)] [] (zHp S (sa, sb, sc, sd, hcn, hnx, byt, tln, num, (1000 + wj), k, flt) Y out) := by
          intro d
          induction d with
          | zero => intro j hk hd; exact absurd hd (by omega)
          | succ d ih =>
            intro j hk_j hd_j he_j
            have ih55 := ih
            clear ih
            refine z_iload_n 0 dX0_readWord_55 rfl rfl ?_
            refine z_getsA (by decide) dX0_readWord_56 ?_
            refine z_alenA dX0_readWord_59 ?_
            refine z_icmp_ge (tgt := 98) dX0_readWord_60 (by decide) (fun c_60 => ?_) (fun c_60 => ?_)
            · skip
              have hx_j := zge (by omega) hk_j c_60
              have hq : (zRW byt tln (num, wj, pos, flt)) = (false, (num, wj, k, nI pos)) := by
                have hf : zFd byt tln pos k 0 8 = 8 := by rw [he_j, hx_j, Nat.sub_self, zFd]
                show (if zFd byt tln pos (zPl byt tln pos) 0 8 < 8 then _ else _) = _
                rw [hz, hf, if_neg (by decide)]
              refine z_aload_n 2 dX0_readWord_98 rfl rfl ?_
              refine z_iload_n 1 dX0_readWord_99 rfl rfl ?_
              refine z_callV (N := mX0_failAt) 1 [.int (nI pos)] [] lX0_failAt ⟨zw_512, zw_514, zw_11⟩ rfl zgo_111 rfl rfl (Nat.le_of_ble_eq_true rfl) (by decide) ⟨zlt, zlt⟩ ⟨Nat.zero_le _, Nat.zero_le _⟩ zal (c_failAt hG ht hj9 (by omega) (nI pos)) dX0_readWord_100 ?_
              exact z_zret rfl (by rfl) dX0_readWord_103 (zo_i ho9 (by rw [hq]; rfl)) (zo_h hh9 (by rw [hq])) (Nat.zero_le _) (Nat.zero_le _)
            · skip
              have hx_j := zlt' (by omega) hk_j c_60
              refine z_getsA (by decide) dX0_readWord_63 ?_
              refine z_iload_n 0 dX0_readWord_66 rfl rfl ?_
              refine z_aaldA j (by omega) rfl dX0_readWord_67 ?_
              refine z_astore_n (lv' := [(3, .ref ((1000 + j))), (2, .int (nI j)), (1, .int (nI pos)), (0, .ref 111)]) dX0_readWord_68 rfl (by decide) rfl ?_
              refine z_aload_n 0 dX0_readWord_69 rfl rfl ?_
              refine z_ifnull dX0_readWord_70 ?_
              refine z_aload_n 3 dX0_readWord_73 rfl rfl ?_
              refine z_aload_n 0 dX0_readWord_74 rfl rfl ?_
              refine z_wlet j (by omega) (by decide) dX0_readWord_75 ?_
              refine z_iload_n 2 dX0_readWord_78 rfl rfl ?_
              refine z_callV (N := mX0_isBetween) 2 [.ref ((1010 + j)), .int (nI pos)] [] lX0_isBetween ⟨zw_460, zw_462, zw_10⟩ rfl zgo_111 rfl rfl (Nat.le_of_ble_eq_true rfl) (by decide) ⟨zlt, zlt⟩ ⟨Nat.zero_le _, Nat.zero_le _⟩ (fun _ => rfl) (c_isBetween hG ht hj9 (by omega) (j := j) (s := pos) (by omega) (by omega)) dX0_readWord_79 ?_
              refine z_if_eq (tgt := 92) dX0_readWord_82 (by decide) (fun c_82 => ?_) (fun c_82 => ?_)
              · skip
                have b_82 := zB_0.mp c_82
                refine z_iinc (v := nI (j + 1)) (lv' := [(2, .int (nI (j + 1))), (3, .ref ((1000 + j))), (1, .int (nI pos)), (0, .ref 111)]) 1 dX0_readWord_92 rfl (nI_1 j) (by decide) rfl ?_
                refine z_goto (tgt := 55) dX0_readWord_95 (by decide) ?_
                refine z_sub [0, 2, 3] (lv' := [(2, .int (nI (j + 1))), (1, .int (nI pos)), (0, .ref 111)]) rfl ?_
                refine z_eqs (lv2 := [(2, .int (nI (j + 1))), (1, .int (nI pos)), (0, .ref 111)]) (h2 := (zHp S (sa, sb, sc, sd, hcn, hnx, byt, tln, num, (1000 + wj), k, flt) Y out)) (by rfl) (by rfl) ?_
                exact ih55 (j + 1) (by omega) (by omega) (by rw [he_j, show 8 - j = (8 - (j + 1)) + 1 by omega, zFd, if_neg (by rw [b_82]; exact Bool.false_ne_true)])
              · skip
                have b_82 := zB_tt c_82
                have hq : (zRW byt tln (num, wj, pos, flt)) = (true, (num, j, k, flt)) := by
                  have hf : zFd byt tln pos k 0 8 = j := by rw [he_j, show 8 - j = (8 - (j + 1)) + 1 by omega, zFd, if_pos b_82]
                  show (if zFd byt tln pos (zPl byt tln pos) 0 8 < 8 then _ else _) = _
                  rw [hz, hf, if_pos (by omega)]
                refine z_aload_n 3 dX0_readWord_85 rfl rfl ?_
                refine z_aload_n 0 dX0_readWord_86 rfl rfl ?_
                refine z_putr (X := "MirrorLoom$Word") 2 tyX0 zgo_111 rfl inX0 tyX0_ok nmX0 (by decide) zw_297 rfl rfl (by decide +kernel) (Nat.le_of_ble_eq_true rfl) dX0_readWord_87 ?_
                refine z_eqh (h2 := (zHp S (sa, sb, sc, sd, hcn, hnx, byt, tln, num, (1000 + j), k, flt) Y out)) zsf_111_2 ?_
                refine z_iconst (v := 1) dX0_readWord_90 (by decide) ?_
                exact z_zret rfl (by rfl) dX0_readWord_91 (zo_i ho9 (by rw [hq]; rfl)) (zo_h hh9 (by rw [hq])) (Nat.zero_le _) (Nat.zero_le _)
        refine z_sub [0, 1, 2] (lv' := [(2, .int 0), (1, .int (nI pos)), (0, .ref 111)]) rfl ?_
        refine z_eqs (lv2 := [(2, .int (nI 0)), (1, .int (nI pos)), (0, .ref 111)]) (h2 := (zHp S (sa, sb, sc, sd, hcn, hnx, byt, tln, num, (1000 + wj), k, flt) Y out)) (by rfl) (by rfl) ?_
        exact L55_2 (8 + 1) 0 (Nat.zero_le _) (by omega) rfl
      · skip
        have hx_k := zlt' (by omega) hk_k c_16
        refine z_bipush (v := nI 97) dX0_readWord_19 (by decide) ?_
        refine z_aload_n 1 dX0_readWord_21 rfl rfl ?_
        refine z_get (v := .ref 108) 0 zgo_111 rfl inX0 (by decide) zw_294 rfl rfl dX0_readWord_22 ?_
        refine z_aload_n 1 dX0_readWord_25 rfl rfl ?_
        refine z_get (v := .int (nI k)) 3 zgo_111 rfl inX0 (by decide) zw_299 rfl rfl dX0_readWord_26 ?_
        refine z_callV (N := mX1_at) 1 [.int (nI k)] [.int (nI 97)] lX1_at ⟨zw_446, zw_447, zw_448⟩ rfl zgo_108 rfl rfl (Nat.le_of_ble_eq_true rfl) (by decide) ⟨zlt, zlt⟩ ⟨Nat.zero_le _, Nat.zero_le _⟩ (fun _ => rfl) (c_tAt hG ht hj9 (by omega) (nI k)) dX0_readWord_29 ?_
        refine z_top (v2 := .int (zTb byt tln k)) (by rw [zTa_n ht (by omega)]) ?_
        refine z_bipush (v := nI 122) dX0_readWord_32 (by decide) ?_
        refine z_callSN (N := mX9_isFrom) 3 [.int (nI 97), .int (zTb byt tln k), .int (nI 122)] [] lX9_isFrom ⟨by decide, zw_456⟩ rfl rfl (Nat.le_of_ble_eq_true rfl) (by decide) ⟨zlt, zlt⟩ hG ⟨Nat.zero_le _, Nat.zero_le _⟩ (c_isFrom hG zlt (nI 97) (zTb byt tln k) (nI 122)) dX0_readWord_34 ?_
        refine z_if_eq (tgt := 53) dX0_readWord_37 (by decide) (fun c_37 => ?_) (fun c_37 => ?_)
        · skip
          have b_37 := zB_0.mp c_37
          have hz : zPl byt tln pos = k := by rw [zPl, he_k, show tln - k = (tln - (k + 1)) + 1 by omega, zLw, if_neg (by rw [b_37]; exact Bool.false_ne_true)]
          refine z_iconst (v := 0) dX0_readWord_53 (by decide) ?_
          refine z_istore_n (lv' := [(2, .int 0), (1, .int (nI pos)), (0, .ref 111)]) dX0_readWord_54 rfl (by decide) rfl ?_
          have L55_3 : ∀ (d j : Nat), j ≤ 8 → 8 + 1 ≤ j + d → zFd byt tln pos k 0 8 = zFd byt tln pos k j (8 - j) → zPW G mX0_readWord 0 0 o9 h9 0 0 55 [(2, .int (nI j)), (1, .int (nI pos)), (0, .ref 111)] [] (zHp S (sa, sb, sc, sd, hcn, hnx, byt, tln, num, (1000 + wj), k, flt) Y out) := by
            intro d
            induction d with
            | zero => intro j hk hd; exact absurd hd (by omega)
            | succ d ih =>
              intro j hk_j hd_j he_j
              have ih55 := ih
              clear ih
              refine z_iload_n 0 dX0_readWord_55 rfl rfl ?_
              refine z_getsA (by decide) dX0_readWord_56 ?_
              refine z_alenA dX0_readWord_59 ?_
              refine z_icmp_ge (tgt := 98) dX0_readWord_60 (by decide) (fun c_60 => ?_) (fun c_60 => ?_)
              · skip
                have hx_j := zge (by omega) hk_j c_60
                have hq : (zRW byt tln (num, wj, pos, flt)) = (false, (num, wj, k, nI pos)) := by
                  have hf : zFd byt tln pos k 0 8 = 8 := by rw [he_j, hx_j, Nat.sub_self, zFd]
                  show (if zFd byt tln pos (zPl byt tln pos) 0 8 < 8 then _ else _) = _
                  rw [hz, hf, if_neg (by decide)]
                refine z_aload_n 2 dX0_readWord_98 rfl rfl ?_
                refine z_iload_n 1 dX0_readWord_99 rfl rfl ?_
                refine z_callV (N := mX0_failAt) 1 [.int (nI pos)] [] lX0_failAt ⟨zw_512, zw_514, zw_11⟩ rfl zgo_111 rfl rfl (Nat.le_of_ble_eq_true rfl) (by decide) ⟨zlt, zlt⟩ ⟨Nat.zero_le _, Nat.zero_le _⟩ zal (c_failAt hG ht hj9 (by omega) (nI pos)) dX0_readWord_100 ?_
                exact z_zret rfl (by rfl) dX0_readWord_103 (zo_i ho9 (by rw [hq]; rfl)) (zo_h hh9 (by rw [hq])) (Nat.zero_le _) (Nat.zero_le _)
              · skip
                have hx_j := zlt' (by omega) hk_j c_60
                refine z_getsA (by decide) dX0_readWord_63 ?_
                refine z_iload_n 0 dX0_readWord_66 rfl rfl ?_
                refine z_aaldA j (by omega) rfl dX0_readWord_67 ?_
                refine z_astore_n (lv' := [(3, .ref ((1000 + j))), (2, .int (nI j)), (1, .int (nI pos)), (0, .ref 111)]) dX0_readWord_68 rfl (by decide) rfl ?_
                refine z_aload_n 0 dX0_readWord_69 rfl rfl ?_
                refine z_ifnull dX0_readWord_70 ?_
                refine z_aload_n 3 dX0_readWord_73 rfl rfl ?_
                refine z_aload_n 0 dX0_readWord_74 rfl rfl ?_
                refine z_wlet j (by omega) (by decide) dX0_readWord_75 ?_
                refine z_iload_n 2 dX0_readWord_78 rfl rfl ?_
                refine z_callV (N := mX0_isBetween) 2 [.ref ((1010 + j)), .int (nI pos)] [] lX0_isBetween ⟨zw_460, zw_462, zw_10⟩ rfl zgo_111 rfl rfl (Nat.le_of_ble_eq_true rfl) (by decide) ⟨zlt, zlt⟩ ⟨Nat.zero_le _, Nat.zero_le _⟩ (fun _ => rfl) (c_isBetween hG ht hj9 (by omega) (j := j) (s := pos) (by omega) (by omega)) dX0_readWord_79 ?_
                refine z_if_eq (tgt := 92) dX0_readWord_82 (by decide) (fun c_82 => ?_) (fun c_82 => ?_)
                · skip
                  have b_82 := zB_0.mp c_82
                  refine z_iinc (v := nI (j + 1)) (lv' := [(2, .int (nI (j + 1))), (3, .ref ((1000 + j))), (1, .int (nI pos)), (0, .ref 111)]) 1 dX0_readWord_92 rfl (nI_1 j) (by decide) rfl ?_
                  refine z_goto (tgt := 55) dX0_readWord_95 (by decide) ?_
                  refine z_sub [0, 2, 3] (lv' := [(2, .int (nI (j + 1))), (1, .int (nI pos)), (0, .ref 111)]) rfl ?_
                  refine z_eqs (lv2 := [(2, .int (nI (j + 1))), (1, .int (nI pos)), (0, .ref 111)]) (h2 := (zHp S (sa, sb, sc, sd, hcn, hnx, byt, tln, num, (1000 + wj), k, flt) Y out)) (by rfl) (by rfl) ?_
                  exact ih55 (j + 1) (by omega) (by omega) (by rw [he_j, show 8 - j = (8 - (j + 1)) + 1 by omega, zFd, if_neg (by rw [b_82]; exact Bool.false_ne_true)])
                · skip
                  have b_82 := zB_tt c_82
                  have hq : (zRW byt tln (num, wj, pos, flt)) = (true, (num, j, k, flt)) := by
                    have hf : zFd byt tln pos k 0 8 = j := by rw [he_j, show 8 - j = (8 - (j + 1)) + 1 by omega, zFd, if_pos b_82]
                    show (if zFd byt tln pos (zPl byt tln pos) 0 8 < 8 then _ else _) = _
                    rw [hz, hf, if_pos (by omega)]
                  refine z_aload_n 3 dX0_readWord_85 rfl rfl ?_
                  refine z_aload_n 0 dX0_readWord_86 rfl rfl ?_
                  refine z_putr (X := "MirrorLoom$Word") 2 tyX0 zgo_111 rfl inX0 tyX0_ok nmX0 (by decide) zw_297 rfl rfl (by decide +kernel) (Nat.le_of_ble_eq_true rfl) dX0_readWord_87 ?_
                  refine z_eqh (h2 := (zHp S (sa, sb, sc, sd, hcn, hnx, byt, tln, num, (1000 + j), k, flt) Y out)) zsf_111_2 ?_
                  refine z_iconst (v := 1) dX0_readWord_90 (by decide) ?_
                  exact z_zret rfl (by rfl) dX0_readWord_91 (zo_i ho9 (by rw [hq]; rfl)) (zo_h hh9 (by rw [hq])) (Nat.zero_le _) (Nat.zero_le _)
          refine z_sub [0, 1, 2] (lv' := [(2, .int 0), (1, .int (nI pos)), (0, .ref 111)]) rfl ?_
          refine z_eqs (lv2 := [(2, .int (nI 0)), (1, .int (nI pos)), (0, .ref 111)]) (h2 := (zHp S (sa, sb, sc, sd, hcn, hnx, byt, tln, num, (1000 + wj), k, flt) Y out)) (by rfl) (by rfl) ?_
          exact L55_3 (8 + 1) 0 (Nat.zero_le _) (by omega) rfl
        · skip
          have b_37 := zB_tt c_37
          refine z_aload_n 1 dX0_readWord_40 rfl rfl ?_
          refine z_dup dX0_readWord_41 rfl ?_
          refine z_get (v := .int (nI k)) 3 zgo_111 rfl inX0 (by decide) zw_299 rfl rfl dX0_readWord_42 ?_
          refine z_iconst (v := 1) dX0_readWord_45 (by decide) ?_
          refine z_iadd dX0_readWord_46 ?_
          refine z_top (v2 := .int (nI (k + 1))) (by rw [nI_1]) ?_
          refine z_puti 3 tyX0 zgo_111 rfl inX0 tyX0_ok nmX0 (by decide) zw_299 rfl rfl (by decide +kernel) (Nat.le_of_ble_eq_true rfl) dX0_readWord_47 ?_
          refine z_eqh (h2 := (zHp S (sa, sb, sc, sd, hcn, hnx, byt, tln, num, (1000 + wj), (k + 1), flt) Y out)) zsf_111_3 ?_
          refine z_goto (tgt := 5) dX0_readWord_50 (by decide) ?_
          refine z_sub [0, 1] (lv' := [(1, .int (nI pos)), (0, .ref 111)]) rfl ?_
          refine z_eqs (lv2 := [(1, .int (nI pos)), (0, .ref 111)]) (h2 := (zHp S (sa, sb, sc, sd, hcn, hnx, byt, tln, num, (1000 + wj), (k + 1), flt) Y out)) (by rfl) (by rfl) ?_
          exact ih5 (k + 1) (by omega) (by omega) (by omega) (by rw [he_k, show tln - k = (tln - (k + 1)) + 1 by omega, zLw, if_pos b_37])
  refine z_sub [0, 1] (lv' := [(1, .int (nI pos)), (0, .ref 111)]) rfl ?_
  refine z_eqs (lv2 := [(1, .int (nI pos)), (0, .ref 111)]) (h2 := (zHp S (sa, sb, sc, sd, hcn, hnx, byt, tln, num, (1000 + wj), pos, flt) Y out)) (by rfl) (by rfl) ?_
  exact L5_1 (tln + 1) pos hpt (by omega) (Nat.le_refl _) rfl

set_option maxHeartbeats 4000000 in
set_option maxRecDepth 100000 in
theorem c_readNumbers {G : zT} {S : zS} {sa sb sc sd : zS} {hcn hnx tln wj pos : Nat} {byt num : Nat → Int32} {flt : Int32} {Y : zYr} {out : Nat → Int64} (hG : zAl G = false) (ht : tln ≤ 150) (hj9 : wj < 8) (hpt : pos ≤ tln) : zRun G mX0_readNumbers 0 0 [.ref 111] (zHp S (sa, sb, sc, sd, hcn, hnx, byt, tln, num, (1000 + wj), pos, flt) Y out) (.inr (some (.int (zB (zRN byt tln (zWq wj) 0 (num, wj, pos, flt)).1)))) (zHp S (sa, sb, sc, sd, hcn, hnx, byt, tln, (zRN byt tln (zWq wj) 0 (num, wj, pos, flt)).2.1, (1000 + (zRN byt tln (zWq wj) 0 (num, wj, pos, flt)).2.2.1), (zRN byt tln (zWq wj) 0 (num, wj, pos, flt)).2.2.2.1, (zRN byt tln (zWq wj) 0 (num, wj, pos, flt)).2.2.2.2) Y out) := by
  have hw5 := zWq_le wj
  refine zRun_of (by decide +kernel) rfl rfl (Nat.le_of_ble_eq_true rfl) ?_
  suffices hs : ∀ (o9 : zO) (h9 : zH), (Sum.inr (some (.int (zB (zRN byt tln (zWq wj) 0 (num, wj, pos, flt)).1))) : zO) = o9 → (zHp S (sa, sb, sc, sd, hcn, hnx, byt, tln, (zRN byt tln (zWq wj) 0 (num, wj, pos, flt)).2.1, (1000 + (zRN byt tln (zWq wj) 0 (num, wj, pos, flt)).2.2.1), (zRN byt tln (zWq wj) 0 (num, wj, pos, flt)).2.2.2.1, (zRN byt tln (zWq wj) 0 (num, wj, pos, flt)).2.2.2.2) Y out) = h9 → zPW G mX0_readNumbers 0 0 o9 h9 0 0 0 [(0, .ref 111)] [] (zHp S (sa, sb, sc, sd, hcn, hnx, byt, tln, num, (1000 + wj), pos, flt) Y out) from hs _ _ rfl rfl
  intro o9 h9 ho9 hh9
  refine z_iconst (v := 0) dX0_readNumbers_0 (by decide) ?_
  refine z_istore_n (lv' := [(1, .int 0), (0, .ref 111)]) dX0_readNumbers_1 rfl (by decide) rfl ?_
  have L2_1 : ∀ (d k : Nat) (p : Nat) (nm : Nat → Int32), k ≤ zWq wj → zWq wj + 1 ≤ k + d → p ≤ tln → (zRN byt tln (zWq wj) 0 (num, wj, pos, flt)) = zRN byt tln (zWq wj - k) k (nm, wj, p, flt) → zPW G mX0_readNumbers 0 0 o9 h9 0 0 2 [(1, .int (nI k)), (0, .ref 111)] [] (zHp S (sa, sb, sc, sd, hcn, hnx, byt, tln, nm, (1000 + wj), p, flt) Y out) := by
    intro d
    induction d with
    | zero => intro k p nm hk hd; exact absurd hd (by omega)
    | succ d ih =>
      intro k p nm hk_k hd_k hpt2 he_k
      have hps := zPs_b (byt := byt) hpt2
      have hrd := zRd_b byt tln 3 (zPs byt tln p) 0 hps.2
      have ih2 := ih
      clear ih
      refine z_iload_n 0 dX0_readNumbers_2 rfl rfl ?_
      refine z_aload_n 1 dX0_readNumbers_3 rfl rfl ?_
      refine z_get (v := .ref ((1000 + wj))) 2 zgo_111 rfl inX0 (by decide) zw_297 rfl rfl dX0_readNumbers_4 ?_
      refine z_wnum wj (by omega) (by decide) dX0_readNumbers_7 ?_
      refine z_top (v2 := .int (nI (zWq wj))) (by rw [zWq_eq (by omega)]) ?_
      refine z_icmp_ge (tgt := 58) dX0_readNumbers_10 (by decide) (fun c_10 => ?_) (fun c_10 => ?_)
      · skip
        have hx_k := zge (by omega) hk_k c_10
        have hq : (zRN byt tln (zWq wj) 0 (num, wj, pos, flt)) = (true, (nm, wj, p, flt)) := by rw [he_k, hx_k, Nat.sub_self, zRN]
        refine z_iconst (v := 1) dX0_readNumbers_58 (by decide) ?_
        exact z_zret rfl (by rfl) dX0_readNumbers_59 (zo_i ho9 (by rw [hq]; rfl)) (zo_h hh9 (by first | (rw [hq]; done) | (rw [hq, if_neg hn]))) (Nat.zero_le _) (Nat.zero_le _)
      · skip
        have hx_k := zlt' (by omega) hk_k c_10
        refine z_aload_n 1 dX0_readNumbers_13 rfl rfl ?_
        refine z_get (v := .ref 108) 0 zgo_111 rfl inX0 (by decide) zw_294 rfl rfl dX0_readNumbers_14 ?_
        refine z_aload_n 1 dX0_readNumbers_17 rfl rfl ?_
        refine z_get (v := .int (nI p)) 3 zgo_111 rfl inX0 (by decide) zw_299 rfl rfl dX0_readNumbers_18 ?_
        refine z_callV (N := mX1_at) 1 [.int (nI p)] [] lX1_at ⟨zw_446, zw_447, zw_448⟩ rfl zgo_108 rfl rfl (Nat.le_of_ble_eq_true rfl) (by decide) ⟨zlt, zlt⟩ ⟨Nat.zero_le _, Nat.zero_le _⟩ (fun _ => rfl) (c_tAt hG ht hj9 (by omega) (nI p)) dX0_readNumbers_21 ?_
        refine z_top (v2 := .int (zTb byt tln p)) (by rw [zTa_n ht (by omega)]) ?_
        refine z_bipush (v := nI 32) dX0_readNumbers_24 (by decide) ?_
        refine z_icmp_eq (tgt := 38) dX0_readNumbers_26 (by decide) (fun c_26 => ?_) (fun c_26 => ?_)
        · skip
          refine z_aload_n 1 dX0_readNumbers_38 rfl rfl ?_
          refine z_callV (N := mX0_skipSpaces) 0 [] [] lX0_skipSpaces ⟨zw_442, zw_444, zw_8⟩ rfl zgo_111 rfl rfl (Nat.le_of_ble_eq_true rfl) (by decide) ⟨zlt, zlt⟩ ⟨Nat.zero_le _, Nat.zero_le _⟩ zal (c_skip hG ht hj9 (by omega)) dX0_readNumbers_39 ?_
          refine z_aload_n 1 dX0_readNumbers_42 rfl rfl ?_
          refine z_iload_n 0 dX0_readNumbers_43 rfl rfl ?_
          refine z_callV (N := mX0_readNumber) 1 [.int (nI k)] [] lX0_readNumber ⟨zw_520, zw_522, zw_13⟩ rfl zgo_111 rfl rfl (Nat.le_of_ble_eq_true rfl) (by decide) ⟨zlt, zlt⟩ ⟨Nat.zero_le _, Nat.zero_le _⟩ zal (c_readNumber hG ht hj9 (by omega) (nI k)) dX0_readNumbers_44 ?_
          refine z_if_ne (tgt := 52) dX0_readNumbers_47 (by decide) (fun c_47 => ?_) (fun c_47 => ?_)
          · skip
            have b_47 := zB_tt c_47
            refine z_iinc (v := nI (k + 1)) (lv' := [(1, .int (nI (k + 1))), (0, .ref 111)]) 0 dX0_readNumbers_52 rfl (nI_1 k) (by decide) rfl ?_
            refine z_goto (tgt := 2) dX0_readNumbers_55 (by decide) ?_
            refine z_sub [0, 1] (lv' := [(1, .int (nI (k + 1))), (0, .ref 111)]) rfl ?_
            refine z_eqs (lv2 := [(1, .int (nI (k + 1))), (0, .ref 111)]) (h2 := (zHp S (sa, sb, sc, sd, hcn, hnx, byt, tln, (zPutN 5 nm (nI k) (zRd byt tln 3 (zPs byt tln p) 0).2), (1000 + wj), (zRd byt tln 3 (zPs byt tln p) 0).1, flt) Y out)) (by rfl) (by rw [if_pos (of_decide_eq_true b_47)]) ?_
            exact ih2 (k + 1) ((zRd byt tln 3 (zPs byt tln p) 0).1) (zPutN 5 nm (nI k) (zRd byt tln 3 (zPs byt tln p) 0).2) (by omega) (by omega) hrd.2 (by rw [he_k, show zWq wj - k = (zWq wj - (k + 1)) + 1 by omega, zRN, if_pos c_26]; exact if_pos (of_decide_eq_true b_47))
          · skip
            have b_47 := zB_0.mp c_47
            have hn : ¬ (zPs byt tln p) < (zRd byt tln 3 (zPs byt tln p) 0).1 := of_decide_eq_false b_47
            have hq : (zRN byt tln (zWq wj) 0 (num, wj, pos, flt)) = (false, (zPutN 5 nm (nI k) (zRd byt tln 3 (zPs byt tln p) 0).2, wj, (zRd byt tln 3 (zPs byt tln p) 0).1, nI (zRd byt tln 3 (zPs byt tln p) 0).1)) := by
              rw [he_k, show zWq wj - k = (zWq wj - (k + 1)) + 1 by omega, zRN, if_pos c_26]
              exact if_neg hn
            refine z_iconst (v := 0) dX0_readNumbers_50 (by decide) ?_
            exact z_zret rfl (by rfl) dX0_readNumbers_51 (zo_i ho9 (by rw [hq]; rfl)) (zo_h hh9 (by first | (rw [hq]; done) | (rw [hq, if_neg hn]))) (Nat.zero_le _) (Nat.zero_le _)
        · skip
          have hq : (zRN byt tln (zWq wj) 0 (num, wj, pos, flt)) = (false, (nm, wj, p, nI p)) := by rw [he_k, show zWq wj - k = (zWq wj - (k + 1)) + 1 by omega, zRN, if_neg c_26]
          refine z_aload_n 1 dX0_readNumbers_29 rfl rfl ?_
          refine z_aload_n 1 dX0_readNumbers_30 rfl rfl ?_
          refine z_get (v := .int (nI p)) 3 zgo_111 rfl inX0 (by decide) zw_299 rfl rfl dX0_readNumbers_31 ?_
          refine z_callV (N := mX0_failAt) 1 [.int (nI p)] [] lX0_failAt ⟨zw_512, zw_514, zw_11⟩ rfl zgo_111 rfl rfl (Nat.le_of_ble_eq_true rfl) (by decide) ⟨zlt, zlt⟩ ⟨Nat.zero_le _, Nat.zero_le _⟩ zal (c_failAt hG ht hj9 (by omega) (nI p)) dX0_readNumbers_34 ?_
          exact z_zret rfl (by rfl) dX0_readNumbers_37 (zo_i ho9 (by rw [hq]; rfl)) (zo_h hh9 (by first | (rw [hq]; done) | (rw [hq, if_neg hn]))) (Nat.zero_le _) (Nat.zero_le _)
  refine z_sub [0, 1] (lv' := [(1, .int 0), (0, .ref 111)]) rfl ?_
  refine z_eqs (lv2 := [(1, .int (nI 0)), (0, .ref 111)]) (h2 := (zHp S (sa, sb, sc, sd, hcn, hnx, byt, tln, num, (1000 + wj), pos, flt) Y out)) (by rfl) (by rfl) ?_
  exact L2_1 (zWq wj + 1) 0 pos num (Nat.zero_le _) (by omega) hpt rfl

