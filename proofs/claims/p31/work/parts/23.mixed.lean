def zMix (h : Int64) (v : Int32) : Int64 := 31 * h + v.toInt64
theorem zMean_ok {wov lot : Nat → Int32} {shd : Nat → UInt32} {c w : Nat} {v : Int32} (hs : ∀ j, zFinS (shd j)) (hc : c ≤ 20) (hw : w ≤ 16) : zPos (zMean wov lot shd c w v) := by
  unfold zMean
  split
  · exact zPos_0
  · exact (fp_div (zMs_out hs _ zPos_0) (Nat.pos_of_ne_zero (by assumption)) (Nat.lt_of_le_of_lt (zMn_le wov c w v) (by have : w * c ≤ 16 * 20 := Nat.mul_le_mul hw hc; omega))).2
theorem zCon_ok {lot : Nat → Int32} {shd : Nat → UInt32} {c : Nat} {y : Int32} (hs : ∀ j, zFinS (shd j)) (hc : c ≤ 20) : zPos (zCon lot shd c y) := by
  unfold zCon
  split
  · exact zPos_0
  · exact (fp_div (zCs_ok hs _) (Nat.pos_of_ne_zero (by assumption)) (by omega)).2
theorem zGt_m1 {s : UInt32} (hs : zPos s) : zGt 3212836864 s = false := by
  refine decide_eq_false ?_
  show ¬ 0 < Op.cmpValue (FP.Core.order (FP.Core.val32 3212836864) (FP.Core.val32 s)) .l
  rw [show FP.Core.val32 3212836864 = .fin true 8388608 (-23) by decide +kernel]
  rcases fx_val hs with h | ⟨c', q', h⟩ <;> rw [h]
  · decide
  · show ¬ 0 < Op.cmpValue (some (compare (-((FP.Core.inUnits 8388608 (-23) (min (-23) q') : Nat) : Int)) ((FP.Core.inUnits c' q' (min (-23) q') : Nat) : Int))) .l
    have h0 : 0 < FP.Core.inUnits 8388608 (-23) (min (-23) q') := Nat.mul_pos (by decide) (Nat.two_pow_pos _)
    rw [show compare (-((FP.Core.inUnits 8388608 (-23) (min (-23) q') : Nat) : Int)) ((FP.Core.inUnits c' q' (min (-23) q') : Nat) : Int) = .lt from Int.compare_eq_lt.mpr (by omega)]
    decide
theorem zGp_st {wov lot : Nat → Int32} {shd : Nat → UInt32} {c w : Nat} {b y b2 y2 : Int32} (hs : ∀ j, zFinS (shd j)) {s : UInt32} (h : zPos s) : zPos (if zGt (zGp wov lot shd c w b y b2 y2) s then zGp wov lot shd c w b y b2 y2 else s) := by
  unfold zGp
  by_cases hq : zSe wov lot c w b y b2 y2 = true
  · rw [if_pos hq]
    split
    · exact fp_df (zSh_ok hs _) (zSh_ok hs _)
    · exact h
  · rw [if_neg hq, zGt_m1 h, if_neg Bool.false_ne_true]
    exact h
theorem zWg_ok {wov lot : Nat → Int32} {shd : Nat → UInt32} {c w : Nat} (hs : ∀ j, zFinS (shd j)) : zPos (zWg wov lot shd c w) :=
  zIt_inv (P := zPos) (fun _ _ h => zIt_inv (P := zPos) (fun _ _ h2 => zGp_st hs (zGp_st hs h2)) _ _ h) _ _ zPos_0

set_option maxHeartbeats 4000000 in
set_option maxRecDepth 100000 in
theorem c_mixed {G : zT} {h : zH} (hG : zAl G = false) (hlen : h.length < 1000) (a : Int64) (v : Int32) : zRun G mX9_mixed 0 0 [.long a, .int v] h (.inr (some (.long (zMix a v)))) h := by
  refine zRun_of (by decide +kernel) rfl rfl (Nat.le_of_ble_eq_true rfl) ?_
  suffices hs : ∀ (o9 : zO) (h9 : zH), (Sum.inr (some (.long (zMix a v))) : zO) = o9 → h = h9 → zPW G mX9_mixed 0 0 o9 h9 0 0 0 [(0, .long a), (2, .int v)] [] h from hs _ _ rfl rfl
  intro o9 h9 ho9 hh9
  refine z_ldc2 zw_251 dX9_mixed_0 ?_
  refine z_lload_n 0 dX9_mixed_3 rfl rfl ?_
  refine z_lmul dX9_mixed_4 ?_
  refine z_iload_n 1 dX9_mixed_5 rfl rfl ?_
  refine z_i2l dX9_mixed_6 ?_
  refine z_ladd dX9_mixed_7 ?_
  exact z_lret rfl dX9_mixed_8 (zo_l ho9 (by rfl)) (zo_h hh9 (by rfl)) (Nat.zero_le _) (Nat.zero_le _)

def zMcell (cart wov lot : Nat → Int32) (c r w : Nat) (a : Int64) : Int64 := zIt (fun y s => zIt (fun x s => zMix (zMix (zMix s (zCv cart wov lot c w (nI x) (nI y) 0)) (zCv cart wov lot c w (nI x) (nI y) 1)) (zCv cart wov lot c w (nI x) (nI y) 2)) c s) r a

set_option maxHeartbeats 4000000 in
set_option maxRecDepth 100000 in
theorem c_mCells {G : zT} {c r w lim cnt : Nat} {tol : Int32} {cart wov lot sew mis col len lef sbt : Nat → Int32} {shd : Nat → UInt32} {X : zXr} {Y : zYr} {out : Nat → Int64} (hG : zAl G = false) (hc : c ≤ 20) (hr : r ≤ 16) (hw : w ≤ r) (hn : cnt ≤ 16) (a : Int64) : zRun G mX9_mixedCells 0 0 [.ref 0, .long a] (zHp (c, r, w, lim, tol, cart, wov, lot, sew, mis, cnt, col, len, lef, sbt, shd) X Y out) (.inr (some (.long (zMcell cart wov lot c r w a)))) (zHp (c, r, w, lim, tol, cart, wov, lot, sew, mis, cnt, col, len, lef, sbt, shd) X Y out) := by
  refine zRun_of (by decide +kernel) rfl rfl (Nat.le_of_ble_eq_true rfl) ?_
  suffices hs : ∀ (o9 : zO) (h9 : zH), (Sum.inr (some (.long (zMcell cart wov lot c r w a))) : zO) = o9 → (zHp (c, r, w, lim, tol, cart, wov, lot, sew, mis, cnt, col, len, lef, sbt, shd) X Y out) = h9 → zPW G mX9_mixedCells 0 0 o9 h9 0 0 0 [(0, .ref 0), (1, .long a)] [] (zHp (c, r, w, lim, tol, cart, wov, lot, sew, mis, cnt, col, len, lef, sbt, shd) X Y out) from hs _ _ rfl rfl
  intro o9 h9 ho9 hh9
  refine z_lload_n 1 dX9_mixedCells_0 rfl rfl ?_
  refine z_lstore_n (lv' := [(3, .long a), (0, .ref 0), (1, .long a)]) dX9_mixedCells_1 rfl (by decide) rfl ?_
  refine z_iconst (v := 0) dX9_mixedCells_2 (by decide) ?_
  refine z_istore (lv' := [(5, .int 0), (3, .long a), (0, .ref 0), (1, .long a)]) dX9_mixedCells_3 (by decide) rfl ?_
  have L5_1 : ∀ (d k : Nat), k ≤ r → r + 1 ≤ k + d → zPW G mX9_mixedCells 0 0 o9 h9 0 0 5 [(5, .int (nI k)), (3, .long (zIt (fun y s => zIt (fun x s => zMix (zMix (zMix s (zCv cart wov lot c w (nI x) (nI y) 0)) (zCv cart wov lot c w (nI x) (nI y) 1)) (zCv cart wov lot c w (nI x) (nI y) 2)) c s) k a)), (0, .ref 0), (1, .long a)] [] (zHp (c, r, w, lim, tol, cart, wov, lot, sew, mis, cnt, col, len, lef, sbt, shd) X Y out) := by
    intro d
    induction d with
    | zero => intro k hk hd; exact absurd hd (by omega)
    | succ d ih =>
      intro k hk_k hd_k
      have ih5 := ih
      clear ih
      refine z_iload 0 dX9_mixedCells_5 rfl ?_
      refine z_aload_n 2 dX9_mixedCells_7 rfl rfl ?_
      refine z_get (v := .ref 1) 0 zgo_0 rfl inX9 (by decide) zw_230 rfl rfl dX9_mixedCells_8 ?_
      refine z_getN (v := .int (nI r)) 1 zgo_1 rfl inX4 (by decide) (by decide) rfl rfl dX9_mixedCells_11 ?_
      refine z_icmp_ge (tgt := 95) dX9_mixedCells_14 (by decide) (fun c_14 => ?_) (fun c_14 => ?_)
      · skip
        have hx_k := zge (by omega) hk_k c_14
        refine z_lload_n 1 dX9_mixedCells_95 rfl rfl ?_
        exact z_lret rfl dX9_mixedCells_96 (zo_l ho9 (by rw [zMcell, hx_k])) (zo_h hh9 (by rfl)) (Nat.zero_le _) (Nat.zero_le _)
      · skip
        have hx_k := zlt' (by omega) hk_k c_14
        refine z_iconst (v := 0) dX9_mixedCells_17 (by decide) ?_
        refine z_istore (lv' := [(6, .int 0), (5, .int (nI k)), (3, .long (zIt (fun y s => zIt (fun x s => zMix (zMix (zMix s (zCv cart wov lot c w (nI x) (nI y) 0)) (zCv cart wov lot c w (nI x) (nI y) 1)) (zCv cart wov lot c w (nI x) (nI y) 2)) c s) k a)), (0, .ref 0), (1, .long a)]) dX9_mixedCells_18 (by decide) rfl ?_
        have L20_2 : ∀ (d j : Nat), j ≤ c → c + 1 ≤ j + d → zPW G mX9_mixedCells 0 0 o9 h9 0 0 20 [(6, .int (nI j)), (3, .long (zIt (fun x s => zMix (zMix (zMix s (zCv cart wov lot c w (nI x) (nI k) 0)) (zCv cart wov lot c w (nI x) (nI k) 1)) (zCv cart wov lot c w (nI x) (nI k) 2)) j (zIt (fun y s => zIt (fun x s => zMix (zMix (zMix s (zCv cart wov lot c w (nI x) (nI y) 0)) (zCv cart wov lot c w (nI x) (nI y) 1)) (zCv cart wov lot c w (nI x) (nI y) 2)) c s) k a))), (5, .int (nI k)), (0, .ref 0), (1, .long a)] [] (zHp (c, r, w, lim, tol, cart, wov, lot, sew, mis, cnt, col, len, lef, sbt, shd) X Y out) := by
          intro d
          induction d with
          | zero => intro j hk hd; exact absurd hd (by omega)
          | succ d ih =>
            intro j hk_j hd_j
            have ih20 := ih
            clear ih
            refine z_iload 0 dX9_mixedCells_20 rfl ?_
            refine z_aload_n 3 dX9_mixedCells_22 rfl rfl ?_
            refine z_get (v := .ref 1) 0 zgo_0 rfl inX9 (by decide) zw_230 rfl rfl dX9_mixedCells_23 ?_
            refine z_getN (v := .int (nI c)) 0 zgo_1 rfl inX4 (by decide) (by decide) rfl rfl dX9_mixedCells_26 ?_
            refine z_icmp_ge (tgt := 89) dX9_mixedCells_29 (by decide) (fun c_29 => ?_) (fun c_29 => ?_)
            · skip
              have hx_j := zge (by omega) hk_j c_29
              refine z_iinc (v := nI (k + 1)) (lv' := [(5, .int (nI (k + 1))), (6, .int (nI j)), (3, .long (zIt (fun x s => zMix (zMix (zMix s (zCv cart wov lot c w (nI x) (nI k) 0)) (zCv cart wov lot c w (nI x) (nI k) 1)) (zCv cart wov lot c w (nI x) (nI k) 2)) j (zIt (fun y s => zIt (fun x s => zMix (zMix (zMix s (zCv cart wov lot c w (nI x) (nI y) 0)) (zCv cart wov lot c w (nI x) (nI y) 1)) (zCv cart wov lot c w (nI x) (nI y) 2)) c s) k a))), (0, .ref 0), (1, .long a)]) 2 dX9_mixedCells_89 rfl (nI_1 k) (by decide) rfl ?_
              refine z_goto (tgt := 5) dX9_mixedCells_92 (by decide) ?_
              refine z_sub [0, 2, 3, 4] (lv' := [(5, .int (nI (k + 1))), (3, .long (zIt (fun x s => zMix (zMix (zMix s (zCv cart wov lot c w (nI x) (nI k) 0)) (zCv cart wov lot c w (nI x) (nI k) 1)) (zCv cart wov lot c w (nI x) (nI k) 2)) j (zIt (fun y s => zIt (fun x s => zMix (zMix (zMix s (zCv cart wov lot c w (nI x) (nI y) 0)) (zCv cart wov lot c w (nI x) (nI y) 1)) (zCv cart wov lot c w (nI x) (nI y) 2)) c s) k a))), (0, .ref 0), (1, .long a)]) rfl ?_
              refine z_eqs (lv2 := [(5, .int (nI (k + 1))), (3, .long (zIt (fun y s => zIt (fun x s => zMix (zMix (zMix s (zCv cart wov lot c w (nI x) (nI y) 0)) (zCv cart wov lot c w (nI x) (nI y) 1)) (zCv cart wov lot c w (nI x) (nI y) 2)) c s) (k + 1) a)), (0, .ref 0), (1, .long a)]) (h2 := (zHp (c, r, w, lim, tol, cart, wov, lot, sew, mis, cnt, col, len, lef, sbt, shd) X Y out)) (by rw [hx_j]; rfl) (by rfl) ?_
              exact ih5 (k + 1) (by omega) (by omega)
            · skip
              have hx_j := zlt' (by omega) hk_j c_29
              refine z_lload_n 1 dX9_mixedCells_32 rfl rfl ?_
              refine z_aload_n 3 dX9_mixedCells_33 rfl rfl ?_
              refine z_get (v := .ref 1) 0 zgo_0 rfl inX9 (by decide) zw_230 rfl rfl dX9_mixedCells_34 ?_
              refine z_iload 0 dX9_mixedCells_37 rfl ?_
              refine z_iload 2 dX9_mixedCells_39 rfl ?_
              refine z_iconst (v := 0) dX9_mixedCells_41 (by decide) ?_
              refine z_callV (N := mX4_cellValue) 3 [.int (nI j), .int (nI k), .int 0] [.long (zIt (fun x s => zMix (zMix (zMix s (zCv cart wov lot c w (nI x) (nI k) 0)) (zCv cart wov lot c w (nI x) (nI k) 1)) (zCv cart wov lot c w (nI x) (nI k) 2)) j (zIt (fun y s => zIt (fun x s => zMix (zMix (zMix s (zCv cart wov lot c w (nI x) (nI y) 0)) (zCv cart wov lot c w (nI x) (nI y) 1)) (zCv cart wov lot c w (nI x) (nI y) 2)) c s) k a))] lX4_cellValue ⟨zw_375, zw_376, zw_377⟩ rfl zgo_1 rfl rfl (Nat.le_of_ble_eq_true rfl) (by decide) ⟨zlt, zlt⟩ ⟨Nat.zero_le _, Nat.zero_le _⟩ (fun _ => rfl) (c_cellValue hG hc hr hw hn (nI j) (nI k) 0) dX9_mixedCells_42 ?_
              refine z_callS (N := mX9_mixed) 2 [.long (zIt (fun x s => zMix (zMix (zMix s (zCv cart wov lot c w (nI x) (nI k) 0)) (zCv cart wov lot c w (nI x) (nI k) 1)) (zCv cart wov lot c w (nI x) (nI k) 2)) j (zIt (fun y s => zIt (fun x s => zMix (zMix (zMix s (zCv cart wov lot c w (nI x) (nI y) 0)) (zCv cart wov lot c w (nI x) (nI y) 1)) (zCv cart wov lot c w (nI x) (nI y) 2)) c s) k a)), .int (zCv cart wov lot c w (nI j) (nI k) 0)] [] lX9_mixed ⟨zw_248, zw_249⟩ rfl rfl rfl (Nat.le_of_ble_eq_true rfl) (by decide) ⟨zlt, zlt⟩ hG ⟨Nat.zero_le _, Nat.zero_le _⟩ (c_mixed hG zlt (zIt (fun x s => zMix (zMix (zMix s (zCv cart wov lot c w (nI x) (nI k) 0)) (zCv cart wov lot c w (nI x) (nI k) 1)) (zCv cart wov lot c w (nI x) (nI k) 2)) j (zIt (fun y s => zIt (fun x s => zMix (zMix (zMix s (zCv cart wov lot c w (nI x) (nI y) 0)) (zCv cart wov lot c w (nI x) (nI y) 1)) (zCv cart wov lot c w (nI x) (nI y) 2)) c s) k a)) (zCv cart wov lot c w (nI j) (nI k) 0)) dX9_mixedCells_45 ?_
              refine z_lstore_n (lv' := [(3, .long (zMix (zIt (fun x s => zMix (zMix (zMix s (zCv cart wov lot c w (nI x) (nI k) 0)) (zCv cart wov lot c w (nI x) (nI k) 1)) (zCv cart wov lot c w (nI x) (nI k) 2)) j (zIt (fun y s => zIt (fun x s => zMix (zMix (zMix s (zCv cart wov lot c w (nI x) (nI y) 0)) (zCv cart wov lot c w (nI x) (nI y) 1)) (zCv cart wov lot c w (nI x) (nI y) 2)) c s) k a)) (zCv cart wov lot c w (nI j) (nI k) 0))), (6, .int (nI j)), (5, .int (nI k)), (0, .ref 0), (1, .long a)]) dX9_mixedCells_48 rfl (by decide) rfl ?_
              refine z_lload_n 0 dX9_mixedCells_49 rfl rfl ?_
              refine z_aload_n 3 dX9_mixedCells_50 rfl rfl ?_
              refine z_get (v := .ref 1) 0 zgo_0 rfl inX9 (by decide) zw_230 rfl rfl dX9_mixedCells_51 ?_
              refine z_iload 1 dX9_mixedCells_54 rfl ?_
              refine z_iload 2 dX9_mixedCells_56 rfl ?_
              refine z_iconst (v := 1) dX9_mixedCells_58 (by decide) ?_
              refine z_callV (N := mX4_cellValue) 3 [.int (nI j), .int (nI k), .int 1] [.long (zMix (zIt (fun x s => zMix (zMix (zMix s (zCv cart wov lot c w (nI x) (nI k) 0)) (zCv cart wov lot c w (nI x) (nI k) 1)) (zCv cart wov lot c w (nI x) (nI k) 2)) j (zIt (fun y s => zIt (fun x s => zMix (zMix (zMix s (zCv cart wov lot c w (nI x) (nI y) 0)) (zCv cart wov lot c w (nI x) (nI y) 1)) (zCv cart wov lot c w (nI x) (nI y) 2)) c s) k a)) (zCv cart wov lot c w (nI j) (nI k) 0))] lX4_cellValue ⟨zw_375, zw_376, zw_377⟩ rfl zgo_1 rfl rfl (Nat.le_of_ble_eq_true rfl) (by decide) ⟨zlt, zlt⟩ ⟨Nat.zero_le _, Nat.zero_le _⟩ (fun _ => rfl) (c_cellValue hG hc hr hw hn (nI j) (nI k) 1) dX9_mixedCells_59 ?_
              refine z_callS (N := mX9_mixed) 2 [.long (zMix (zIt (fun x s => zMix (zMix (zMix s (zCv cart wov lot c w (nI x) (nI k) 0)) (zCv cart wov lot c w (nI x) (nI k) 1)) (zCv cart wov lot c w (nI x) (nI k) 2)) j (zIt (fun y s => zIt (fun x s => zMix (zMix (zMix s (zCv cart wov lot c w (nI x) (nI y) 0)) (zCv cart wov lot c w (nI x) (nI y) 1)) (zCv cart wov lot c w (nI x) (nI y) 2)) c s) k a)) (zCv cart wov lot c w (nI j) (nI k) 0)), .int (zCv cart wov lot c w (nI j) (nI k) 1)] [] lX9_mixed ⟨zw_248, zw_249⟩ rfl rfl rfl (Nat.le_of_ble_eq_true rfl) (by decide) ⟨zlt, zlt⟩ hG ⟨Nat.zero_le _, Nat.zero_le _⟩ (c_mixed hG zlt (zMix (zIt (fun x s => zMix (zMix (zMix s (zCv cart wov lot c w (nI x) (nI k) 0)) (zCv cart wov lot c w (nI x) (nI k) 1)) (zCv cart wov lot c w (nI x) (nI k) 2)) j (zIt (fun y s => zIt (fun x s => zMix (zMix (zMix s (zCv cart wov lot c w (nI x) (nI y) 0)) (zCv cart wov lot c w (nI x) (nI y) 1)) (zCv cart wov lot c w (nI x) (nI y) 2)) c s) k a)) (zCv cart wov lot c w (nI j) (nI k) 0)) (zCv cart wov lot c w (nI j) (nI k) 1)) dX9_mixedCells_62 ?_
              refine z_lstore_n (lv' := [(3, .long (zMix (zMix (zIt (fun x s => zMix (zMix (zMix s (zCv cart wov lot c w (nI x) (nI k) 0)) (zCv cart wov lot c w (nI x) (nI k) 1)) (zCv cart wov lot c w (nI x) (nI k) 2)) j (zIt (fun y s => zIt (fun x s => zMix (zMix (zMix s (zCv cart wov lot c w (nI x) (nI y) 0)) (zCv cart wov lot c w (nI x) (nI y) 1)) (zCv cart wov lot c w (nI x) (nI y) 2)) c s) k a)) (zCv cart wov lot c w (nI j) (nI k) 0)) (zCv cart wov lot c w (nI j) (nI k) 1))), (6, .int (nI j)), (5, .int (nI k)), (0, .ref 0), (1, .long a)]) dX9_mixedCells_65 rfl (by decide) rfl ?_
              refine z_lload_n 0 dX9_mixedCells_66 rfl rfl ?_
              refine z_aload_n 3 dX9_mixedCells_67 rfl rfl ?_
              refine z_get (v := .ref 1) 0 zgo_0 rfl inX9 (by decide) zw_230 rfl rfl dX9_mixedCells_68 ?_
              refine z_iload 1 dX9_mixedCells_71 rfl ?_
              refine z_iload 2 dX9_mixedCells_73 rfl ?_
              refine z_iconst (v := 2) dX9_mixedCells_75 (by decide) ?_
              refine z_callV (N := mX4_cellValue) 3 [.int (nI j), .int (nI k), .int 2] [.long (zMix (zMix (zIt (fun x s => zMix (zMix (zMix s (zCv cart wov lot c w (nI x) (nI k) 0)) (zCv cart wov lot c w (nI x) (nI k) 1)) (zCv cart wov lot c w (nI x) (nI k) 2)) j (zIt (fun y s => zIt (fun x s => zMix (zMix (zMix s (zCv cart wov lot c w (nI x) (nI y) 0)) (zCv cart wov lot c w (nI x) (nI y) 1)) (zCv cart wov lot c w (nI x) (nI y) 2)) c s) k a)) (zCv cart wov lot c w (nI j) (nI k) 0)) (zCv cart wov lot c w (nI j) (nI k) 1))] lX4_cellValue ⟨zw_375, zw_376, zw_377⟩ rfl zgo_1 rfl rfl (Nat.le_of_ble_eq_true rfl) (by decide) ⟨zlt, zlt⟩ ⟨Nat.zero_le _, Nat.zero_le _⟩ (fun _ => rfl) (c_cellValue hG hc hr hw hn (nI j) (nI k) 2) dX9_mixedCells_76 ?_
              refine z_callS (N := mX9_mixed) 2 [.long (zMix (zMix (zIt (fun x s => zMix (zMix (zMix s (zCv cart wov lot c w (nI x) (nI k) 0)) (zCv cart wov lot c w (nI x) (nI k) 1)) (zCv cart wov lot c w (nI x) (nI k) 2)) j (zIt (fun y s => zIt (fun x s => zMix (zMix (zMix s (zCv cart wov lot c w (nI x) (nI y) 0)) (zCv cart wov lot c w (nI x) (nI y) 1)) (zCv cart wov lot c w (nI x) (nI y) 2)) c s) k a)) (zCv cart wov lot c w (nI j) (nI k) 0)) (zCv cart wov lot c w (nI j) (nI k) 1)), .int (zCv cart wov lot c w (nI j) (nI k) 2)] [] lX9_mixed ⟨zw_248, zw_249⟩ rfl rfl rfl (Nat.le_of_ble_eq_true rfl) (by decide) ⟨zlt, zlt⟩ hG ⟨Nat.zero_le _, Nat.zero_le _⟩ (c_mixed hG zlt (zMix (zMix (zIt (fun x s => zMix (zMix (zMix s (zCv cart wov lot c w (nI x) (nI k) 0)) (zCv cart wov lot c w (nI x) (nI k) 1)) (zCv cart wov lot c w (nI x) (nI k) 2)) j (zIt (fun y s => zIt (fun x s => zMix (zMix (zMix s (zCv cart wov lot c w (nI x) (nI y) 0)) (zCv cart wov lot c w (nI x) (nI y) 1)) (zCv cart wov lot c w (nI x) (nI y) 2)) c s) k a)) (zCv cart wov lot c w (nI j) (nI k) 0)) (zCv cart wov lot c w (nI j) (nI k) 1)) (zCv cart wov lot c w (nI j) (nI k) 2)) dX9_mixedCells_79 ?_
              refine z_lstore_n (lv' := [(3, .long (zMix (zMix (zMix (zIt (fun x s => zMix (zMix (zMix s (zCv cart wov lot c w (nI x) (nI k) 0)) (zCv cart wov lot c w (nI x) (nI k) 1)) (zCv cart wov lot c w (nI x) (nI k) 2)) j (zIt (fun y s => zIt (fun x s => zMix (zMix (zMix s (zCv cart wov lot c w (nI x) (nI y) 0)) (zCv cart wov lot c w (nI x) (nI y) 1)) (zCv cart wov lot c w (nI x) (nI y) 2)) c s) k a)) (zCv cart wov lot c w (nI j) (nI k) 0)) (zCv cart wov lot c w (nI j) (nI k) 1)) (zCv cart wov lot c w (nI j) (nI k) 2))), (6, .int (nI j)), (5, .int (nI k)), (0, .ref 0), (1, .long a)]) dX9_mixedCells_82 rfl (by decide) rfl ?_
              refine z_iinc (v := nI (j + 1)) (lv' := [(6, .int (nI (j + 1))), (3, .long (zMix (zMix (zMix (zIt (fun x s => zMix (zMix (zMix s (zCv cart wov lot c w (nI x) (nI k) 0)) (zCv cart wov lot c w (nI x) (nI k) 1)) (zCv cart wov lot c w (nI x) (nI k) 2)) j (zIt (fun y s => zIt (fun x s => zMix (zMix (zMix s (zCv cart wov lot c w (nI x) (nI y) 0)) (zCv cart wov lot c w (nI x) (nI y) 1)) (zCv cart wov lot c w (nI x) (nI y) 2)) c s) k a)) (zCv cart wov lot c w (nI j) (nI k) 0)) (zCv cart wov lot c w (nI j) (nI k) 1)) (zCv cart wov lot c w (nI j) (nI k) 2))), (5, .int (nI k)), (0, .ref 0), (1, .long a)]) 1 dX9_mixedCells_83 rfl (nI_1 j) (by decide) rfl ?_
              refine z_goto (tgt := 20) dX9_mixedCells_86 (by decide) ?_
              refine z_sub [0, 1, 2, 3, 4] (lv' := [(6, .int (nI (j + 1))), (3, .long (zMix (zMix (zMix (zIt (fun x s => zMix (zMix (zMix s (zCv cart wov lot c w (nI x) (nI k) 0)) (zCv cart wov lot c w (nI x) (nI k) 1)) (zCv cart wov lot c w (nI x) (nI k) 2)) j (zIt (fun y s => zIt (fun x s => zMix (zMix (zMix s (zCv cart wov lot c w (nI x) (nI y) 0)) (zCv cart wov lot c w (nI x) (nI y) 1)) (zCv cart wov lot c w (nI x) (nI y) 2)) c s) k a)) (zCv cart wov lot c w (nI j) (nI k) 0)) (zCv cart wov lot c w (nI j) (nI k) 1)) (zCv cart wov lot c w (nI j) (nI k) 2))), (5, .int (nI k)), (0, .ref 0), (1, .long a)]) rfl ?_
              refine z_eqs (lv2 := [(6, .int (nI (j + 1))), (3, .long (zIt (fun x s => zMix (zMix (zMix s (zCv cart wov lot c w (nI x) (nI k) 0)) (zCv cart wov lot c w (nI x) (nI k) 1)) (zCv cart wov lot c w (nI x) (nI k) 2)) (j + 1) (zIt (fun y s => zIt (fun x s => zMix (zMix (zMix s (zCv cart wov lot c w (nI x) (nI y) 0)) (zCv cart wov lot c w (nI x) (nI y) 1)) (zCv cart wov lot c w (nI x) (nI y) 2)) c s) k a))), (5, .int (nI k)), (0, .ref 0), (1, .long a)]) (h2 := (zHp (c, r, w, lim, tol, cart, wov, lot, sew, mis, cnt, col, len, lef, sbt, shd) X Y out)) (by rfl) (by rfl) ?_
              exact ih20 (j + 1) (by omega) (by omega)
        refine z_sub [0, 2, 1, 3, 4] (lv' := [(6, .int 0), (3, .long (zIt (fun y s => zIt (fun x s => zMix (zMix (zMix s (zCv cart wov lot c w (nI x) (nI y) 0)) (zCv cart wov lot c w (nI x) (nI y) 1)) (zCv cart wov lot c w (nI x) (nI y) 2)) c s) k a)), (5, .int (nI k)), (0, .ref 0), (1, .long a)]) rfl ?_
        refine z_eqs (lv2 := [(6, .int (nI 0)), (3, .long (zIt (fun x s => zMix (zMix (zMix s (zCv cart wov lot c w (nI x) (nI k) 0)) (zCv cart wov lot c w (nI x) (nI k) 1)) (zCv cart wov lot c w (nI x) (nI k) 2)) 0 (zIt (fun y s => zIt (fun x s => zMix (zMix (zMix s (zCv cart wov lot c w (nI x) (nI y) 0)) (zCv cart wov lot c w (nI x) (nI y) 1)) (zCv cart wov lot c w (nI x) (nI y) 2)) c s) k a))), (5, .int (nI k)), (0, .ref 0), (1, .long a)]) (h2 := (zHp (c, r, w, lim, tol, cart, wov, lot, sew, mis, cnt, col, len, lef, sbt, shd) X Y out)) (by rfl) (by rfl) ?_
        exact L20_2 (c + 1) 0 (Nat.zero_le _) (by omega)
  refine z_sub [0, 1, 2, 3] (lv' := [(5, .int 0), (3, .long a), (0, .ref 0), (1, .long a)]) rfl ?_
  refine z_eqs (lv2 := [(5, .int (nI 0)), (3, .long (zIt (fun y s => zIt (fun x s => zMix (zMix (zMix s (zCv cart wov lot c w (nI x) (nI y) 0)) (zCv cart wov lot c w (nI x) (nI y) 1)) (zCv cart wov lot c w (nI x) (nI y) 2)) c s) 0 a)), (0, .ref 0), (1, .long a)]) (h2 := (zHp (c, r, w, lim, tol, cart, wov, lot, sew, mis, cnt, col, len, lef, sbt, shd) X Y out)) (by rfl) (by rfl) ?_
  exact L5_1 (r + 1) 0 (Nat.zero_le _) (by omega)

def zMrow (cart wov lot : Nat → Int32) (shd : Nat → UInt32) (c w cnt : Nat) (a : Int64) : Int64 := zIt (fun y s => zMix (zIt (fun t s => zMix s (zRv wov cart lot c cnt (nI y) (nI t))) 5 s) (zBo (zCon lot shd c (nI y)))) w a

set_option maxHeartbeats 4000000 in
set_option maxRecDepth 100000 in
theorem c_mRows {G : zT} {c r w lim cnt : Nat} {tol : Int32} {cart wov lot sew mis col len lef sbt : Nat → Int32} {shd : Nat → UInt32} {X : zXr} {Y : zYr} {out : Nat → Int64} (hG : zAl G = false) (hc : c ≤ 20) (hr : r ≤ 16) (hw : w ≤ r) (hn : cnt ≤ 16) (hs : ∀ j, zFinS (shd j)) (hc1 : 1 ≤ c) (a : Int64) : zRun G mX9_mixedRows 0 0 [.ref 0, .long a] (zHp (c, r, w, lim, tol, cart, wov, lot, sew, mis, cnt, col, len, lef, sbt, shd) X Y out) (.inr (some (.long (zMrow cart wov lot shd c w cnt a)))) (zHp (c, r, w, lim, tol, cart, wov, lot, sew, mis, cnt, col, len, lef, sbt, shd) X Y out) := by
  refine zRun_of (by decide +kernel) rfl rfl (Nat.le_of_ble_eq_true rfl) ?_
  suffices hs : ∀ (o9 : zO) (h9 : zH), (Sum.inr (some (.long (zMrow cart wov lot shd c w cnt a))) : zO) = o9 → (zHp (c, r, w, lim, tol, cart, wov, lot, sew, mis, cnt, col, len, lef, sbt, shd) X Y out) = h9 → zPW G mX9_mixedRows 0 0 o9 h9 0 0 0 [(0, .ref 0), (1, .long a)] [] (zHp (c, r, w, lim, tol, cart, wov, lot, sew, mis, cnt, col, len, lef, sbt, shd) X Y out) from hs _ _ rfl rfl
  intro o9 h9 ho9 hh9
  refine z_lload_n 1 dX9_mixedRows_0 rfl rfl ?_
  refine z_lstore_n (lv' := [(3, .long a), (0, .ref 0), (1, .long a)]) dX9_mixedRows_1 rfl (by decide) rfl ?_
  refine z_iconst (v := 0) dX9_mixedRows_2 (by decide) ?_
  refine z_istore (lv' := [(5, .int 0), (3, .long a), (0, .ref 0), (1, .long a)]) dX9_mixedRows_3 (by decide) rfl ?_
  have L5_1 : ∀ (d k : Nat), k ≤ w → w + 1 ≤ k + d → zPW G mX9_mixedRows 0 0 o9 h9 0 0 5 [(5, .int (nI k)), (3, .long (zIt (fun y s => zMix (zIt (fun t s => zMix s (zRv wov cart lot c cnt (nI y) (nI t))) 5 s) (zBo (zCon lot shd c (nI y)))) k a)), (0, .ref 0), (1, .long a)] [] (zHp (c, r, w, lim, tol, cart, wov, lot, sew, mis, cnt, col, len, lef, sbt, shd) X Y out) := by
    intro d
    induction d with
    | zero => intro k hk hd; exact absurd hd (by omega)
    | succ d ih =>
      intro k hk_k hd_k
      have ih5 := ih
      clear ih
      refine z_iload 0 dX9_mixedRows_5 rfl ?_
      refine z_aload_n 2 dX9_mixedRows_7 rfl rfl ?_
      refine z_get (v := .ref 1) 0 zgo_0 rfl inX9 (by decide) zw_230 rfl rfl dX9_mixedRows_8 ?_
      refine z_getN (v := .int (nI w)) 2 zgo_1 rfl inX4 (by decide) (by decide) rfl rfl dX9_mixedRows_11 ?_
      refine z_icmp_ge (tgt := 71) dX9_mixedRows_14 (by decide) (fun c_14 => ?_) (fun c_14 => ?_)
      · skip
        have hx_k := zge (by omega) hk_k c_14
        refine z_lload_n 1 dX9_mixedRows_71 rfl rfl ?_
        exact z_lret rfl dX9_mixedRows_72 (zo_l ho9 (by rw [zMrow, hx_k])) (zo_h hh9 (by rfl)) (Nat.zero_le _) (Nat.zero_le _)
      · skip
        have hx_k := zlt' (by omega) hk_k c_14
        refine z_iconst (v := 0) dX9_mixedRows_17 (by decide) ?_
        refine z_istore (lv' := [(6, .int 0), (5, .int (nI k)), (3, .long (zIt (fun y s => zMix (zIt (fun t s => zMix s (zRv wov cart lot c cnt (nI y) (nI t))) 5 s) (zBo (zCon lot shd c (nI y)))) k a)), (0, .ref 0), (1, .long a)]) dX9_mixedRows_18 (by decide) rfl ?_
        have L20_2 : ∀ (d j : Nat), j ≤ 5 → 5 + 1 ≤ j + d → zPW G mX9_mixedRows 0 0 o9 h9 0 0 20 [(6, .int (nI j)), (3, .long (zIt (fun t s => zMix s (zRv wov cart lot c cnt (nI k) (nI t))) j (zIt (fun y s => zMix (zIt (fun t s => zMix s (zRv wov cart lot c cnt (nI y) (nI t))) 5 s) (zBo (zCon lot shd c (nI y)))) k a))), (5, .int (nI k)), (0, .ref 0), (1, .long a)] [] (zHp (c, r, w, lim, tol, cart, wov, lot, sew, mis, cnt, col, len, lef, sbt, shd) X Y out) := by
          intro d
          induction d with
          | zero => intro j hk hd; exact absurd hd (by omega)
          | succ d ih =>
            intro j hk_j hd_j
            have ih20 := ih
            clear ih
            refine z_iload 0 dX9_mixedRows_20 rfl ?_
            refine z_iconst (v := nI 5) dX9_mixedRows_22 (by decide) ?_
            refine z_icmp_ge (tgt := 48) dX9_mixedRows_23 (by decide) (fun c_23 => ?_) (fun c_23 => ?_)
            · skip
              have hx_j := zge (by omega) hk_j c_23
              refine z_lload_n 1 dX9_mixedRows_48 rfl rfl ?_
              refine z_aload_n 3 dX9_mixedRows_49 rfl rfl ?_
              refine z_get (v := .ref 1) 0 zgo_0 rfl inX9 (by decide) zw_230 rfl rfl dX9_mixedRows_50 ?_
              refine z_iload 2 dX9_mixedRows_53 rfl ?_
              refine z_callV (N := mX4_contrastOf) 1 [.int (nI k)] [.long (zIt (fun t s => zMix s (zRv wov cart lot c cnt (nI k) (nI t))) j (zIt (fun y s => zMix (zIt (fun t s => zMix s (zRv wov cart lot c cnt (nI y) (nI t))) 5 s) (zBo (zCon lot shd c (nI y)))) k a))] lX4_contrastOf ⟨zw_399, zw_400, zw_401⟩ rfl zgo_1 rfl rfl (Nat.le_of_ble_eq_true rfl) (by decide) ⟨zlt, zlt⟩ ⟨Nat.zero_le _, Nat.zero_le _⟩ (fun _ => rfl) (c_contrast hG hc hr hw hn hs hc1 (nI k)) dX9_mixedRows_55 ?_
              refine z_callSO (N := mX7_bitsOf) 1 [.float (zCon lot shd c (nI k))] [.long (zIt (fun t s => zMix s (zRv wov cart lot c cnt (nI k) (nI t))) j (zIt (fun y s => zMix (zIt (fun t s => zMix s (zRv wov cart lot c cnt (nI y) (nI t))) 5 s) (zBo (zCon lot shd c (nI y)))) k a))] lX7_bitsOf ⟨zw_403, zw_404⟩ rfl rfl (Nat.le_of_ble_eq_true rfl) (by decide) ⟨zlt, zlt⟩ hG ⟨Nat.zero_le _, Nat.zero_le _⟩ (c_bitsOf hG zlt (zCon lot shd c (nI k)) (zCon_ok hs hc)) dX9_mixedRows_58 ?_
              refine z_callS (N := mX9_mixed) 2 [.long (zIt (fun t s => zMix s (zRv wov cart lot c cnt (nI k) (nI t))) j (zIt (fun y s => zMix (zIt (fun t s => zMix s (zRv wov cart lot c cnt (nI y) (nI t))) 5 s) (zBo (zCon lot shd c (nI y)))) k a)), .int (zBo (zCon lot shd c (nI k)))] [] lX9_mixed ⟨zw_248, zw_249⟩ rfl rfl rfl (Nat.le_of_ble_eq_true rfl) (by decide) ⟨zlt, zlt⟩ hG ⟨Nat.zero_le _, Nat.zero_le _⟩ (c_mixed hG zlt (zIt (fun t s => zMix s (zRv wov cart lot c cnt (nI k) (nI t))) j (zIt (fun y s => zMix (zIt (fun t s => zMix s (zRv wov cart lot c cnt (nI y) (nI t))) 5 s) (zBo (zCon lot shd c (nI y)))) k a)) (zBo (zCon lot shd c (nI k)))) dX9_mixedRows_61 ?_
              refine z_lstore_n (lv' := [(3, .long (zMix (zIt (fun t s => zMix s (zRv wov cart lot c cnt (nI k) (nI t))) j (zIt (fun y s => zMix (zIt (fun t s => zMix s (zRv wov cart lot c cnt (nI y) (nI t))) 5 s) (zBo (zCon lot shd c (nI y)))) k a)) (zBo (zCon lot shd c (nI k))))), (6, .int (nI j)), (5, .int (nI k)), (0, .ref 0), (1, .long a)]) dX9_mixedRows_64 rfl (by decide) rfl ?_
              refine z_iinc (v := nI (k + 1)) (lv' := [(5, .int (nI (k + 1))), (3, .long (zMix (zIt (fun t s => zMix s (zRv wov cart lot c cnt (nI k) (nI t))) j (zIt (fun y s => zMix (zIt (fun t s => zMix s (zRv wov cart lot c cnt (nI y) (nI t))) 5 s) (zBo (zCon lot shd c (nI y)))) k a)) (zBo (zCon lot shd c (nI k))))), (6, .int (nI j)), (0, .ref 0), (1, .long a)]) 2 dX9_mixedRows_65 rfl (nI_1 k) (by decide) rfl ?_
              refine z_goto (tgt := 5) dX9_mixedRows_68 (by decide) ?_
              refine z_sub [0, 1, 3, 4] (lv' := [(5, .int (nI (k + 1))), (3, .long (zMix (zIt (fun t s => zMix s (zRv wov cart lot c cnt (nI k) (nI t))) j (zIt (fun y s => zMix (zIt (fun t s => zMix s (zRv wov cart lot c cnt (nI y) (nI t))) 5 s) (zBo (zCon lot shd c (nI y)))) k a)) (zBo (zCon lot shd c (nI k))))), (0, .ref 0), (1, .long a)]) rfl ?_
              refine z_eqs (lv2 := [(5, .int (nI (k + 1))), (3, .long (zIt (fun y s => zMix (zIt (fun t s => zMix s (zRv wov cart lot c cnt (nI y) (nI t))) 5 s) (zBo (zCon lot shd c (nI y)))) (k + 1) a)), (0, .ref 0), (1, .long a)]) (h2 := (zHp (c, r, w, lim, tol, cart, wov, lot, sew, mis, cnt, col, len, lef, sbt, shd) X Y out)) (by rw [hx_j]; rfl) (by rfl) ?_
              exact ih5 (k + 1) (by omega) (by omega)
            · skip
              have hx_j := zlt' (by omega) hk_j c_23
              refine z_lload_n 1 dX9_mixedRows_26 rfl rfl ?_
              refine z_aload_n 3 dX9_mixedRows_27 rfl rfl ?_
              refine z_get (v := .ref 1) 0 zgo_0 rfl inX9 (by decide) zw_230 rfl rfl dX9_mixedRows_28 ?_
              refine z_iload 2 dX9_mixedRows_31 rfl ?_
              refine z_iload 0 dX9_mixedRows_33 rfl ?_
              refine z_callV (N := mX4_rowValue) 2 [.int (nI k), .int (nI j)] [.long (zIt (fun t s => zMix s (zRv wov cart lot c cnt (nI k) (nI t))) j (zIt (fun y s => zMix (zIt (fun t s => zMix s (zRv wov cart lot c cnt (nI y) (nI t))) 5 s) (zBo (zCon lot shd c (nI y)))) k a))] lX4_rowValue ⟨zw_391, zw_392, zw_393⟩ rfl zgo_1 rfl rfl (Nat.le_of_ble_eq_true rfl) (by decide) ⟨zlt, zlt⟩ ⟨Nat.zero_le _, Nat.zero_le _⟩ (fun _ => rfl) (c_rowValue hG hc hr hw hn (nI k) (nI j)) dX9_mixedRows_35 ?_
              refine z_callS (N := mX9_mixed) 2 [.long (zIt (fun t s => zMix s (zRv wov cart lot c cnt (nI k) (nI t))) j (zIt (fun y s => zMix (zIt (fun t s => zMix s (zRv wov cart lot c cnt (nI y) (nI t))) 5 s) (zBo (zCon lot shd c (nI y)))) k a)), .int (zRv wov cart lot c cnt (nI k) (nI j))] [] lX9_mixed ⟨zw_248, zw_249⟩ rfl rfl rfl (Nat.le_of_ble_eq_true rfl) (by decide) ⟨zlt, zlt⟩ hG ⟨Nat.zero_le _, Nat.zero_le _⟩ (c_mixed hG zlt (zIt (fun t s => zMix s (zRv wov cart lot c cnt (nI k) (nI t))) j (zIt (fun y s => zMix (zIt (fun t s => zMix s (zRv wov cart lot c cnt (nI y) (nI t))) 5 s) (zBo (zCon lot shd c (nI y)))) k a)) (zRv wov cart lot c cnt (nI k) (nI j))) dX9_mixedRows_38 ?_
              refine z_lstore_n (lv' := [(3, .long (zMix (zIt (fun t s => zMix s (zRv wov cart lot c cnt (nI k) (nI t))) j (zIt (fun y s => zMix (zIt (fun t s => zMix s (zRv wov cart lot c cnt (nI y) (nI t))) 5 s) (zBo (zCon lot shd c (nI y)))) k a)) (zRv wov cart lot c cnt (nI k) (nI j)))), (6, .int (nI j)), (5, .int (nI k)), (0, .ref 0), (1, .long a)]) dX9_mixedRows_41 rfl (by decide) rfl ?_
              refine z_iinc (v := nI (j + 1)) (lv' := [(6, .int (nI (j + 1))), (3, .long (zMix (zIt (fun t s => zMix s (zRv wov cart lot c cnt (nI k) (nI t))) j (zIt (fun y s => zMix (zIt (fun t s => zMix s (zRv wov cart lot c cnt (nI y) (nI t))) 5 s) (zBo (zCon lot shd c (nI y)))) k a)) (zRv wov cart lot c cnt (nI k) (nI j)))), (5, .int (nI k)), (0, .ref 0), (1, .long a)]) 1 dX9_mixedRows_42 rfl (nI_1 j) (by decide) rfl ?_
              refine z_goto (tgt := 20) dX9_mixedRows_45 (by decide) ?_
              refine z_sub [0, 1, 2, 3, 4] (lv' := [(6, .int (nI (j + 1))), (3, .long (zMix (zIt (fun t s => zMix s (zRv wov cart lot c cnt (nI k) (nI t))) j (zIt (fun y s => zMix (zIt (fun t s => zMix s (zRv wov cart lot c cnt (nI y) (nI t))) 5 s) (zBo (zCon lot shd c (nI y)))) k a)) (zRv wov cart lot c cnt (nI k) (nI j)))), (5, .int (nI k)), (0, .ref 0), (1, .long a)]) rfl ?_
              refine z_eqs (lv2 := [(6, .int (nI (j + 1))), (3, .long (zIt (fun t s => zMix s (zRv wov cart lot c cnt (nI k) (nI t))) (j + 1) (zIt (fun y s => zMix (zIt (fun t s => zMix s (zRv wov cart lot c cnt (nI y) (nI t))) 5 s) (zBo (zCon lot shd c (nI y)))) k a))), (5, .int (nI k)), (0, .ref 0), (1, .long a)]) (h2 := (zHp (c, r, w, lim, tol, cart, wov, lot, sew, mis, cnt, col, len, lef, sbt, shd) X Y out)) (by rfl) (by rfl) ?_
              exact ih20 (j + 1) (by omega) (by omega)
        refine z_sub [0, 2, 1, 3, 4] (lv' := [(6, .int 0), (3, .long (zIt (fun y s => zMix (zIt (fun t s => zMix s (zRv wov cart lot c cnt (nI y) (nI t))) 5 s) (zBo (zCon lot shd c (nI y)))) k a)), (5, .int (nI k)), (0, .ref 0), (1, .long a)]) rfl ?_
        refine z_eqs (lv2 := [(6, .int (nI 0)), (3, .long (zIt (fun t s => zMix s (zRv wov cart lot c cnt (nI k) (nI t))) 0 (zIt (fun y s => zMix (zIt (fun t s => zMix s (zRv wov cart lot c cnt (nI y) (nI t))) 5 s) (zBo (zCon lot shd c (nI y)))) k a))), (5, .int (nI k)), (0, .ref 0), (1, .long a)]) (h2 := (zHp (c, r, w, lim, tol, cart, wov, lot, sew, mis, cnt, col, len, lef, sbt, shd) X Y out)) (by rfl) (by rfl) ?_
        exact L20_2 (5 + 1) 0 (Nat.zero_le _) (by omega)
  refine z_sub [0, 1, 2, 3] (lv' := [(5, .int 0), (3, .long a), (0, .ref 0), (1, .long a)]) rfl ?_
  refine z_eqs (lv2 := [(5, .int (nI 0)), (3, .long (zIt (fun y s => zMix (zIt (fun t s => zMix s (zRv wov cart lot c cnt (nI y) (nI t))) 5 s) (zBo (zCon lot shd c (nI y)))) 0 a)), (0, .ref 0), (1, .long a)]) (h2 := (zHp (c, r, w, lim, tol, cart, wov, lot, sew, mis, cnt, col, len, lef, sbt, shd) X Y out)) (by rfl) (by rfl) ?_
  exact L5_1 (w + 1) 0 (Nat.zero_le _) (by omega)

def zMlot (lot col len lef sbt : Nat → Int32) (c w cnt : Nat) (a : Int64) : Int64 := zIt (fun l s => zIt (fun t s => zMix s (zLv lot col len lef sbt c w cnt (nI l) (nI t))) 6 s) cnt a

set_option maxHeartbeats 4000000 in
set_option maxRecDepth 100000 in
theorem c_mLots {G : zT} {c r w lim cnt : Nat} {tol : Int32} {cart wov lot sew mis col len lef sbt : Nat → Int32} {shd : Nat → UInt32} {X : zXr} {Y : zYr} {out : Nat → Int64} (hG : zAl G = false) (hc : c ≤ 20) (hr : r ≤ 16) (hw : w ≤ r) (hn : cnt ≤ 16) (a : Int64) : zRun G mX9_mixedLots 0 0 [.ref 0, .long a] (zHp (c, r, w, lim, tol, cart, wov, lot, sew, mis, cnt, col, len, lef, sbt, shd) X Y out) (.inr (some (.long (zMlot lot col len lef sbt c w cnt a)))) (zHp (c, r, w, lim, tol, cart, wov, lot, sew, mis, cnt, col, len, lef, sbt, shd) X Y out) := by
  refine zRun_of (by decide +kernel) rfl rfl (Nat.le_of_ble_eq_true rfl) ?_
  suffices hs : ∀ (o9 : zO) (h9 : zH), (Sum.inr (some (.long (zMlot lot col len lef sbt c w cnt a))) : zO) = o9 → (zHp (c, r, w, lim, tol, cart, wov, lot, sew, mis, cnt, col, len, lef, sbt, shd) X Y out) = h9 → zPW G mX9_mixedLots 0 0 o9 h9 0 0 0 [(0, .ref 0), (1, .long a)] [] (zHp (c, r, w, lim, tol, cart, wov, lot, sew, mis, cnt, col, len, lef, sbt, shd) X Y out) from hs _ _ rfl rfl
  intro o9 h9 ho9 hh9
  refine z_lload_n 1 dX9_mixedLots_0 rfl rfl ?_
  refine z_lstore_n (lv' := [(3, .long a), (0, .ref 0), (1, .long a)]) dX9_mixedLots_1 rfl (by decide) rfl ?_
  refine z_iconst (v := 0) dX9_mixedLots_2 (by decide) ?_
  refine z_istore (lv' := [(5, .int 0), (3, .long a), (0, .ref 0), (1, .long a)]) dX9_mixedLots_3 (by decide) rfl ?_
  have L5_1 : ∀ (d k : Nat), k ≤ cnt → cnt + 1 ≤ k + d → zPW G mX9_mixedLots 0 0 o9 h9 0 0 5 [(5, .int (nI k)), (3, .long (zIt (fun l s => zIt (fun t s => zMix s (zLv lot col len lef sbt c w cnt (nI l) (nI t))) 6 s) k a)), (0, .ref 0), (1, .long a)] [] (zHp (c, r, w, lim, tol, cart, wov, lot, sew, mis, cnt, col, len, lef, sbt, shd) X Y out) := by
    intro d
    induction d with
    | zero => intro k hk hd; exact absurd hd (by omega)
    | succ d ih =>
      intro k hk_k hd_k
      have ih5 := ih
      clear ih
      refine z_iload 0 dX9_mixedLots_5 rfl ?_
      refine z_aload_n 2 dX9_mixedLots_7 rfl rfl ?_
      refine z_get (v := .ref 1) 0 zgo_0 rfl inX9 (by decide) zw_230 rfl rfl dX9_mixedLots_8 ?_
      refine z_getN (v := .ref 12) 10 zgo_1 rfl inX4 (by decide) (by decide) rfl rfl dX9_mixedLots_11 ?_
      refine z_getN (v := .int (nI cnt)) 0 zgo_12 rfl inX5 (by decide) (by decide) rfl rfl dX9_mixedLots_14 ?_
      refine z_icmp_ge (tgt := 58) dX9_mixedLots_17 (by decide) (fun c_17 => ?_) (fun c_17 => ?_)
      · skip
        have hx_k := zge (by omega) hk_k c_17
        refine z_lload_n 1 dX9_mixedLots_58 rfl rfl ?_
        exact z_lret rfl dX9_mixedLots_59 (zo_l ho9 (by rw [zMlot, hx_k])) (zo_h hh9 (by rfl)) (Nat.zero_le _) (Nat.zero_le _)
      · skip
        have hx_k := zlt' (by omega) hk_k c_17
        refine z_iconst (v := 0) dX9_mixedLots_20 (by decide) ?_
        refine z_istore (lv' := [(6, .int 0), (5, .int (nI k)), (3, .long (zIt (fun l s => zIt (fun t s => zMix s (zLv lot col len lef sbt c w cnt (nI l) (nI t))) 6 s) k a)), (0, .ref 0), (1, .long a)]) dX9_mixedLots_21 (by decide) rfl ?_
        have L23_2 : ∀ (d j : Nat), j ≤ 6 → 6 + 1 ≤ j + d → zPW G mX9_mixedLots 0 0 o9 h9 0 0 23 [(6, .int (nI j)), (3, .long (zIt (fun t s => zMix s (zLv lot col len lef sbt c w cnt (nI k) (nI t))) j (zIt (fun l s => zIt (fun t s => zMix s (zLv lot col len lef sbt c w cnt (nI l) (nI t))) 6 s) k a))), (5, .int (nI k)), (0, .ref 0), (1, .long a)] [] (zHp (c, r, w, lim, tol, cart, wov, lot, sew, mis, cnt, col, len, lef, sbt, shd) X Y out) := by
          intro d
          induction d with
          | zero => intro j hk hd; exact absurd hd (by omega)
          | succ d ih =>
            intro j hk_j hd_j
            have ih23 := ih
            clear ih
            refine z_iload 0 dX9_mixedLots_23 rfl ?_
            refine z_bipush (v := nI 6) dX9_mixedLots_25 (by decide) ?_
            refine z_icmp_ge (tgt := 52) dX9_mixedLots_27 (by decide) (fun c_27 => ?_) (fun c_27 => ?_)
            · skip
              have hx_j := zge (by omega) hk_j c_27
              refine z_iinc (v := nI (k + 1)) (lv' := [(5, .int (nI (k + 1))), (6, .int (nI j)), (3, .long (zIt (fun t s => zMix s (zLv lot col len lef sbt c w cnt (nI k) (nI t))) j (zIt (fun l s => zIt (fun t s => zMix s (zLv lot col len lef sbt c w cnt (nI l) (nI t))) 6 s) k a))), (0, .ref 0), (1, .long a)]) 2 dX9_mixedLots_52 rfl (nI_1 k) (by decide) rfl ?_
              refine z_goto (tgt := 5) dX9_mixedLots_55 (by decide) ?_
              refine z_sub [0, 2, 3, 4] (lv' := [(5, .int (nI (k + 1))), (3, .long (zIt (fun t s => zMix s (zLv lot col len lef sbt c w cnt (nI k) (nI t))) j (zIt (fun l s => zIt (fun t s => zMix s (zLv lot col len lef sbt c w cnt (nI l) (nI t))) 6 s) k a))), (0, .ref 0), (1, .long a)]) rfl ?_
              refine z_eqs (lv2 := [(5, .int (nI (k + 1))), (3, .long (zIt (fun l s => zIt (fun t s => zMix s (zLv lot col len lef sbt c w cnt (nI l) (nI t))) 6 s) (k + 1) a)), (0, .ref 0), (1, .long a)]) (h2 := (zHp (c, r, w, lim, tol, cart, wov, lot, sew, mis, cnt, col, len, lef, sbt, shd) X Y out)) (by rw [hx_j]; rfl) (by rfl) ?_
              exact ih5 (k + 1) (by omega) (by omega)
            · skip
              have hx_j := zlt' (by omega) hk_j c_27
              refine z_lload_n 1 dX9_mixedLots_30 rfl rfl ?_
              refine z_aload_n 3 dX9_mixedLots_31 rfl rfl ?_
              refine z_get (v := .ref 1) 0 zgo_0 rfl inX9 (by decide) zw_230 rfl rfl dX9_mixedLots_32 ?_
              refine z_iload 2 dX9_mixedLots_35 rfl ?_
              refine z_iload 0 dX9_mixedLots_37 rfl ?_
              refine z_callV (N := mX4_lotValue) 2 [.int (nI k), .int (nI j)] [.long (zIt (fun t s => zMix s (zLv lot col len lef sbt c w cnt (nI k) (nI t))) j (zIt (fun l s => zIt (fun t s => zMix s (zLv lot col len lef sbt c w cnt (nI l) (nI t))) 6 s) k a))] lX4_lotValue ⟨zw_411, zw_412, zw_413⟩ rfl zgo_1 rfl rfl (Nat.le_of_ble_eq_true rfl) (by decide) ⟨zlt, zlt⟩ ⟨Nat.zero_le _, Nat.zero_le _⟩ (fun _ => rfl) (c_lotValue hG hc hr hw hn (nI k) (nI j)) dX9_mixedLots_39 ?_
              refine z_callS (N := mX9_mixed) 2 [.long (zIt (fun t s => zMix s (zLv lot col len lef sbt c w cnt (nI k) (nI t))) j (zIt (fun l s => zIt (fun t s => zMix s (zLv lot col len lef sbt c w cnt (nI l) (nI t))) 6 s) k a)), .int (zLv lot col len lef sbt c w cnt (nI k) (nI j))] [] lX9_mixed ⟨zw_248, zw_249⟩ rfl rfl rfl (Nat.le_of_ble_eq_true rfl) (by decide) ⟨zlt, zlt⟩ hG ⟨Nat.zero_le _, Nat.zero_le _⟩ (c_mixed hG zlt (zIt (fun t s => zMix s (zLv lot col len lef sbt c w cnt (nI k) (nI t))) j (zIt (fun l s => zIt (fun t s => zMix s (zLv lot col len lef sbt c w cnt (nI l) (nI t))) 6 s) k a)) (zLv lot col len lef sbt c w cnt (nI k) (nI j))) dX9_mixedLots_42 ?_
              refine z_lstore_n (lv' := [(3, .long (zMix (zIt (fun t s => zMix s (zLv lot col len lef sbt c w cnt (nI k) (nI t))) j (zIt (fun l s => zIt (fun t s => zMix s (zLv lot col len lef sbt c w cnt (nI l) (nI t))) 6 s) k a)) (zLv lot col len lef sbt c w cnt (nI k) (nI j)))), (6, .int (nI j)), (5, .int (nI k)), (0, .ref 0), (1, .long a)]) dX9_mixedLots_45 rfl (by decide) rfl ?_
              refine z_iinc (v := nI (j + 1)) (lv' := [(6, .int (nI (j + 1))), (3, .long (zMix (zIt (fun t s => zMix s (zLv lot col len lef sbt c w cnt (nI k) (nI t))) j (zIt (fun l s => zIt (fun t s => zMix s (zLv lot col len lef sbt c w cnt (nI l) (nI t))) 6 s) k a)) (zLv lot col len lef sbt c w cnt (nI k) (nI j)))), (5, .int (nI k)), (0, .ref 0), (1, .long a)]) 1 dX9_mixedLots_46 rfl (nI_1 j) (by decide) rfl ?_
              refine z_goto (tgt := 23) dX9_mixedLots_49 (by decide) ?_
              refine z_sub [0, 1, 2, 3, 4] (lv' := [(6, .int (nI (j + 1))), (3, .long (zMix (zIt (fun t s => zMix s (zLv lot col len lef sbt c w cnt (nI k) (nI t))) j (zIt (fun l s => zIt (fun t s => zMix s (zLv lot col len lef sbt c w cnt (nI l) (nI t))) 6 s) k a)) (zLv lot col len lef sbt c w cnt (nI k) (nI j)))), (5, .int (nI k)), (0, .ref 0), (1, .long a)]) rfl ?_
              refine z_eqs (lv2 := [(6, .int (nI (j + 1))), (3, .long (zIt (fun t s => zMix s (zLv lot col len lef sbt c w cnt (nI k) (nI t))) (j + 1) (zIt (fun l s => zIt (fun t s => zMix s (zLv lot col len lef sbt c w cnt (nI l) (nI t))) 6 s) k a))), (5, .int (nI k)), (0, .ref 0), (1, .long a)]) (h2 := (zHp (c, r, w, lim, tol, cart, wov, lot, sew, mis, cnt, col, len, lef, sbt, shd) X Y out)) (by rfl) (by rfl) ?_
              exact ih23 (j + 1) (by omega) (by omega)
        refine z_sub [0, 2, 1, 3, 4] (lv' := [(6, .int 0), (3, .long (zIt (fun l s => zIt (fun t s => zMix s (zLv lot col len lef sbt c w cnt (nI l) (nI t))) 6 s) k a)), (5, .int (nI k)), (0, .ref 0), (1, .long a)]) rfl ?_
        refine z_eqs (lv2 := [(6, .int (nI 0)), (3, .long (zIt (fun t s => zMix s (zLv lot col len lef sbt c w cnt (nI k) (nI t))) 0 (zIt (fun l s => zIt (fun t s => zMix s (zLv lot col len lef sbt c w cnt (nI l) (nI t))) 6 s) k a))), (5, .int (nI k)), (0, .ref 0), (1, .long a)]) (h2 := (zHp (c, r, w, lim, tol, cart, wov, lot, sew, mis, cnt, col, len, lef, sbt, shd) X Y out)) (by rfl) (by rfl) ?_
        exact L23_2 (6 + 1) 0 (Nat.zero_le _) (by omega)
  refine z_sub [0, 1, 2, 3] (lv' := [(5, .int 0), (3, .long a), (0, .ref 0), (1, .long a)]) rfl ?_
  refine z_eqs (lv2 := [(5, .int (nI 0)), (3, .long (zIt (fun l s => zIt (fun t s => zMix s (zLv lot col len lef sbt c w cnt (nI l) (nI t))) 6 s) 0 a)), (0, .ref 0), (1, .long a)]) (h2 := (zHp (c, r, w, lim, tol, cart, wov, lot, sew, mis, cnt, col, len, lef, sbt, shd) X Y out)) (by rfl) (by rfl) ?_
  exact L5_1 (cnt + 1) 0 (Nat.zero_le _) (by omega)

def zMcol (cart wov lot col lef : Nat → Int32) (shd : Nat → UInt32) (c r w cnt : Nat) (a : Int64) : Int64 := zIt (fun v s => zMix (zIt (fun t s => zMix s (zCvl cart wov col lef c r w cnt (nI v) (nI t))) 6 s) (zBo (zMean wov lot shd c w (nI v)))) 8 a

set_option maxHeartbeats 4000000 in
set_option maxRecDepth 100000 in
theorem c_mColors {G : zT} {c r w lim cnt : Nat} {tol : Int32} {cart wov lot sew mis col len lef sbt : Nat → Int32} {shd : Nat → UInt32} {X : zXr} {Y : zYr} {out : Nat → Int64} (hG : zAl G = false) (hc : c ≤ 20) (hr : r ≤ 16) (hw : w ≤ r) (hn : cnt ≤ 16) (hs : ∀ j, zFinS (shd j)) (a : Int64) : zRun G mX9_mixedColors 0 0 [.ref 0, .long a] (zHp (c, r, w, lim, tol, cart, wov, lot, sew, mis, cnt, col, len, lef, sbt, shd) X Y out) (.inr (some (.long (zMcol cart wov lot col lef shd c r w cnt a)))) (zHp (c, r, w, lim, tol, cart, wov, lot, sew, mis, cnt, col, len, lef, sbt, shd) X Y out) := by
  refine zRun_of (by decide +kernel) rfl rfl (Nat.le_of_ble_eq_true rfl) ?_
  suffices hs : ∀ (o9 : zO) (h9 : zH), (Sum.inr (some (.long (zMcol cart wov lot col lef shd c r w cnt a))) : zO) = o9 → (zHp (c, r, w, lim, tol, cart, wov, lot, sew, mis, cnt, col, len, lef, sbt, shd) X Y out) = h9 → zPW G mX9_mixedColors 0 0 o9 h9 0 0 0 [(0, .ref 0), (1, .long a)] [] (zHp (c, r, w, lim, tol, cart, wov, lot, sew, mis, cnt, col, len, lef, sbt, shd) X Y out) from hs _ _ rfl rfl
  intro o9 h9 ho9 hh9
  refine z_lload_n 1 dX9_mixedColors_0 rfl rfl ?_
  refine z_lstore_n (lv' := [(3, .long a), (0, .ref 0), (1, .long a)]) dX9_mixedColors_1 rfl (by decide) rfl ?_
  refine z_iconst (v := 0) dX9_mixedColors_2 (by decide) ?_
  refine z_istore (lv' := [(5, .int 0), (3, .long a), (0, .ref 0), (1, .long a)]) dX9_mixedColors_3 (by decide) rfl ?_
  have L5_1 : ∀ (d k : Nat), k ≤ 8 → 8 + 1 ≤ k + d → zPW G mX9_mixedColors 0 0 o9 h9 0 0 5 [(5, .int (nI k)), (3, .long (zIt (fun v s => zMix (zIt (fun t s => zMix s (zCvl cart wov col lef c r w cnt (nI v) (nI t))) 6 s) (zBo (zMean wov lot shd c w (nI v)))) k a)), (0, .ref 0), (1, .long a)] [] (zHp (c, r, w, lim, tol, cart, wov, lot, sew, mis, cnt, col, len, lef, sbt, shd) X Y out) := by
    intro d
    induction d with
    | zero => intro k hk hd; exact absurd hd (by omega)
    | succ d ih =>
      intro k hk_k hd_k
      have ih5 := ih
      clear ih
      refine z_iload 0 dX9_mixedColors_5 rfl ?_
      refine z_bipush (v := nI 8) dX9_mixedColors_7 (by decide) ?_
      refine z_icmp_ge (tgt := 67) dX9_mixedColors_9 (by decide) (fun c_9 => ?_) (fun c_9 => ?_)
      · skip
        have hx_k := zge (by omega) hk_k c_9
        refine z_lload_n 1 dX9_mixedColors_67 rfl rfl ?_
        exact z_lret rfl dX9_mixedColors_68 (zo_l ho9 (by rw [zMcol, hx_k])) (zo_h hh9 (by rfl)) (Nat.zero_le _) (Nat.zero_le _)
      · skip
        have hx_k := zlt' (by omega) hk_k c_9
        refine z_iconst (v := 0) dX9_mixedColors_12 (by decide) ?_
        refine z_istore (lv' := [(6, .int 0), (5, .int (nI k)), (3, .long (zIt (fun v s => zMix (zIt (fun t s => zMix s (zCvl cart wov col lef c r w cnt (nI v) (nI t))) 6 s) (zBo (zMean wov lot shd c w (nI v)))) k a)), (0, .ref 0), (1, .long a)]) dX9_mixedColors_13 (by decide) rfl ?_
        have L15_2 : ∀ (d j : Nat), j ≤ 6 → 6 + 1 ≤ j + d → zPW G mX9_mixedColors 0 0 o9 h9 0 0 15 [(6, .int (nI j)), (3, .long (zIt (fun t s => zMix s (zCvl cart wov col lef c r w cnt (nI k) (nI t))) j (zIt (fun v s => zMix (zIt (fun t s => zMix s (zCvl cart wov col lef c r w cnt (nI v) (nI t))) 6 s) (zBo (zMean wov lot shd c w (nI v)))) k a))), (5, .int (nI k)), (0, .ref 0), (1, .long a)] [] (zHp (c, r, w, lim, tol, cart, wov, lot, sew, mis, cnt, col, len, lef, sbt, shd) X Y out) := by
          intro d
          induction d with
          | zero => intro j hk hd; exact absurd hd (by omega)
          | succ d ih =>
            intro j hk_j hd_j
            have ih15 := ih
            clear ih
            refine z_iload 0 dX9_mixedColors_15 rfl ?_
            refine z_bipush (v := nI 6) dX9_mixedColors_17 (by decide) ?_
            refine z_icmp_ge (tgt := 44) dX9_mixedColors_19 (by decide) (fun c_19 => ?_) (fun c_19 => ?_)
            · skip
              have hx_j := zge (by omega) hk_j c_19
              refine z_lload_n 1 dX9_mixedColors_44 rfl rfl ?_
              refine z_aload_n 3 dX9_mixedColors_45 rfl rfl ?_
              refine z_get (v := .ref 1) 0 zgo_0 rfl inX9 (by decide) zw_230 rfl rfl dX9_mixedColors_46 ?_
              refine z_iload 2 dX9_mixedColors_49 rfl ?_
              refine z_callV (N := mX4_meanShadeOf) 1 [.int (nI k)] [.long (zIt (fun t s => zMix s (zCvl cart wov col lef c r w cnt (nI k) (nI t))) j (zIt (fun v s => zMix (zIt (fun t s => zMix s (zCvl cart wov col lef c r w cnt (nI v) (nI t))) 6 s) (zBo (zMean wov lot shd c w (nI v)))) k a))] lX4_meanShadeOf ⟨zw_458, zw_459, zw_460⟩ rfl zgo_1 rfl rfl (Nat.le_of_ble_eq_true rfl) (by decide) ⟨zlt, zlt⟩ ⟨Nat.zero_le _, Nat.zero_le _⟩ (fun _ => rfl) (c_meanShade hG hc hr hw hn hs (nI k)) dX9_mixedColors_51 ?_
              refine z_callSO (N := mX7_bitsOf) 1 [.float (zMean wov lot shd c w (nI k))] [.long (zIt (fun t s => zMix s (zCvl cart wov col lef c r w cnt (nI k) (nI t))) j (zIt (fun v s => zMix (zIt (fun t s => zMix s (zCvl cart wov col lef c r w cnt (nI v) (nI t))) 6 s) (zBo (zMean wov lot shd c w (nI v)))) k a))] lX7_bitsOf ⟨zw_403, zw_404⟩ rfl rfl (Nat.le_of_ble_eq_true rfl) (by decide) ⟨zlt, zlt⟩ hG ⟨Nat.zero_le _, Nat.zero_le _⟩ (c_bitsOf hG zlt (zMean wov lot shd c w (nI k)) (zMean_ok hs hc (by omega))) dX9_mixedColors_54 ?_
              refine z_callS (N := mX9_mixed) 2 [.long (zIt (fun t s => zMix s (zCvl cart wov col lef c r w cnt (nI k) (nI t))) j (zIt (fun v s => zMix (zIt (fun t s => zMix s (zCvl cart wov col lef c r w cnt (nI v) (nI t))) 6 s) (zBo (zMean wov lot shd c w (nI v)))) k a)), .int (zBo (zMean wov lot shd c w (nI k)))] [] lX9_mixed ⟨zw_248, zw_249⟩ rfl rfl rfl (Nat.le_of_ble_eq_true rfl) (by decide) ⟨zlt, zlt⟩ hG ⟨Nat.zero_le _, Nat.zero_le _⟩ (c_mixed hG zlt (zIt (fun t s => zMix s (zCvl cart wov col lef c r w cnt (nI k) (nI t))) j (zIt (fun v s => zMix (zIt (fun t s => zMix s (zCvl cart wov col lef c r w cnt (nI v) (nI t))) 6 s) (zBo (zMean wov lot shd c w (nI v)))) k a)) (zBo (zMean wov lot shd c w (nI k)))) dX9_mixedColors_57 ?_
              refine z_lstore_n (lv' := [(3, .long (zMix (zIt (fun t s => zMix s (zCvl cart wov col lef c r w cnt (nI k) (nI t))) j (zIt (fun v s => zMix (zIt (fun t s => zMix s (zCvl cart wov col lef c r w cnt (nI v) (nI t))) 6 s) (zBo (zMean wov lot shd c w (nI v)))) k a)) (zBo (zMean wov lot shd c w (nI k))))), (6, .int (nI j)), (5, .int (nI k)), (0, .ref 0), (1, .long a)]) dX9_mixedColors_60 rfl (by decide) rfl ?_
              refine z_iinc (v := nI (k + 1)) (lv' := [(5, .int (nI (k + 1))), (3, .long (zMix (zIt (fun t s => zMix s (zCvl cart wov col lef c r w cnt (nI k) (nI t))) j (zIt (fun v s => zMix (zIt (fun t s => zMix s (zCvl cart wov col lef c r w cnt (nI v) (nI t))) 6 s) (zBo (zMean wov lot shd c w (nI v)))) k a)) (zBo (zMean wov lot shd c w (nI k))))), (6, .int (nI j)), (0, .ref 0), (1, .long a)]) 2 dX9_mixedColors_61 rfl (nI_1 k) (by decide) rfl ?_
              refine z_goto (tgt := 5) dX9_mixedColors_64 (by decide) ?_
              refine z_sub [0, 1, 3, 4] (lv' := [(5, .int (nI (k + 1))), (3, .long (zMix (zIt (fun t s => zMix s (zCvl cart wov col lef c r w cnt (nI k) (nI t))) j (zIt (fun v s => zMix (zIt (fun t s => zMix s (zCvl cart wov col lef c r w cnt (nI v) (nI t))) 6 s) (zBo (zMean wov lot shd c w (nI v)))) k a)) (zBo (zMean wov lot shd c w (nI k))))), (0, .ref 0), (1, .long a)]) rfl ?_
              refine z_eqs (lv2 := [(5, .int (nI (k + 1))), (3, .long (zIt (fun v s => zMix (zIt (fun t s => zMix s (zCvl cart wov col lef c r w cnt (nI v) (nI t))) 6 s) (zBo (zMean wov lot shd c w (nI v)))) (k + 1) a)), (0, .ref 0), (1, .long a)]) (h2 := (zHp (c, r, w, lim, tol, cart, wov, lot, sew, mis, cnt, col, len, lef, sbt, shd) X Y out)) (by rw [hx_j]; rfl) (by rfl) ?_
              exact ih5 (k + 1) (by omega) (by omega)
            · skip
              have hx_j := zlt' (by omega) hk_j c_19
              refine z_lload_n 1 dX9_mixedColors_22 rfl rfl ?_
              refine z_aload_n 3 dX9_mixedColors_23 rfl rfl ?_
              refine z_get (v := .ref 1) 0 zgo_0 rfl inX9 (by decide) zw_230 rfl rfl dX9_mixedColors_24 ?_
              refine z_iload 2 dX9_mixedColors_27 rfl ?_
              refine z_iload 0 dX9_mixedColors_29 rfl ?_
              refine z_callV (N := mX4_colorValue) 2 [.int (nI k), .int (nI j)] [.long (zIt (fun t s => zMix s (zCvl cart wov col lef c r w cnt (nI k) (nI t))) j (zIt (fun v s => zMix (zIt (fun t s => zMix s (zCvl cart wov col lef c r w cnt (nI v) (nI t))) 6 s) (zBo (zMean wov lot shd c w (nI v)))) k a))] lX4_colorValue ⟨zw_428, zw_429, zw_430⟩ rfl zgo_1 rfl rfl (Nat.le_of_ble_eq_true rfl) (by decide) ⟨zlt, zlt⟩ ⟨Nat.zero_le _, Nat.zero_le _⟩ (fun _ => rfl) (c_colorValue hG hc hr hw hn (nI k) (nI j)) dX9_mixedColors_31 ?_
              refine z_callS (N := mX9_mixed) 2 [.long (zIt (fun t s => zMix s (zCvl cart wov col lef c r w cnt (nI k) (nI t))) j (zIt (fun v s => zMix (zIt (fun t s => zMix s (zCvl cart wov col lef c r w cnt (nI v) (nI t))) 6 s) (zBo (zMean wov lot shd c w (nI v)))) k a)), .int (zCvl cart wov col lef c r w cnt (nI k) (nI j))] [] lX9_mixed ⟨zw_248, zw_249⟩ rfl rfl rfl (Nat.le_of_ble_eq_true rfl) (by decide) ⟨zlt, zlt⟩ hG ⟨Nat.zero_le _, Nat.zero_le _⟩ (c_mixed hG zlt (zIt (fun t s => zMix s (zCvl cart wov col lef c r w cnt (nI k) (nI t))) j (zIt (fun v s => zMix (zIt (fun t s => zMix s (zCvl cart wov col lef c r w cnt (nI v) (nI t))) 6 s) (zBo (zMean wov lot shd c w (nI v)))) k a)) (zCvl cart wov col lef c r w cnt (nI k) (nI j))) dX9_mixedColors_34 ?_
              refine z_lstore_n (lv' := [(3, .long (zMix (zIt (fun t s => zMix s (zCvl cart wov col lef c r w cnt (nI k) (nI t))) j (zIt (fun v s => zMix (zIt (fun t s => zMix s (zCvl cart wov col lef c r w cnt (nI v) (nI t))) 6 s) (zBo (zMean wov lot shd c w (nI v)))) k a)) (zCvl cart wov col lef c r w cnt (nI k) (nI j)))), (6, .int (nI j)), (5, .int (nI k)), (0, .ref 0), (1, .long a)]) dX9_mixedColors_37 rfl (by decide) rfl ?_
              refine z_iinc (v := nI (j + 1)) (lv' := [(6, .int (nI (j + 1))), (3, .long (zMix (zIt (fun t s => zMix s (zCvl cart wov col lef c r w cnt (nI k) (nI t))) j (zIt (fun v s => zMix (zIt (fun t s => zMix s (zCvl cart wov col lef c r w cnt (nI v) (nI t))) 6 s) (zBo (zMean wov lot shd c w (nI v)))) k a)) (zCvl cart wov col lef c r w cnt (nI k) (nI j)))), (5, .int (nI k)), (0, .ref 0), (1, .long a)]) 1 dX9_mixedColors_38 rfl (nI_1 j) (by decide) rfl ?_
              refine z_goto (tgt := 15) dX9_mixedColors_41 (by decide) ?_
              refine z_sub [0, 1, 2, 3, 4] (lv' := [(6, .int (nI (j + 1))), (3, .long (zMix (zIt (fun t s => zMix s (zCvl cart wov col lef c r w cnt (nI k) (nI t))) j (zIt (fun v s => zMix (zIt (fun t s => zMix s (zCvl cart wov col lef c r w cnt (nI v) (nI t))) 6 s) (zBo (zMean wov lot shd c w (nI v)))) k a)) (zCvl cart wov col lef c r w cnt (nI k) (nI j)))), (5, .int (nI k)), (0, .ref 0), (1, .long a)]) rfl ?_
              refine z_eqs (lv2 := [(6, .int (nI (j + 1))), (3, .long (zIt (fun t s => zMix s (zCvl cart wov col lef c r w cnt (nI k) (nI t))) (j + 1) (zIt (fun v s => zMix (zIt (fun t s => zMix s (zCvl cart wov col lef c r w cnt (nI v) (nI t))) 6 s) (zBo (zMean wov lot shd c w (nI v)))) k a))), (5, .int (nI k)), (0, .ref 0), (1, .long a)]) (h2 := (zHp (c, r, w, lim, tol, cart, wov, lot, sew, mis, cnt, col, len, lef, sbt, shd) X Y out)) (by rfl) (by rfl) ?_
              exact ih15 (j + 1) (by omega) (by omega)
        refine z_sub [0, 2, 1, 3, 4] (lv' := [(6, .int 0), (3, .long (zIt (fun v s => zMix (zIt (fun t s => zMix s (zCvl cart wov col lef c r w cnt (nI v) (nI t))) 6 s) (zBo (zMean wov lot shd c w (nI v)))) k a)), (5, .int (nI k)), (0, .ref 0), (1, .long a)]) rfl ?_
        refine z_eqs (lv2 := [(6, .int (nI 0)), (3, .long (zIt (fun t s => zMix s (zCvl cart wov col lef c r w cnt (nI k) (nI t))) 0 (zIt (fun v s => zMix (zIt (fun t s => zMix s (zCvl cart wov col lef c r w cnt (nI v) (nI t))) 6 s) (zBo (zMean wov lot shd c w (nI v)))) k a))), (5, .int (nI k)), (0, .ref 0), (1, .long a)]) (h2 := (zHp (c, r, w, lim, tol, cart, wov, lot, sew, mis, cnt, col, len, lef, sbt, shd) X Y out)) (by rfl) (by rfl) ?_
        exact L15_2 (6 + 1) 0 (Nat.zero_le _) (by omega)
  refine z_sub [0, 1, 2, 3] (lv' := [(5, .int 0), (3, .long a), (0, .ref 0), (1, .long a)]) rfl ?_
  refine z_eqs (lv2 := [(5, .int (nI 0)), (3, .long (zIt (fun v s => zMix (zIt (fun t s => zMix s (zCvl cart wov col lef c r w cnt (nI v) (nI t))) 6 s) (zBo (zMean wov lot shd c w (nI v)))) 0 a)), (0, .ref 0), (1, .long a)]) (h2 := (zHp (c, r, w, lim, tol, cart, wov, lot, sew, mis, cnt, col, len, lef, sbt, shd) X Y out)) (by rfl) (by rfl) ?_
  exact L5_1 (8 + 1) 0 (Nat.zero_le _) (by omega)

def zMsl (wov sew : Nat → Int32) (c w lim : Nat) (a : Int64) : Int64 := zIt (fun b s => zIt (fun y s => if lim < zRl wov c w (nI b) y then zIt (fun t s => zMix s (zSlv wov sew c w (nI b) y (nI t))) 4 s else s) w s) c a

set_option maxHeartbeats 4000000 in
set_option maxRecDepth 100000 in
theorem c_mSlits {G : zT} {c r w lim cnt : Nat} {tol : Int32} {cart wov lot sew mis col len lef sbt : Nat → Int32} {shd : Nat → UInt32} {X : zXr} {Y : zYr} {out : Nat → Int64} (hG : zAl G = false) (hc : c ≤ 20) (hr : r ≤ 16) (hw : w ≤ r) (hn : cnt ≤ 16) (hl : lim ≤ 16) (a : Int64) : zRun G mX9_mixedSlits 0 0 [.ref 0, .long a] (zHp (c, r, w, lim, tol, cart, wov, lot, sew, mis, cnt, col, len, lef, sbt, shd) X Y out) (.inr (some (.long (zMsl wov sew c w lim a)))) (zHp (c, r, w, lim, tol, cart, wov, lot, sew, mis, cnt, col, len, lef, sbt, shd) X Y out) := by
  refine zRun_of (by decide +kernel) rfl rfl (Nat.le_of_ble_eq_true rfl) ?_
  suffices hs : ∀ (o9 : zO) (h9 : zH), (Sum.inr (some (.long (zMsl wov sew c w lim a))) : zO) = o9 → (zHp (c, r, w, lim, tol, cart, wov, lot, sew, mis, cnt, col, len, lef, sbt, shd) X Y out) = h9 → zPW G mX9_mixedSlits 0 0 o9 h9 0 0 0 [(0, .ref 0), (1, .long a)] [] (zHp (c, r, w, lim, tol, cart, wov, lot, sew, mis, cnt, col, len, lef, sbt, shd) X Y out) from hs _ _ rfl rfl
  intro o9 h9 ho9 hh9
  refine z_lload_n 1 dX9_mixedSlits_0 rfl rfl ?_
  refine z_lstore_n (lv' := [(3, .long a), (0, .ref 0), (1, .long a)]) dX9_mixedSlits_1 rfl (by decide) rfl ?_
  refine z_iconst (v := 0) dX9_mixedSlits_2 (by decide) ?_
  refine z_istore (lv' := [(5, .int 0), (3, .long a), (0, .ref 0), (1, .long a)]) dX9_mixedSlits_3 (by decide) rfl ?_
  have L5_1 : ∀ (d k : Nat), k ≤ c → c + 1 ≤ k + d → zPW G mX9_mixedSlits 0 0 o9 h9 0 0 5 [(5, .int (nI k)), (3, .long (zIt (fun b s => zIt (fun y s => if lim < zRl wov c w (nI b) y then zIt (fun t s => zMix s (zSlv wov sew c w (nI b) y (nI t))) 4 s else s) w s) k a)), (0, .ref 0), (1, .long a)] [] (zHp (c, r, w, lim, tol, cart, wov, lot, sew, mis, cnt, col, len, lef, sbt, shd) X Y out) := by
    intro d
    induction d with
    | zero => intro k hk hd; exact absurd hd (by omega)
    | succ d ih =>
      intro k hk_k hd_k
      have ih5 := ih
      clear ih
      refine z_iload 0 dX9_mixedSlits_5 rfl ?_
      refine z_aload_n 2 dX9_mixedSlits_7 rfl rfl ?_
      refine z_get (v := .ref 1) 0 zgo_0 rfl inX9 (by decide) zw_230 rfl rfl dX9_mixedSlits_8 ?_
      refine z_getN (v := .int (nI c)) 0 zgo_1 rfl inX4 (by decide) (by decide) rfl rfl dX9_mixedSlits_11 ?_
      refine z_icmp_ge (tgt := 98) dX9_mixedSlits_14 (by decide) (fun c_14 => ?_) (fun c_14 => ?_)
      · skip
        have hx_k := zge (by omega) hk_k c_14
        refine z_lload_n 1 dX9_mixedSlits_98 rfl rfl ?_
        exact z_lret rfl dX9_mixedSlits_99 (zo_l ho9 (by rw [zMsl, hx_k])) (zo_h hh9 (by rfl)) (Nat.zero_le _) (Nat.zero_le _)
      · skip
        have hx_k := zlt' (by omega) hk_k c_14
        refine z_iconst (v := 0) dX9_mixedSlits_17 (by decide) ?_
        refine z_istore (lv' := [(6, .int 0), (5, .int (nI k)), (3, .long (zIt (fun b s => zIt (fun y s => if lim < zRl wov c w (nI b) y then zIt (fun t s => zMix s (zSlv wov sew c w (nI b) y (nI t))) 4 s else s) w s) k a)), (0, .ref 0), (1, .long a)]) dX9_mixedSlits_18 (by decide) rfl ?_
        have L20_2 : ∀ (d j : Nat), j ≤ w → w + 1 ≤ j + d → zPW G mX9_mixedSlits 0 0 o9 h9 0 0 20 [(6, .int (nI j)), (3, .long (zIt (fun y s => if lim < zRl wov c w (nI k) y then zIt (fun t s => zMix s (zSlv wov sew c w (nI k) y (nI t))) 4 s else s) j (zIt (fun b s => zIt (fun y s => if lim < zRl wov c w (nI b) y then zIt (fun t s => zMix s (zSlv wov sew c w (nI b) y (nI t))) 4 s else s) w s) k a))), (5, .int (nI k)), (0, .ref 0), (1, .long a)] [] (zHp (c, r, w, lim, tol, cart, wov, lot, sew, mis, cnt, col, len, lef, sbt, shd) X Y out) := by
          intro d
          induction d with
          | zero => intro j hk hd; exact absurd hd (by omega)
          | succ d ih =>
            intro j hk_j hd_j
            have ih20 := ih
            clear ih
            refine z_iload 0 dX9_mixedSlits_20 rfl ?_
            refine z_aload_n 3 dX9_mixedSlits_22 rfl rfl ?_
            refine z_get (v := .ref 1) 0 zgo_0 rfl inX9 (by decide) zw_230 rfl rfl dX9_mixedSlits_23 ?_
            refine z_getN (v := .int (nI w)) 2 zgo_1 rfl inX4 (by decide) (by decide) rfl rfl dX9_mixedSlits_26 ?_
            refine z_icmp_ge (tgt := 92) dX9_mixedSlits_29 (by decide) (fun c_29 => ?_) (fun c_29 => ?_)
            · skip
              have hx_j := zge (by omega) hk_j c_29
              refine z_iinc (v := nI (k + 1)) (lv' := [(5, .int (nI (k + 1))), (6, .int (nI j)), (3, .long (zIt (fun y s => if lim < zRl wov c w (nI k) y then zIt (fun t s => zMix s (zSlv wov sew c w (nI k) y (nI t))) 4 s else s) j (zIt (fun b s => zIt (fun y s => if lim < zRl wov c w (nI b) y then zIt (fun t s => zMix s (zSlv wov sew c w (nI b) y (nI t))) 4 s else s) w s) k a))), (0, .ref 0), (1, .long a)]) 2 dX9_mixedSlits_92 rfl (nI_1 k) (by decide) rfl ?_
              refine z_goto (tgt := 5) dX9_mixedSlits_95 (by decide) ?_
              refine z_sub [0, 2, 3, 4] (lv' := [(5, .int (nI (k + 1))), (3, .long (zIt (fun y s => if lim < zRl wov c w (nI k) y then zIt (fun t s => zMix s (zSlv wov sew c w (nI k) y (nI t))) 4 s else s) j (zIt (fun b s => zIt (fun y s => if lim < zRl wov c w (nI b) y then zIt (fun t s => zMix s (zSlv wov sew c w (nI b) y (nI t))) 4 s else s) w s) k a))), (0, .ref 0), (1, .long a)]) rfl ?_
              refine z_eqs (lv2 := [(5, .int (nI (k + 1))), (3, .long (zIt (fun b s => zIt (fun y s => if lim < zRl wov c w (nI b) y then zIt (fun t s => zMix s (zSlv wov sew c w (nI b) y (nI t))) 4 s else s) w s) (k + 1) a)), (0, .ref 0), (1, .long a)]) (h2 := (zHp (c, r, w, lim, tol, cart, wov, lot, sew, mis, cnt, col, len, lef, sbt, shd) X Y out)) (by rw [hx_j]; rfl) (by rfl) ?_
              exact ih5 (k + 1) (by omega) (by omega)
            · skip
              have hx_j := zlt' (by omega) hk_j c_29
              refine z_aload_n 3 dX9_mixedSlits_32 rfl rfl ?_
              refine z_get (v := .ref 1) 0 zgo_0 rfl inX9 (by decide) zw_230 rfl rfl dX9_mixedSlits_33 ?_
              refine z_iload 2 dX9_mixedSlits_36 rfl ?_
              refine z_iload 0 dX9_mixedSlits_38 rfl ?_
              refine z_callV (N := mX4_slitRows) 2 [.int (nI k), .int (nI j)] [] lX4_slitRows ⟨zw_466, zw_281, zw_282⟩ rfl zgo_1 rfl rfl (Nat.le_of_ble_eq_true rfl) (by decide) ⟨zlt, zlt⟩ ⟨Nat.zero_le _, Nat.zero_le _⟩ (fun _ => rfl) (c_slitRows hG hc hr hw hn (nI k) j (by omega)) dX9_mixedSlits_40 ?_
              refine z_aload_n 3 dX9_mixedSlits_43 rfl rfl ?_
              refine z_get (v := .ref 1) 0 zgo_0 rfl inX9 (by decide) zw_230 rfl rfl dX9_mixedSlits_44 ?_
              refine z_getN (v := .int (nI lim)) 3 zgo_1 rfl inX4 (by decide) (by decide) rfl rfl dX9_mixedSlits_47 ?_
              refine z_icmp_le (tgt := 86) dX9_mixedSlits_50 (by decide) (fun c_50 => ?_) (fun c_50 => ?_)
              · skip
                have hlr : ¬ lim < zRl wov c w (nI k) j := Nat.not_lt.mpr ((nI_leI (Nat.lt_of_le_of_lt zRl_le (by omega)) (by omega)).mp c_50)
                refine z_iinc (v := nI (j + 1)) (lv' := [(6, .int (nI (j + 1))), (3, .long (zIt (fun y s => if lim < zRl wov c w (nI k) y then zIt (fun t s => zMix s (zSlv wov sew c w (nI k) y (nI t))) 4 s else s) j (zIt (fun b s => zIt (fun y s => if lim < zRl wov c w (nI b) y then zIt (fun t s => zMix s (zSlv wov sew c w (nI b) y (nI t))) 4 s else s) w s) k a))), (5, .int (nI k)), (0, .ref 0), (1, .long a)]) 0 dX9_mixedSlits_86 rfl (nI_1 j) (by decide) rfl ?_
                refine z_goto (tgt := 20) dX9_mixedSlits_89 (by decide) ?_
                refine z_sub [0, 1, 2, 3, 4] (lv' := [(6, .int (nI (j + 1))), (3, .long (zIt (fun y s => if lim < zRl wov c w (nI k) y then zIt (fun t s => zMix s (zSlv wov sew c w (nI k) y (nI t))) 4 s else s) j (zIt (fun b s => zIt (fun y s => if lim < zRl wov c w (nI b) y then zIt (fun t s => zMix s (zSlv wov sew c w (nI b) y (nI t))) 4 s else s) w s) k a))), (5, .int (nI k)), (0, .ref 0), (1, .long a)]) rfl ?_
                refine z_eqs (lv2 := [(6, .int (nI (j + 1))), (3, .long (zIt (fun y s => if lim < zRl wov c w (nI k) y then zIt (fun t s => zMix s (zSlv wov sew c w (nI k) y (nI t))) 4 s else s) (j + 1) (zIt (fun b s => zIt (fun y s => if lim < zRl wov c w (nI b) y then zIt (fun t s => zMix s (zSlv wov sew c w (nI b) y (nI t))) 4 s else s) w s) k a))), (5, .int (nI k)), (0, .ref 0), (1, .long a)]) (h2 := (zHp (c, r, w, lim, tol, cart, wov, lot, sew, mis, cnt, col, len, lef, sbt, shd) X Y out)) (by first | (rw [show zIt (fun y s => if lim < zRl wov c w (nI k) y then zIt (fun t s => zMix s (zSlv wov sew c w (nI k) y (nI t))) 4 s else s) (j + 1) (zIt (fun b s => zIt (fun y s => if lim < zRl wov c w (nI b) y then zIt (fun t s => zMix s (zSlv wov sew c w (nI b) y (nI t))) 4 s else s) w s) k a) = zIt (fun y s => if lim < zRl wov c w (nI k) y then zIt (fun t s => zMix s (zSlv wov sew c w (nI k) y (nI t))) 4 s else s) j (zIt (fun b s => zIt (fun y s => if lim < zRl wov c w (nI b) y then zIt (fun t s => zMix s (zSlv wov sew c w (nI b) y (nI t))) 4 s else s) w s) k a) from if_neg hlr]; done) | (rw [hx_i, show zIt (fun y s => if lim < zRl wov c w (nI k) y then zIt (fun t s => zMix s (zSlv wov sew c w (nI k) y (nI t))) 4 s else s) (j + 1) (zIt (fun b s => zIt (fun y s => if lim < zRl wov c w (nI b) y then zIt (fun t s => zMix s (zSlv wov sew c w (nI b) y (nI t))) 4 s else s) w s) k a) = zIt (fun t s => zMix s (zSlv wov sew c w (nI k) j (nI t))) 4 (zIt (fun y s => if lim < zRl wov c w (nI k) y then zIt (fun t s => zMix s (zSlv wov sew c w (nI k) y (nI t))) 4 s else s) j (zIt (fun b s => zIt (fun y s => if lim < zRl wov c w (nI b) y then zIt (fun t s => zMix s (zSlv wov sew c w (nI b) y (nI t))) 4 s else s) w s) k a)) from if_pos hlr])) (by rfl) ?_
                exact ih20 (j + 1) (by omega) (by omega)
              · skip
                have hlr : lim < zRl wov c w (nI k) j := Nat.lt_of_not_le fun q => c_50 ((nI_leI (Nat.lt_of_le_of_lt zRl_le (by omega)) (by omega)).mpr q)
                refine z_iconst (v := 0) dX9_mixedSlits_53 (by decide) ?_
                refine z_istore (lv' := [(7, .int 0), (6, .int (nI j)), (3, .long (zIt (fun y s => if lim < zRl wov c w (nI k) y then zIt (fun t s => zMix s (zSlv wov sew c w (nI k) y (nI t))) 4 s else s) j (zIt (fun b s => zIt (fun y s => if lim < zRl wov c w (nI b) y then zIt (fun t s => zMix s (zSlv wov sew c w (nI b) y (nI t))) 4 s else s) w s) k a))), (5, .int (nI k)), (0, .ref 0), (1, .long a)]) dX9_mixedSlits_54 (by decide) rfl ?_
                have L56_3 : ∀ (d i : Nat), i ≤ 4 → 4 + 1 ≤ i + d → zPW G mX9_mixedSlits 0 0 o9 h9 0 0 56 [(7, .int (nI i)), (3, .long (zIt (fun t s => zMix s (zSlv wov sew c w (nI k) j (nI t))) i (zIt (fun y s => if lim < zRl wov c w (nI k) y then zIt (fun t s => zMix s (zSlv wov sew c w (nI k) y (nI t))) 4 s else s) j (zIt (fun b s => zIt (fun y s => if lim < zRl wov c w (nI b) y then zIt (fun t s => zMix s (zSlv wov sew c w (nI b) y (nI t))) 4 s else s) w s) k a)))), (6, .int (nI j)), (5, .int (nI k)), (0, .ref 0), (1, .long a)] [] (zHp (c, r, w, lim, tol, cart, wov, lot, sew, mis, cnt, col, len, lef, sbt, shd) X Y out) := by
                  intro d
                  induction d with
                  | zero => intro i hk hd; exact absurd hd (by omega)
                  | succ d ih =>
                    intro i hk_i hd_i
                    have ih56 := ih
                    clear ih
                    refine z_iload 0 dX9_mixedSlits_56 rfl ?_
                    refine z_iconst (v := nI 4) dX9_mixedSlits_58 (by decide) ?_
                    refine z_icmp_ge (tgt := 86) dX9_mixedSlits_59 (by decide) (fun c_59 => ?_) (fun c_59 => ?_)
                    · skip
                      have hx_i := zge (by omega) hk_i c_59
                      refine z_iinc (v := nI (j + 1)) (lv' := [(6, .int (nI (j + 1))), (7, .int (nI i)), (3, .long (zIt (fun t s => zMix s (zSlv wov sew c w (nI k) j (nI t))) i (zIt (fun y s => if lim < zRl wov c w (nI k) y then zIt (fun t s => zMix s (zSlv wov sew c w (nI k) y (nI t))) 4 s else s) j (zIt (fun b s => zIt (fun y s => if lim < zRl wov c w (nI b) y then zIt (fun t s => zMix s (zSlv wov sew c w (nI b) y (nI t))) 4 s else s) w s) k a)))), (5, .int (nI k)), (0, .ref 0), (1, .long a)]) 2 dX9_mixedSlits_86 rfl (nI_1 j) (by decide) rfl ?_
                      refine z_goto (tgt := 20) dX9_mixedSlits_89 (by decide) ?_
                      refine z_sub [0, 2, 3, 4, 5] (lv' := [(6, .int (nI (j + 1))), (3, .long (zIt (fun t s => zMix s (zSlv wov sew c w (nI k) j (nI t))) i (zIt (fun y s => if lim < zRl wov c w (nI k) y then zIt (fun t s => zMix s (zSlv wov sew c w (nI k) y (nI t))) 4 s else s) j (zIt (fun b s => zIt (fun y s => if lim < zRl wov c w (nI b) y then zIt (fun t s => zMix s (zSlv wov sew c w (nI b) y (nI t))) 4 s else s) w s) k a)))), (5, .int (nI k)), (0, .ref 0), (1, .long a)]) rfl ?_
                      refine z_eqs (lv2 := [(6, .int (nI (j + 1))), (3, .long (zIt (fun y s => if lim < zRl wov c w (nI k) y then zIt (fun t s => zMix s (zSlv wov sew c w (nI k) y (nI t))) 4 s else s) (j + 1) (zIt (fun b s => zIt (fun y s => if lim < zRl wov c w (nI b) y then zIt (fun t s => zMix s (zSlv wov sew c w (nI b) y (nI t))) 4 s else s) w s) k a))), (5, .int (nI k)), (0, .ref 0), (1, .long a)]) (h2 := (zHp (c, r, w, lim, tol, cart, wov, lot, sew, mis, cnt, col, len, lef, sbt, shd) X Y out)) (by first | (rw [show zIt (fun y s => if lim < zRl wov c w (nI k) y then zIt (fun t s => zMix s (zSlv wov sew c w (nI k) y (nI t))) 4 s else s) (j + 1) (zIt (fun b s => zIt (fun y s => if lim < zRl wov c w (nI b) y then zIt (fun t s => zMix s (zSlv wov sew c w (nI b) y (nI t))) 4 s else s) w s) k a) = zIt (fun y s => if lim < zRl wov c w (nI k) y then zIt (fun t s => zMix s (zSlv wov sew c w (nI k) y (nI t))) 4 s else s) j (zIt (fun b s => zIt (fun y s => if lim < zRl wov c w (nI b) y then zIt (fun t s => zMix s (zSlv wov sew c w (nI b) y (nI t))) 4 s else s) w s) k a) from if_neg hlr]; done) | (rw [hx_i, show zIt (fun y s => if lim < zRl wov c w (nI k) y then zIt (fun t s => zMix s (zSlv wov sew c w (nI k) y (nI t))) 4 s else s) (j + 1) (zIt (fun b s => zIt (fun y s => if lim < zRl wov c w (nI b) y then zIt (fun t s => zMix s (zSlv wov sew c w (nI b) y (nI t))) 4 s else s) w s) k a) = zIt (fun t s => zMix s (zSlv wov sew c w (nI k) j (nI t))) 4 (zIt (fun y s => if lim < zRl wov c w (nI k) y then zIt (fun t s => zMix s (zSlv wov sew c w (nI k) y (nI t))) 4 s else s) j (zIt (fun b s => zIt (fun y s => if lim < zRl wov c w (nI b) y then zIt (fun t s => zMix s (zSlv wov sew c w (nI b) y (nI t))) 4 s else s) w s) k a)) from if_pos hlr])) (by rfl) ?_
                      exact ih20 (j + 1) (by omega) (by omega)
                    · skip
                      have hx_i := zlt' (by omega) hk_i c_59
                      refine z_lload_n 1 dX9_mixedSlits_62 rfl rfl ?_
                      refine z_aload_n 4 dX9_mixedSlits_63 rfl rfl ?_
                      refine z_get (v := .ref 1) 0 zgo_0 rfl inX9 (by decide) zw_230 rfl rfl dX9_mixedSlits_64 ?_
                      refine z_iload 3 dX9_mixedSlits_67 rfl ?_
                      refine z_iload 2 dX9_mixedSlits_69 rfl ?_
                      refine z_iload 0 dX9_mixedSlits_71 rfl ?_
                      refine z_callV (N := mX4_slitValue) 3 [.int (nI k), .int (nI j), .int (nI i)] [.long (zIt (fun t s => zMix s (zSlv wov sew c w (nI k) j (nI t))) i (zIt (fun y s => if lim < zRl wov c w (nI k) y then zIt (fun t s => zMix s (zSlv wov sew c w (nI k) y (nI t))) 4 s else s) j (zIt (fun b s => zIt (fun y s => if lim < zRl wov c w (nI b) y then zIt (fun t s => zMix s (zSlv wov sew c w (nI b) y (nI t))) 4 s else s) w s) k a)))] lX4_slitValue ⟨zw_467, zw_468, zw_469⟩ rfl zgo_1 rfl rfl (Nat.le_of_ble_eq_true rfl) (by decide) ⟨zlt, zlt⟩ ⟨Nat.zero_le _, Nat.zero_le _⟩ (fun _ => rfl) (c_slitValue hG hc hr hw hn (nI k) (nI i) j (by omega)) dX9_mixedSlits_73 ?_
                      refine z_callS (N := mX9_mixed) 2 [.long (zIt (fun t s => zMix s (zSlv wov sew c w (nI k) j (nI t))) i (zIt (fun y s => if lim < zRl wov c w (nI k) y then zIt (fun t s => zMix s (zSlv wov sew c w (nI k) y (nI t))) 4 s else s) j (zIt (fun b s => zIt (fun y s => if lim < zRl wov c w (nI b) y then zIt (fun t s => zMix s (zSlv wov sew c w (nI b) y (nI t))) 4 s else s) w s) k a))), .int (zSlv wov sew c w (nI k) j (nI i))] [] lX9_mixed ⟨zw_248, zw_249⟩ rfl rfl rfl (Nat.le_of_ble_eq_true rfl) (by decide) ⟨zlt, zlt⟩ hG ⟨Nat.zero_le _, Nat.zero_le _⟩ (c_mixed hG zlt (zIt (fun t s => zMix s (zSlv wov sew c w (nI k) j (nI t))) i (zIt (fun y s => if lim < zRl wov c w (nI k) y then zIt (fun t s => zMix s (zSlv wov sew c w (nI k) y (nI t))) 4 s else s) j (zIt (fun b s => zIt (fun y s => if lim < zRl wov c w (nI b) y then zIt (fun t s => zMix s (zSlv wov sew c w (nI b) y (nI t))) 4 s else s) w s) k a))) (zSlv wov sew c w (nI k) j (nI i))) dX9_mixedSlits_76 ?_
                      refine z_lstore_n (lv' := [(3, .long (zMix (zIt (fun t s => zMix s (zSlv wov sew c w (nI k) j (nI t))) i (zIt (fun y s => if lim < zRl wov c w (nI k) y then zIt (fun t s => zMix s (zSlv wov sew c w (nI k) y (nI t))) 4 s else s) j (zIt (fun b s => zIt (fun y s => if lim < zRl wov c w (nI b) y then zIt (fun t s => zMix s (zSlv wov sew c w (nI b) y (nI t))) 4 s else s) w s) k a))) (zSlv wov sew c w (nI k) j (nI i)))), (7, .int (nI i)), (6, .int (nI j)), (5, .int (nI k)), (0, .ref 0), (1, .long a)]) dX9_mixedSlits_79 rfl (by decide) rfl ?_
                      refine z_iinc (v := nI (i + 1)) (lv' := [(7, .int (nI (i + 1))), (3, .long (zMix (zIt (fun t s => zMix s (zSlv wov sew c w (nI k) j (nI t))) i (zIt (fun y s => if lim < zRl wov c w (nI k) y then zIt (fun t s => zMix s (zSlv wov sew c w (nI k) y (nI t))) 4 s else s) j (zIt (fun b s => zIt (fun y s => if lim < zRl wov c w (nI b) y then zIt (fun t s => zMix s (zSlv wov sew c w (nI b) y (nI t))) 4 s else s) w s) k a))) (zSlv wov sew c w (nI k) j (nI i)))), (6, .int (nI j)), (5, .int (nI k)), (0, .ref 0), (1, .long a)]) 1 dX9_mixedSlits_80 rfl (nI_1 i) (by decide) rfl ?_
                      refine z_goto (tgt := 56) dX9_mixedSlits_83 (by decide) ?_
                      refine z_sub [0, 1, 2, 3, 4, 5] (lv' := [(7, .int (nI (i + 1))), (3, .long (zMix (zIt (fun t s => zMix s (zSlv wov sew c w (nI k) j (nI t))) i (zIt (fun y s => if lim < zRl wov c w (nI k) y then zIt (fun t s => zMix s (zSlv wov sew c w (nI k) y (nI t))) 4 s else s) j (zIt (fun b s => zIt (fun y s => if lim < zRl wov c w (nI b) y then zIt (fun t s => zMix s (zSlv wov sew c w (nI b) y (nI t))) 4 s else s) w s) k a))) (zSlv wov sew c w (nI k) j (nI i)))), (6, .int (nI j)), (5, .int (nI k)), (0, .ref 0), (1, .long a)]) rfl ?_
                      refine z_eqs (lv2 := [(7, .int (nI (i + 1))), (3, .long (zIt (fun t s => zMix s (zSlv wov sew c w (nI k) j (nI t))) (i + 1) (zIt (fun y s => if lim < zRl wov c w (nI k) y then zIt (fun t s => zMix s (zSlv wov sew c w (nI k) y (nI t))) 4 s else s) j (zIt (fun b s => zIt (fun y s => if lim < zRl wov c w (nI b) y then zIt (fun t s => zMix s (zSlv wov sew c w (nI b) y (nI t))) 4 s else s) w s) k a)))), (6, .int (nI j)), (5, .int (nI k)), (0, .ref 0), (1, .long a)]) (h2 := (zHp (c, r, w, lim, tol, cart, wov, lot, sew, mis, cnt, col, len, lef, sbt, shd) X Y out)) (by rfl) (by rfl) ?_
                      exact ih56 (i + 1) (by omega) (by omega)
                refine z_sub [0, 2, 1, 3, 4, 5] (lv' := [(7, .int 0), (3, .long (zIt (fun y s => if lim < zRl wov c w (nI k) y then zIt (fun t s => zMix s (zSlv wov sew c w (nI k) y (nI t))) 4 s else s) j (zIt (fun b s => zIt (fun y s => if lim < zRl wov c w (nI b) y then zIt (fun t s => zMix s (zSlv wov sew c w (nI b) y (nI t))) 4 s else s) w s) k a))), (6, .int (nI j)), (5, .int (nI k)), (0, .ref 0), (1, .long a)]) rfl ?_
                refine z_eqs (lv2 := [(7, .int (nI 0)), (3, .long (zIt (fun t s => zMix s (zSlv wov sew c w (nI k) j (nI t))) 0 (zIt (fun y s => if lim < zRl wov c w (nI k) y then zIt (fun t s => zMix s (zSlv wov sew c w (nI k) y (nI t))) 4 s else s) j (zIt (fun b s => zIt (fun y s => if lim < zRl wov c w (nI b) y then zIt (fun t s => zMix s (zSlv wov sew c w (nI b) y (nI t))) 4 s else s) w s) k a)))), (6, .int (nI j)), (5, .int (nI k)), (0, .ref 0), (1, .long a)]) (h2 := (zHp (c, r, w, lim, tol, cart, wov, lot, sew, mis, cnt, col, len, lef, sbt, shd) X Y out)) (by rfl) (by rfl) ?_
                exact L56_3 (4 + 1) 0 (Nat.zero_le _) (by omega)
        refine z_sub [0, 2, 1, 3, 4] (lv' := [(6, .int 0), (3, .long (zIt (fun b s => zIt (fun y s => if lim < zRl wov c w (nI b) y then zIt (fun t s => zMix s (zSlv wov sew c w (nI b) y (nI t))) 4 s else s) w s) k a)), (5, .int (nI k)), (0, .ref 0), (1, .long a)]) rfl ?_
        refine z_eqs (lv2 := [(6, .int (nI 0)), (3, .long (zIt (fun y s => if lim < zRl wov c w (nI k) y then zIt (fun t s => zMix s (zSlv wov sew c w (nI k) y (nI t))) 4 s else s) 0 (zIt (fun b s => zIt (fun y s => if lim < zRl wov c w (nI b) y then zIt (fun t s => zMix s (zSlv wov sew c w (nI b) y (nI t))) 4 s else s) w s) k a))), (5, .int (nI k)), (0, .ref 0), (1, .long a)]) (h2 := (zHp (c, r, w, lim, tol, cart, wov, lot, sew, mis, cnt, col, len, lef, sbt, shd) X Y out)) (by rfl) (by rfl) ?_
        exact L20_2 (w + 1) 0 (Nat.zero_le _) (by omega)
  refine z_sub [0, 1, 2, 3] (lv' := [(5, .int 0), (3, .long a), (0, .ref 0), (1, .long a)]) rfl ?_
  refine z_eqs (lv2 := [(5, .int (nI 0)), (3, .long (zIt (fun b s => zIt (fun y s => if lim < zRl wov c w (nI b) y then zIt (fun t s => zMix s (zSlv wov sew c w (nI b) y (nI t))) 4 s else s) w s) 0 a)), (0, .ref 0), (1, .long a)]) (h2 := (zHp (c, r, w, lim, tol, cart, wov, lot, sew, mis, cnt, col, len, lef, sbt, shd) X Y out)) (by rfl) (by rfl) ?_
  exact L5_1 (c + 1) 0 (Nat.zero_le _) (by omega)

