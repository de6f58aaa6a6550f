set_option maxHeartbeats 4000000 in
set_option maxRecDepth 100000 in
theorem c_difference {G : zT} {c r w lim cnt : Nat} {tol : Int32} {cart wov lot sew mis col len lef sbt : Nat → Int32} {shd : Nat → UInt32} {X : zXr} {Y : zYr} {out : Nat → Int64} (hG : zAl G = false) (hc : c ≤ 20) (hr : r ≤ 16) (hw : w ≤ r) (hn : cnt ≤ 16) (hs : ∀ j, zFinS (shd j)) (b y b2 y2 : Int32) : zRun G mX4_difference 0 0 [.ref 1, .int b, .int y, .int b2, .int y2] (zHp (c, r, w, lim, tol, cart, wov, lot, sew, mis, cnt, col, len, lef, sbt, shd) X Y out) (.inr (some (.float (zDf (zSh shd (zAt lot b y)) (zSh shd (zAt lot b2 y2)))))) (zHp (c, r, w, lim, tol, cart, wov, lot, sew, mis, cnt, col, len, lef, sbt, shd) X Y out) := by
  refine zRun_of (by decide +kernel) rfl rfl (Nat.le_of_ble_eq_true rfl) ?_
  suffices hs : ∀ (o9 : zO) (h9 : zH), (Sum.inr (some (.float (zDf (zSh shd (zAt lot b y)) (zSh shd (zAt lot b2 y2))))) : zO) = o9 → (zHp (c, r, w, lim, tol, cart, wov, lot, sew, mis, cnt, col, len, lef, sbt, shd) X Y out) = h9 → zPW G mX4_difference 0 0 o9 h9 0 0 0 [(0, .ref 1), (1, .int b), (2, .int y), (3, .int b2), (4, .int y2)] [] (zHp (c, r, w, lim, tol, cart, wov, lot, sew, mis, cnt, col, len, lef, sbt, shd) X Y out) from hs _ _ rfl rfl
  intro o9 h9 ho9 hh9
  refine z_aload_n 0 dX4_difference_0 rfl rfl ?_
  refine z_iload_n 1 dX4_difference_1 rfl rfl ?_
  refine z_iload_n 2 dX4_difference_2 rfl rfl ?_
  refine z_callV (N := mX4_shadeAt) 2 [.int b, .int y] [] lX4_shadeAt ⟨zw_330, zw_332, zw_13⟩ rfl rfl rfl rfl (Nat.le_of_ble_eq_true rfl) (by decide) ⟨zlt, zlt⟩ ⟨Nat.zero_le _, Nat.zero_le _⟩ (fun _ => rfl) (c_shadeAt hG hc hr hw hn b y) dX4_difference_3 ?_
  refine z_aload_n 0 dX4_difference_6 rfl rfl ?_
  refine z_iload_n 3 dX4_difference_7 rfl rfl ?_
  refine z_iload 4 dX4_difference_8 rfl ?_
  refine z_callV (N := mX4_shadeAt) 2 [.int b2, .int y2] [.float (zSh shd (zAt lot b y))] lX4_shadeAt ⟨zw_330, zw_332, zw_13⟩ rfl rfl rfl rfl (Nat.le_of_ble_eq_true rfl) (by decide) ⟨zlt, zlt⟩ ⟨Nat.zero_le _, Nat.zero_le _⟩ (fun _ => rfl) (c_shadeAt hG hc hr hw hn b2 y2) dX4_difference_10 ?_
  refine z_fsub dX4_difference_13 (by exact fp_sub (zSh_ok hs _) (zSh_ok hs _)) ?_
  refine z_fstore (lv' := [(5, .float (FP.fsub (zSh shd (zAt lot b y)) (zSh shd (zAt lot b2 y2)))), (0, .ref 1), (1, .int b), (2, .int y), (3, .int b2), (4, .int y2)]) dX4_difference_14 (by decide) rfl ?_
  refine z_fload 0 dX4_difference_16 rfl ?_
  refine z_fconst0 dX4_difference_18 ?_
  refine z_fcmp dX4_difference_19 ?_
  refine z_if_ge (tgt := 29) dX4_difference_20 (by decide) (fun c_20 => ?_) (fun c_20 => ?_)
  · skip
    refine z_fload 0 dX4_difference_29 rfl ?_
    exact z_fret rfl dX4_difference_31 (zo_f ho9 (by first | (rw [zDf, if_pos (Int32.not_le.mp c_20)]; done) | (rw [zDf, if_neg (Int32.not_lt.mpr c_20)]; done))) (zo_h hh9 (by rfl)) (Nat.zero_le _) (Nat.zero_le _)
  · skip
    refine z_fload 0 dX4_difference_23 rfl ?_
    refine z_fneg dX4_difference_25 ?_
    refine z_goto (tgt := 31) dX4_difference_26 (by decide) ?_
    exact z_fret rfl dX4_difference_31 (zo_f ho9 (by first | (rw [zDf, if_pos (Int32.not_le.mp c_20)]; done) | (rw [zDf, if_neg (Int32.not_lt.mpr c_20)]; done))) (zo_h hh9 (by rfl)) (Nat.zero_le _) (Nat.zero_le _)

def zSe (wov lot : Nat → Int32) (c w : Nat) (b y b2 y2 : Int32) : Bool := (zWo wov c w b y == zWo wov c w b2 y2) && !(zAt lot b y == zAt lot b2 y2)
def zGp (wov lot : Nat → Int32) (shd : Nat → UInt32) (c w : Nat) (b y b2 y2 : Int32) : UInt32 := if zSe wov lot c w b y b2 y2 then zDf (zSh shd (zAt lot b y)) (zSh shd (zAt lot b2 y2)) else 3212836864
/-- the one float is above the other -/
def zGt (x y : UInt32) : Bool := decide (0 < Op.cmpValue (FP.fcmp x y) .l)

set_option maxHeartbeats 4000000 in
set_option maxRecDepth 100000 in
theorem c_isSeam {G : zT} {c r w lim cnt : Nat} {tol : Int32} {cart wov lot sew mis col len lef sbt : Nat → Int32} {shd : Nat → UInt32} {X : zXr} {Y : zYr} {out : Nat → Int64} (hG : zAl G = false) (hc : c ≤ 20) (hr : r ≤ 16) (hw : w ≤ r) (hn : cnt ≤ 16) (b y b2 y2 : Int32) : zRun G mX4_isSeam 0 0 [.ref 1, .int b, .int y, .int b2, .int y2] (zHp (c, r, w, lim, tol, cart, wov, lot, sew, mis, cnt, col, len, lef, sbt, shd) X Y out) (.inr (some (.int (zB (zSe wov lot c w b y b2 y2))))) (zHp (c, r, w, lim, tol, cart, wov, lot, sew, mis, cnt, col, len, lef, sbt, shd) X Y out) := by
  refine zRun_of (by decide +kernel) rfl rfl (Nat.le_of_ble_eq_true rfl) ?_
  suffices hs : ∀ (o9 : zO) (h9 : zH), (Sum.inr (some (.int (zB (zSe wov lot c w b y b2 y2)))) : zO) = o9 → (zHp (c, r, w, lim, tol, cart, wov, lot, sew, mis, cnt, col, len, lef, sbt, shd) X Y out) = h9 → zPW G mX4_isSeam 0 0 o9 h9 0 0 0 [(0, .ref 1), (1, .int b), (2, .int y), (3, .int b2), (4, .int y2)] [] (zHp (c, r, w, lim, tol, cart, wov, lot, sew, mis, cnt, col, len, lef, sbt, shd) X Y out) from hs _ _ rfl rfl
  intro o9 h9 ho9 hh9
  refine z_aload_n 0 dX4_isSeam_0 rfl rfl ?_
  refine z_iload_n 1 dX4_isSeam_1 rfl rfl ?_
  refine z_iload_n 2 dX4_isSeam_2 rfl rfl ?_
  refine z_callV (N := mX4_wovenColor) 2 [.int b, .int y] [] lX4_wovenColor ⟨zw_322, zw_324, zw_11⟩ rfl rfl rfl rfl (Nat.le_of_ble_eq_true rfl) (by decide) ⟨zlt, zlt⟩ ⟨Nat.zero_le _, Nat.zero_le _⟩ (fun _ => rfl) (c_wovenColor hG hc hr hw hn b y) dX4_isSeam_3 ?_
  refine z_aload_n 0 dX4_isSeam_6 rfl rfl ?_
  refine z_iload_n 3 dX4_isSeam_7 rfl rfl ?_
  refine z_iload 4 dX4_isSeam_8 rfl ?_
  refine z_callV (N := mX4_wovenColor) 2 [.int b2, .int y2] [.int (zWo wov c w b y)] lX4_wovenColor ⟨zw_322, zw_324, zw_11⟩ rfl rfl rfl rfl (Nat.le_of_ble_eq_true rfl) (by decide) ⟨zlt, zlt⟩ ⟨Nat.zero_le _, Nat.zero_le _⟩ (fun _ => rfl) (c_wovenColor hG hc hr hw hn b2 y2) dX4_isSeam_10 ?_
  refine z_icmp_ne (tgt := 42) dX4_isSeam_13 (by decide) (fun c_13 => ?_) (fun c_13 => ?_)
  · skip
    refine z_iconst (v := 0) dX4_isSeam_42 (by decide) ?_
    exact z_zret rfl (by rfl) dX4_isSeam_43 (zo_i ho9 (by simp [zB, zSe, *])) (zo_h hh9 (by rfl)) (Nat.zero_le _) (Nat.zero_le _)
  · skip
    refine z_aload_n 0 dX4_isSeam_16 rfl rfl ?_
    refine z_get (v := .ref 6) 7 rfl rfl inX4 (by decide) zw_142 rfl rfl dX4_isSeam_17 ?_
    refine z_iload_n 1 dX4_isSeam_20 rfl rfl ?_
    refine z_iload_n 2 dX4_isSeam_21 rfl rfl ?_
    refine z_callV (N := mX2_at) 2 [.int b, .int y] [] lX2_at ⟨zw_272, zw_273, zw_274⟩ rfl rfl rfl rfl (Nat.le_of_ble_eq_true rfl) (by decide) ⟨zlt, zlt⟩ ⟨Nat.zero_le _, Nat.zero_le _⟩ (fun _ => rfl) (c_gAt (g := 6) (v := 7) (f := lot) hG zlt rfl rfl b y) dX4_isSeam_22 ?_
    refine z_aload_n 0 dX4_isSeam_25 rfl rfl ?_
    refine z_get (v := .ref 6) 7 rfl rfl inX4 (by decide) zw_142 rfl rfl dX4_isSeam_26 ?_
    refine z_iload_n 3 dX4_isSeam_29 rfl rfl ?_
    refine z_iload 4 dX4_isSeam_30 rfl ?_
    refine z_callV (N := mX2_at) 2 [.int b2, .int y2] [.int (zAt lot b y)] lX2_at ⟨zw_272, zw_273, zw_274⟩ rfl rfl rfl rfl (Nat.le_of_ble_eq_true rfl) (by decide) ⟨zlt, zlt⟩ ⟨Nat.zero_le _, Nat.zero_le _⟩ (fun _ => rfl) (c_gAt (g := 6) (v := 7) (f := lot) hG zlt rfl rfl b2 y2) dX4_isSeam_32 ?_
    refine z_icmp_eq (tgt := 42) dX4_isSeam_35 (by decide) (fun c_35 => ?_) (fun c_35 => ?_)
    · skip
      refine z_iconst (v := 0) dX4_isSeam_42 (by decide) ?_
      exact z_zret rfl (by rfl) dX4_isSeam_43 (zo_i ho9 (by simp [zB, zSe, *])) (zo_h hh9 (by rfl)) (Nat.zero_le _) (Nat.zero_le _)
    · skip
      refine z_iconst (v := 1) dX4_isSeam_38 (by decide) ?_
      refine z_goto (tgt := 43) dX4_isSeam_39 (by decide) ?_
      exact z_zret rfl (by rfl) dX4_isSeam_43 (zo_i ho9 (by simp [zB, zSe, *])) (zo_h hh9 (by rfl)) (Nat.zero_le _) (Nat.zero_le _)

set_option maxHeartbeats 4000000 in
set_option maxRecDepth 100000 in
theorem c_gap {G : zT} {c r w lim cnt : Nat} {tol : Int32} {cart wov lot sew mis col len lef sbt : Nat → Int32} {shd : Nat → UInt32} {X : zXr} {Y : zYr} {out : Nat → Int64} (hG : zAl G = false) (hc : c ≤ 20) (hr : r ≤ 16) (hw : w ≤ r) (hn : cnt ≤ 16) (hs : ∀ j, zFinS (shd j)) (b y b2 y2 : Int32) : zRun G mX4_gap 0 0 [.ref 1, .int b, .int y, .int b2, .int y2] (zHp (c, r, w, lim, tol, cart, wov, lot, sew, mis, cnt, col, len, lef, sbt, shd) X Y out) (.inr (some (.float (zGp wov lot shd c w b y b2 y2)))) (zHp (c, r, w, lim, tol, cart, wov, lot, sew, mis, cnt, col, len, lef, sbt, shd) X Y out) := by
  refine zRun_of (by decide +kernel) rfl rfl (Nat.le_of_ble_eq_true rfl) ?_
  suffices hs : ∀ (o9 : zO) (h9 : zH), (Sum.inr (some (.float (zGp wov lot shd c w b y b2 y2))) : zO) = o9 → (zHp (c, r, w, lim, tol, cart, wov, lot, sew, mis, cnt, col, len, lef, sbt, shd) X Y out) = h9 → zPW G mX4_gap 0 0 o9 h9 0 0 0 [(0, .ref 1), (1, .int b), (2, .int y), (3, .int b2), (4, .int y2)] [] (zHp (c, r, w, lim, tol, cart, wov, lot, sew, mis, cnt, col, len, lef, sbt, shd) X Y out) from hs _ _ rfl rfl
  intro o9 h9 ho9 hh9
  refine z_aload_n 0 dX4_gap_0 rfl rfl ?_
  refine z_iload_n 1 dX4_gap_1 rfl rfl ?_
  refine z_iload_n 2 dX4_gap_2 rfl rfl ?_
  refine z_iload_n 3 dX4_gap_3 rfl rfl ?_
  refine z_iload 4 dX4_gap_4 rfl ?_
  refine z_callV (N := mX4_isSeam) 4 [.int b, .int y, .int b2, .int y2] [] lX4_isSeam ⟨zw_318, zw_320, zw_10⟩ rfl rfl rfl rfl (Nat.le_of_ble_eq_true rfl) (by decide) ⟨zlt, zlt⟩ ⟨Nat.zero_le _, Nat.zero_le _⟩ (fun _ => rfl) (c_isSeam hG hc hr hw hn b y b2 y2) dX4_gap_6 ?_
  refine z_if_eq (tgt := 24) dX4_gap_9 (by decide) (fun c_9 => ?_) (fun c_9 => ?_)
  · skip
    have b_9 := zB_0.mp c_9
    refine z_ldcf zw_309 dX4_gap_24 ?_
    exact z_fret rfl dX4_gap_26 (zo_f ho9 (by simp [zGp, *])) (zo_h hh9 (by rfl)) (Nat.zero_le _) (Nat.zero_le _)
  · skip
    have b_9 := zB_tt c_9
    refine z_aload_n 0 dX4_gap_12 rfl rfl ?_
    refine z_iload_n 1 dX4_gap_13 rfl rfl ?_
    refine z_iload_n 2 dX4_gap_14 rfl rfl ?_
    refine z_iload_n 3 dX4_gap_15 rfl rfl ?_
    refine z_iload 4 dX4_gap_16 rfl ?_
    refine z_callV (N := mX4_difference) 4 [.int b, .int y, .int b2, .int y2] [] lX4_difference ⟨zw_326, zw_328, zw_12⟩ rfl rfl rfl rfl (Nat.le_of_ble_eq_true rfl) (by decide) ⟨zlt, zlt⟩ ⟨Nat.zero_le _, Nat.zero_le _⟩ (fun _ => rfl) (c_difference hG hc hr hw hn hs b y b2 y2) dX4_gap_18 ?_
    refine z_goto (tgt := 26) dX4_gap_21 (by decide) ?_
    exact z_fret rfl dX4_gap_26 (zo_f ho9 (by simp [zGp, *])) (zo_h hh9 (by rfl)) (Nat.zero_le _) (Nat.zero_le _)

/-- the sum of the shades of a color -/
def zMs (wov lot : Nat → Int32) (shd : Nat → UInt32) (c w : Nat) (v : Int32) : UInt32 := zIt (fun y s => zIt (fun b s => if zAt wov (nI b) (nI y) = v then FP.fadd s (zSh shd (zAt lot (nI b) (nI y))) else s) c s) w FP.fconst0
def zMn (wov : Nat → Int32) (c w : Nat) (v : Int32) : Nat := zSN (fun y => zCt (fun b => zAt wov (nI b) (nI y) == v) c) w
def zMean (wov lot : Nat → Int32) (shd : Nat → UInt32) (c w : Nat) (v : Int32) : UInt32 := if zMn wov c w v = 0 then FP.fconst0 else FP.fdiv (zMs wov lot shd c w v) (FP.i2f (nI (zMn wov c w v)))
theorem zSN_le {f : Nat → Nat} {m : Nat} (h : ∀ k, f k ≤ m) : ∀ n, zSN f n ≤ n * m
  | 0 => by rw [zSN]; omega
  | n + 1 => by have h1 := zSN_le h n; have h2 := h n; rw [zSN, Nat.add_mul]; omega
theorem zMn_le (wov : Nat → Int32) (c w : Nat) (v : Int32) : zMn wov c w v ≤ w * c := zSN_le (fun _ => zCt_le _ _) _
theorem zMs_in {wov lot : Nat → Int32} {shd : Nat → UInt32} (hs : ∀ j, zFinS (shd j)) {v y : Int32} (n : Nat) {s : UInt32} (h : zPos s) : zPos (zIt (fun b s => if zAt wov (nI b) y = v then FP.fadd s (zSh shd (zAt lot (nI b) y)) else s) n s) :=
  zIt_inv (P := zPos) (fun k s h => by
    show zPos (if _ then _ else _)
    split
    · exact (fp_add h (zSh_ok hs _).pos).2
    · exact h) n s h
theorem zMs_out {wov lot : Nat → Int32} {shd : Nat → UInt32} (hs : ∀ j, zFinS (shd j)) {v : Int32} {c : Nat} (n : Nat) {s : UInt32} (h : zPos s) : zPos (zIt (fun y s => zIt (fun b s => if zAt wov (nI b) (nI y) = v then FP.fadd s (zSh shd (zAt lot (nI b) (nI y))) else s) c s) n s) :=
  zIt_inv (P := zPos) (fun k s h => zMs_in hs c h) n s h

set_option maxHeartbeats 4000000 in
set_option maxRecDepth 100000 in
theorem c_meanShade {G : zT} {c r w lim cnt : Nat} {tol : Int32} {cart wov lot sew mis col len lef sbt : Nat → Int32} {shd : Nat → UInt32} {X : zXr} {Y : zYr} {out : Nat → Int64} (hG : zAl G = false) (hc : c ≤ 20) (hr : r ≤ 16) (hw : w ≤ r) (hn : cnt ≤ 16) (hs : ∀ j, zFinS (shd j)) (v : Int32) : zRun G mX4_meanShadeOf 0 0 [.ref 1, .int v] (zHp (c, r, w, lim, tol, cart, wov, lot, sew, mis, cnt, col, len, lef, sbt, shd) X Y out) (.inr (some (.float (zMean wov lot shd c w v)))) (zHp (c, r, w, lim, tol, cart, wov, lot, sew, mis, cnt, col, len, lef, sbt, shd) X Y out) := by
  refine zRun_of (by decide +kernel) rfl rfl (Nat.le_of_ble_eq_true rfl) ?_
  suffices hs : ∀ (o9 : zO) (h9 : zH), (Sum.inr (some (.float (zMean wov lot shd c w v))) : zO) = o9 → (zHp (c, r, w, lim, tol, cart, wov, lot, sew, mis, cnt, col, len, lef, sbt, shd) X Y out) = h9 → zPW G mX4_meanShadeOf 0 0 o9 h9 0 0 0 [(0, .ref 1), (1, .int v)] [] (zHp (c, r, w, lim, tol, cart, wov, lot, sew, mis, cnt, col, len, lef, sbt, shd) X Y out) from hs _ _ rfl rfl
  intro o9 h9 ho9 hh9
  refine z_fconst0 dX4_meanShadeOf_0 ?_
  refine z_fstore_n (lv' := [(2, .float (FP.fconst0)), (0, .ref 1), (1, .int v)]) dX4_meanShadeOf_1 rfl (by decide) rfl ?_
  refine z_iconst (v := 0) dX4_meanShadeOf_2 (by decide) ?_
  refine z_istore_n (lv' := [(3, .int 0), (2, .float (FP.fconst0)), (0, .ref 1), (1, .int v)]) dX4_meanShadeOf_3 rfl (by decide) rfl ?_
  refine z_iconst (v := 0) dX4_meanShadeOf_4 (by decide) ?_
  refine z_istore (lv' := [(4, .int 0), (3, .int 0), (2, .float (FP.fconst0)), (0, .ref 1), (1, .int v)]) dX4_meanShadeOf_5 (by decide) rfl ?_
  have L7_1 : ∀ (d k : Nat), k ≤ w → w + 1 ≤ k + d → zPW G mX4_meanShadeOf 0 0 o9 h9 0 0 7 [(4, .int (nI k)), (2, .float (zIt (fun y s => zIt (fun b s => if zAt wov (nI b) (nI y) = v then FP.fadd s (zSh shd (zAt lot (nI b) (nI y))) else s) c s) k FP.fconst0)), (3, .int (nI (zSN (fun y => zCt (fun b => zAt wov (nI b) (nI y) == v) c) k))), (0, .ref 1), (1, .int v)] [] (zHp (c, r, w, lim, tol, cart, wov, lot, sew, mis, cnt, col, len, lef, sbt, shd) X Y out) := by
    intro d
    induction d with
    | zero => intro k hk hd; exact absurd hd (by omega)
    | succ d ih =>
      intro k hk_k hd_k
      have ih7 := ih
      clear ih
      refine z_iload 0 dX4_meanShadeOf_7 rfl ?_
      refine z_aload_n 3 dX4_meanShadeOf_9 rfl rfl ?_
      refine z_get (v := .int (nI w)) 2 rfl rfl inX4 (by decide) zw_134 rfl rfl dX4_meanShadeOf_10 ?_
      refine z_icmp_ge (tgt := 69) dX4_meanShadeOf_13 (by decide) (fun c_13 => ?_) (fun c_13 => ?_)
      · skip
        have hx_k := zge (by omega) hk_k c_13
        have hM : zSN (fun y => zCt (fun b => zAt wov (nI b) (nI y) == v) c) k = zMn wov c w v := by rw [hx_k]; rfl
        have hQ : zIt (fun y s => zIt (fun b s => if zAt wov (nI b) (nI y) = v then FP.fadd s (zSh shd (zAt lot (nI b) (nI y))) else s) c s) k FP.fconst0 = zMs wov lot shd c w v := by rw [hx_k]; rfl
        refine z_iload_n 2 dX4_meanShadeOf_69 rfl rfl ?_
        refine z_if_le (tgt := 80) dX4_meanShadeOf_70 (by decide) (fun c_70 => ?_) (fun c_70 => ?_)
        · skip
          refine z_fconst0 dX4_meanShadeOf_80 ?_
          exact z_fret rfl dX4_meanShadeOf_81 (zo_f ho9 (by rw [hM] at c_70; first | (rw [zMean, if_neg (fun q => c_70 (by rw [q]; decide)), hM, hQ]; done) | (rw [zMean, if_pos (Nat.eq_zero_of_not_pos fun q => nI_nle q (Nat.lt_of_le_of_lt (zMn_le wov c w v) (by have : w * c ≤ 16 * 20 := Nat.mul_le_mul (by omega) hc; omega)) c_70)]))) (zo_h hh9 (by rfl)) (Nat.zero_le _) (Nat.zero_le _)
        · skip
          refine z_fload_n 1 dX4_meanShadeOf_73 rfl rfl ?_
          refine z_iload_n 2 dX4_meanShadeOf_74 rfl rfl ?_
          refine z_i2f dX4_meanShadeOf_75 ?_
          refine z_fdiv dX4_meanShadeOf_76 (by rw [hM, hQ]; exact (fp_div (zMs_out hs _ zPos_0) (Nat.pos_of_ne_zero fun q => c_70 (by rw [hM, q]; decide)) (Nat.lt_of_le_of_lt (zMn_le wov c w v) (by have : w * c ≤ 16 * 20 := Nat.mul_le_mul (by omega) hc; omega))).1) ?_
          refine z_goto (tgt := 81) dX4_meanShadeOf_77 (by decide) ?_
          exact z_fret rfl dX4_meanShadeOf_81 (zo_f ho9 (by rw [hM] at c_70; first | (rw [zMean, if_neg (fun q => c_70 (by rw [q]; decide)), hM, hQ]; done) | (rw [zMean, if_pos (Nat.eq_zero_of_not_pos fun q => nI_nle q (Nat.lt_of_le_of_lt (zMn_le wov c w v) (by have : w * c ≤ 16 * 20 := Nat.mul_le_mul (by omega) hc; omega)) c_70)]))) (zo_h hh9 (by rfl)) (Nat.zero_le _) (Nat.zero_le _)
      · skip
        have hx_k := zlt' (by omega) hk_k c_13
        refine z_iconst (v := 0) dX4_meanShadeOf_16 (by decide) ?_
        refine z_istore (lv' := [(5, .int 0), (4, .int (nI k)), (2, .float (zIt (fun y s => zIt (fun b s => if zAt wov (nI b) (nI y) = v then FP.fadd s (zSh shd (zAt lot (nI b) (nI y))) else s) c s) k FP.fconst0)), (3, .int (nI (zSN (fun y => zCt (fun b => zAt wov (nI b) (nI y) == v) c) k))), (0, .ref 1), (1, .int v)]) dX4_meanShadeOf_17 (by decide) rfl ?_
        have L19_2 : ∀ (d j : Nat), j ≤ c → c + 1 ≤ j + d → zPW G mX4_meanShadeOf 0 0 o9 h9 0 0 19 [(5, .int (nI j)), (2, .float (zIt (fun b s => if zAt wov (nI b) (nI k) = v then FP.fadd s (zSh shd (zAt lot (nI b) (nI k))) else s) j (zIt (fun y s => zIt (fun b s => if zAt wov (nI b) (nI y) = v then FP.fadd s (zSh shd (zAt lot (nI b) (nI y))) else s) c s) k FP.fconst0))), (3, .int (nI (zSN (fun y => zCt (fun b => zAt wov (nI b) (nI y) == v) c) k + zCt (fun b => zAt wov (nI b) (nI k) == v) j))), (4, .int (nI k)), (0, .ref 1), (1, .int v)] [] (zHp (c, r, w, lim, tol, cart, wov, lot, sew, mis, cnt, col, len, lef, sbt, shd) X Y out) := by
          intro d
          induction d with
          | zero => intro j hk hd; exact absurd hd (by omega)
          | succ d ih =>
            intro j hk_j hd_j
            have ih19 := ih
            clear ih
            refine z_iload 0 dX4_meanShadeOf_19 rfl ?_
            refine z_aload_n 4 dX4_meanShadeOf_21 rfl rfl ?_
            refine z_get (v := .int (nI c)) 0 rfl rfl inX4 (by decide) zw_130 rfl rfl dX4_meanShadeOf_22 ?_
            refine z_icmp_ge (tgt := 63) dX4_meanShadeOf_25 (by decide) (fun c_25 => ?_) (fun c_25 => ?_)
            · skip
              have hx_j := zge (by omega) hk_j c_25
              refine z_iinc (v := nI (k + 1)) (lv' := [(4, .int (nI (k + 1))), (5, .int (nI j)), (2, .float (zIt (fun b s => if zAt wov (nI b) (nI k) = v then FP.fadd s (zSh shd (zAt lot (nI b) (nI k))) else s) j (zIt (fun y s => zIt (fun b s => if zAt wov (nI b) (nI y) = v then FP.fadd s (zSh shd (zAt lot (nI b) (nI y))) else s) c s) k FP.fconst0))), (3, .int (nI (zSN (fun y => zCt (fun b => zAt wov (nI b) (nI y) == v) c) k + zCt (fun b => zAt wov (nI b) (nI k) == v) j))), (0, .ref 1), (1, .int v)]) 3 dX4_meanShadeOf_63 rfl (nI_1 k) (by decide) rfl ?_
              refine z_goto (tgt := 7) dX4_meanShadeOf_66 (by decide) ?_
              refine z_sub [0, 2, 3, 4, 5] (lv' := [(4, .int (nI (k + 1))), (2, .float (zIt (fun b s => if zAt wov (nI b) (nI k) = v then FP.fadd s (zSh shd (zAt lot (nI b) (nI k))) else s) j (zIt (fun y s => zIt (fun b s => if zAt wov (nI b) (nI y) = v then FP.fadd s (zSh shd (zAt lot (nI b) (nI y))) else s) c s) k FP.fconst0))), (3, .int (nI (zSN (fun y => zCt (fun b => zAt wov (nI b) (nI y) == v) c) k + zCt (fun b => zAt wov (nI b) (nI k) == v) j))), (0, .ref 1), (1, .int v)]) rfl ?_
              refine z_eqs (lv2 := [(4, .int (nI (k + 1))), (2, .float (zIt (fun y s => zIt (fun b s => if zAt wov (nI b) (nI y) = v then FP.fadd s (zSh shd (zAt lot (nI b) (nI y))) else s) c s) (k + 1) FP.fconst0)), (3, .int (nI (zSN (fun y => zCt (fun b => zAt wov (nI b) (nI y) == v) c) (k + 1)))), (0, .ref 1), (1, .int v)]) (h2 := (zHp (c, r, w, lim, tol, cart, wov, lot, sew, mis, cnt, col, len, lef, sbt, shd) X Y out)) (by rw [hx_j]; rfl) (by rfl) ?_
              exact ih7 (k + 1) (by omega) (by omega)
            · skip
              have hx_j := zlt' (by omega) hk_j c_25
              refine z_aload_n 4 dX4_meanShadeOf_28 rfl rfl ?_
              refine z_get (v := .ref 4) 6 rfl rfl inX4 (by decide) zw_141 rfl rfl dX4_meanShadeOf_29 ?_
              refine z_iload 0 dX4_meanShadeOf_32 rfl ?_
              refine z_iload 3 dX4_meanShadeOf_34 rfl ?_
              refine z_callV (N := mX2_at) 2 [.int (nI j), .int (nI k)] [] lX2_at ⟨zw_272, zw_273, zw_274⟩ rfl rfl rfl rfl (Nat.le_of_ble_eq_true rfl) (by decide) ⟨zlt, zlt⟩ ⟨Nat.zero_le _, Nat.zero_le _⟩ (fun _ => rfl) (c_gAt (g := 4) (v := 5) (f := wov) hG zlt rfl rfl (nI j) (nI k)) dX4_meanShadeOf_36 ?_
              refine z_iload_n 5 dX4_meanShadeOf_39 rfl rfl ?_
              refine z_icmp_ne (tgt := 57) dX4_meanShadeOf_40 (by decide) (fun c_40 => ?_) (fun c_40 => ?_)
              · skip
                refine z_iinc (v := nI (j + 1)) (lv' := [(5, .int (nI (j + 1))), (2, .float (zIt (fun b s => if zAt wov (nI b) (nI k) = v then FP.fadd s (zSh shd (zAt lot (nI b) (nI k))) else s) j (zIt (fun y s => zIt (fun b s => if zAt wov (nI b) (nI y) = v then FP.fadd s (zSh shd (zAt lot (nI b) (nI y))) else s) c s) k FP.fconst0))), (3, .int (nI (zSN (fun y => zCt (fun b => zAt wov (nI b) (nI y) == v) c) k + zCt (fun b => zAt wov (nI b) (nI k) == v) j))), (4, .int (nI k)), (0, .ref 1), (1, .int v)]) 0 dX4_meanShadeOf_57 rfl (nI_1 j) (by decide) rfl ?_
                refine z_goto (tgt := 19) dX4_meanShadeOf_60 (by decide) ?_
                refine z_sub [0, 1, 2, 3, 4, 5] (lv' := [(5, .int (nI (j + 1))), (2, .float (zIt (fun b s => if zAt wov (nI b) (nI k) = v then FP.fadd s (zSh shd (zAt lot (nI b) (nI k))) else s) j (zIt (fun y s => zIt (fun b s => if zAt wov (nI b) (nI y) = v then FP.fadd s (zSh shd (zAt lot (nI b) (nI y))) else s) c s) k FP.fconst0))), (3, .int (nI (zSN (fun y => zCt (fun b => zAt wov (nI b) (nI y) == v) c) k + zCt (fun b => zAt wov (nI b) (nI k) == v) j))), (4, .int (nI k)), (0, .ref 1), (1, .int v)]) rfl ?_
                refine z_eqs (lv2 := [(5, .int (nI (j + 1))), (2, .float (zIt (fun b s => if zAt wov (nI b) (nI k) = v then FP.fadd s (zSh shd (zAt lot (nI b) (nI k))) else s) (j + 1) (zIt (fun y s => zIt (fun b s => if zAt wov (nI b) (nI y) = v then FP.fadd s (zSh shd (zAt lot (nI b) (nI y))) else s) c s) k FP.fconst0))), (3, .int (nI (zSN (fun y => zCt (fun b => zAt wov (nI b) (nI y) == v) c) k + zCt (fun b => zAt wov (nI b) (nI k) == v) (j + 1)))), (4, .int (nI k)), (0, .ref 1), (1, .int v)]) (h2 := (zHp (c, r, w, lim, tol, cart, wov, lot, sew, mis, cnt, col, len, lef, sbt, shd) X Y out)) (by first | (have q := zCt_t2 (p := (fun b => zAt wov (nI b) (nI k) == v)) (n := j) (zSN (fun y => zCt (fun b => zAt wov (nI b) (nI y) == v) c) k) (by simpa using c_40); simp only [zIt, if_pos c_40, ← q, nI_1]) | (have q := zCt_f2 (p := (fun b => zAt wov (nI b) (nI k) == v)) (n := j) (zSN (fun y => zCt (fun b => zAt wov (nI b) (nI y) == v) c) k) (by simpa using c_40); simp only [zIt, if_neg c_40, ← q, Int32.add_zero])) (by rfl) ?_
                exact ih19 (j + 1) (by omega) (by omega)
              · skip
                refine z_fload_n 1 dX4_meanShadeOf_43 rfl rfl ?_
                refine z_aload_n 4 dX4_meanShadeOf_44 rfl rfl ?_
                refine z_iload 0 dX4_meanShadeOf_45 rfl ?_
                refine z_iload 3 dX4_meanShadeOf_47 rfl ?_
                refine z_callV (N := mX4_shadeAt) 2 [.int (nI j), .int (nI k)] [.float (zIt (fun b s => if zAt wov (nI b) (nI k) = v then FP.fadd s (zSh shd (zAt lot (nI b) (nI k))) else s) j (zIt (fun y s => zIt (fun b s => if zAt wov (nI b) (nI y) = v then FP.fadd s (zSh shd (zAt lot (nI b) (nI y))) else s) c s) k FP.fconst0))] lX4_shadeAt ⟨zw_330, zw_332, zw_13⟩ rfl rfl rfl rfl (Nat.le_of_ble_eq_true rfl) (by decide) ⟨zlt, zlt⟩ ⟨Nat.zero_le _, Nat.zero_le _⟩ (fun _ => rfl) (c_shadeAt hG hc hr hw hn (nI j) (nI k)) dX4_meanShadeOf_49 ?_
                refine z_fadd dX4_meanShadeOf_52 (by exact (fp_add (zMs_in hs _ (zMs_out hs _ zPos_0)) (zSh_ok hs _).pos).1) ?_
                refine z_fstore_n (lv' := [(2, .float (FP.fadd (zIt (fun b s => if zAt wov (nI b) (nI k) = v then FP.fadd s (zSh shd (zAt lot (nI b) (nI k))) else s) j (zIt (fun y s => zIt (fun b s => if zAt wov (nI b) (nI y) = v then FP.fadd s (zSh shd (zAt lot (nI b) (nI y))) else s) c s) k FP.fconst0)) (zSh shd (zAt lot (nI j) (nI k))))), (5, .int (nI j)), (3, .int (nI (zSN (fun y => zCt (fun b => zAt wov (nI b) (nI y) == v) c) k + zCt (fun b => zAt wov (nI b) (nI k) == v) j))), (4, .int (nI k)), (0, .ref 1), (1, .int v)]) dX4_meanShadeOf_53 rfl (by decide) rfl ?_
                refine z_iinc (v := nI ((zSN (fun y => zCt (fun b => zAt wov (nI b) (nI y) == v) c) k + zCt (fun b => zAt wov (nI b) (nI k) == v) j) + 1)) (lv' := [(3, .int (nI ((zSN (fun y => zCt (fun b => zAt wov (nI b) (nI y) == v) c) k + zCt (fun b => zAt wov (nI b) (nI k) == v) j) + 1))), (2, .float (FP.fadd (zIt (fun b s => if zAt wov (nI b) (nI k) = v then FP.fadd s (zSh shd (zAt lot (nI b) (nI k))) else s) j (zIt (fun y s => zIt (fun b s => if zAt wov (nI b) (nI y) = v then FP.fadd s (zSh shd (zAt lot (nI b) (nI y))) else s) c s) k FP.fconst0)) (zSh shd (zAt lot (nI j) (nI k))))), (5, .int (nI j)), (4, .int (nI k)), (0, .ref 1), (1, .int v)]) 2 dX4_meanShadeOf_54 rfl (nI_1 (zSN (fun y => zCt (fun b => zAt wov (nI b) (nI y) == v) c) k + zCt (fun b => zAt wov (nI b) (nI k) == v) j)) (by decide) rfl ?_
                refine z_iinc (v := nI (j + 1)) (lv' := [(5, .int (nI (j + 1))), (3, .int (nI ((zSN (fun y => zCt (fun b => zAt wov (nI b) (nI y) == v) c) k + zCt (fun b => zAt wov (nI b) (nI k) == v) j) + 1))), (2, .float (FP.fadd (zIt (fun b s => if zAt wov (nI b) (nI k) = v then FP.fadd s (zSh shd (zAt lot (nI b) (nI k))) else s) j (zIt (fun y s => zIt (fun b s => if zAt wov (nI b) (nI y) = v then FP.fadd s (zSh shd (zAt lot (nI b) (nI y))) else s) c s) k FP.fconst0)) (zSh shd (zAt lot (nI j) (nI k))))), (4, .int (nI k)), (0, .ref 1), (1, .int v)]) 2 dX4_meanShadeOf_57 rfl (nI_1 j) (by decide) rfl ?_
                refine z_goto (tgt := 19) dX4_meanShadeOf_60 (by decide) ?_
                refine z_sub [0, 2, 1, 3, 4, 5] (lv' := [(5, .int (nI (j + 1))), (2, .float (FP.fadd (zIt (fun b s => if zAt wov (nI b) (nI k) = v then FP.fadd s (zSh shd (zAt lot (nI b) (nI k))) else s) j (zIt (fun y s => zIt (fun b s => if zAt wov (nI b) (nI y) = v then FP.fadd s (zSh shd (zAt lot (nI b) (nI y))) else s) c s) k FP.fconst0)) (zSh shd (zAt lot (nI j) (nI k))))), (3, .int (nI ((zSN (fun y => zCt (fun b => zAt wov (nI b) (nI y) == v) c) k + zCt (fun b => zAt wov (nI b) (nI k) == v) j) + 1))), (4, .int (nI k)), (0, .ref 1), (1, .int v)]) rfl ?_
                refine z_eqs (lv2 := [(5, .int (nI (j + 1))), (2, .float (zIt (fun b s => if zAt wov (nI b) (nI k) = v then FP.fadd s (zSh shd (zAt lot (nI b) (nI k))) else s) (j + 1) (zIt (fun y s => zIt (fun b s => if zAt wov (nI b) (nI y) = v then FP.fadd s (zSh shd (zAt lot (nI b) (nI y))) else s) c s) k FP.fconst0))), (3, .int (nI (zSN (fun y => zCt (fun b => zAt wov (nI b) (nI y) == v) c) k + zCt (fun b => zAt wov (nI b) (nI k) == v) (j + 1)))), (4, .int (nI k)), (0, .ref 1), (1, .int v)]) (h2 := (zHp (c, r, w, lim, tol, cart, wov, lot, sew, mis, cnt, col, len, lef, sbt, shd) X Y out)) (by first | (have q := zCt_t2 (p := (fun b => zAt wov (nI b) (nI k) == v)) (n := j) (zSN (fun y => zCt (fun b => zAt wov (nI b) (nI y) == v) c) k) (by simpa using c_40); simp only [zIt, if_pos c_40, ← q, nI_1]) | (have q := zCt_f2 (p := (fun b => zAt wov (nI b) (nI k) == v)) (n := j) (zSN (fun y => zCt (fun b => zAt wov (nI b) (nI y) == v) c) k) (by simpa using c_40); simp only [zIt, if_neg c_40, ← q, Int32.add_zero])) (by rfl) ?_
                exact ih19 (j + 1) (by omega) (by omega)
        refine z_sub [0, 2, 3, 1, 4, 5] (lv' := [(5, .int 0), (2, .float (zIt (fun y s => zIt (fun b s => if zAt wov (nI b) (nI y) = v then FP.fadd s (zSh shd (zAt lot (nI b) (nI y))) else s) c s) k FP.fconst0)), (3, .int (nI (zSN (fun y => zCt (fun b => zAt wov (nI b) (nI y) == v) c) k))), (4, .int (nI k)), (0, .ref 1), (1, .int v)]) rfl ?_
        refine z_eqs (lv2 := [(5, .int (nI 0)), (2, .float (zIt (fun b s => if zAt wov (nI b) (nI k) = v then FP.fadd s (zSh shd (zAt lot (nI b) (nI k))) else s) 0 (zIt (fun y s => zIt (fun b s => if zAt wov (nI b) (nI y) = v then FP.fadd s (zSh shd (zAt lot (nI b) (nI y))) else s) c s) k FP.fconst0))), (3, .int (nI (zSN (fun y => zCt (fun b => zAt wov (nI b) (nI y) == v) c) k + zCt (fun b => zAt wov (nI b) (nI k) == v) 0))), (4, .int (nI k)), (0, .ref 1), (1, .int v)]) (h2 := (zHp (c, r, w, lim, tol, cart, wov, lot, sew, mis, cnt, col, len, lef, sbt, shd) X Y out)) (by rfl) (by rfl) ?_
        exact L19_2 (c + 1) 0 (Nat.zero_le _) (by omega)
  refine z_sub [0, 2, 1, 3, 4] (lv' := [(4, .int 0), (2, .float (FP.fconst0)), (3, .int 0), (0, .ref 1), (1, .int v)]) rfl ?_
  refine z_eqs (lv2 := [(4, .int (nI 0)), (2, .float (zIt (fun y s => zIt (fun b s => if zAt wov (nI b) (nI y) = v then FP.fadd s (zSh shd (zAt lot (nI b) (nI y))) else s) c s) 0 FP.fconst0)), (3, .int (nI (zSN (fun y => zCt (fun b => zAt wov (nI b) (nI y) == v) c) 0))), (0, .ref 1), (1, .int v)]) (h2 := (zHp (c, r, w, lim, tol, cart, wov, lot, sew, mis, cnt, col, len, lef, sbt, shd) X Y out)) (by rfl) (by rfl) ?_
  exact L7_1 (w + 1) 0 (Nat.zero_le _) (by omega)

def zCsu (lot : Nat → Int32) (shd : Nat → UInt32) (n : Nat) (y : Int32) : UInt32 := zIt (fun b s => FP.fadd s (zDf (zSh shd (zAt lot (nI b) y)) (zSh shd (zAt lot (nI b + 1) y)))) n FP.fconst0
def zCon (lot : Nat → Int32) (shd : Nat → UInt32) (c : Nat) (y : Int32) : UInt32 := if c - 1 = 0 then FP.fconst0 else FP.fdiv (zCsu lot shd (c - 1) y) (FP.i2f (nI (c - 1)))
theorem zCs_ok {lot : Nat → Int32} {shd : Nat → UInt32} (hs : ∀ j, zFinS (shd j)) {y : Int32} (n : Nat) : zPos (zIt (fun b s => FP.fadd s (zDf (zSh shd (zAt lot (nI b) y)) (zSh shd (zAt lot (nI b + 1) y)))) n FP.fconst0) :=
  zIt_inv (P := zPos) (fun k s h => (fp_add h (fp_df (zSh_ok hs _) (zSh_ok hs _))).2) n _ zPos_0

set_option maxHeartbeats 4000000 in
set_option maxRecDepth 100000 in
theorem c_contrast {G : zT} {c r w lim cnt : Nat} {tol : Int32} {cart wov lot sew mis col len lef sbt : Nat → Int32} {shd : Nat → UInt32} {X : zXr} {Y : zYr} {out : Nat → Int64} (hG : zAl G = false) (hc : c ≤ 20) (hr : r ≤ 16) (hw : w ≤ r) (hn : cnt ≤ 16) (hs : ∀ j, zFinS (shd j)) (hc1 : 1 ≤ c) (y : Int32) : zRun G mX4_contrastOf 0 0 [.ref 1, .int y] (zHp (c, r, w, lim, tol, cart, wov, lot, sew, mis, cnt, col, len, lef, sbt, shd) X Y out) (.inr (some (.float (zCon lot shd c y)))) (zHp (c, r, w, lim, tol, cart, wov, lot, sew, mis, cnt, col, len, lef, sbt, shd) X Y out) := by
  refine zRun_of (by decide +kernel) rfl rfl (Nat.le_of_ble_eq_true rfl) ?_
  suffices hs : ∀ (o9 : zO) (h9 : zH), (Sum.inr (some (.float (zCon lot shd c y))) : zO) = o9 → (zHp (c, r, w, lim, tol, cart, wov, lot, sew, mis, cnt, col, len, lef, sbt, shd) X Y out) = h9 → zPW G mX4_contrastOf 0 0 o9 h9 0 0 0 [(0, .ref 1), (1, .int y)] [] (zHp (c, r, w, lim, tol, cart, wov, lot, sew, mis, cnt, col, len, lef, sbt, shd) X Y out) from hs _ _ rfl rfl
  intro o9 h9 ho9 hh9
  refine z_fconst0 dX4_contrastOf_0 ?_
  refine z_fstore_n (lv' := [(2, .float (FP.fconst0)), (0, .ref 1), (1, .int y)]) dX4_contrastOf_1 rfl (by decide) rfl ?_
  refine z_aload_n 1 dX4_contrastOf_2 rfl rfl ?_
  refine z_get (v := .int (nI c)) 0 rfl rfl inX4 (by decide) zw_130 rfl rfl dX4_contrastOf_3 ?_
  refine z_iconst (v := 1) dX4_contrastOf_6 (by decide) ?_
  refine z_isub dX4_contrastOf_7 ?_
  refine z_top (v2 := .int (nI (c - 1))) (by rw [show (1 : Int32) = nI 1 from rfl, pk_sub hc1]) ?_
  refine z_istore_n (lv' := [(3, .int (nI (c - 1))), (2, .float (FP.fconst0)), (0, .ref 1), (1, .int y)]) dX4_contrastOf_8 rfl (by decide) rfl ?_
  refine z_iconst (v := 0) dX4_contrastOf_9 (by decide) ?_
  refine z_istore (lv' := [(4, .int 0), (3, .int (nI (c - 1))), (2, .float (FP.fconst0)), (0, .ref 1), (1, .int y)]) dX4_contrastOf_10 (by decide) rfl ?_
  have L12_1 : ∀ (d k : Nat), k ≤ (c - 1) → (c - 1) + 1 ≤ k + d → zPW G mX4_contrastOf 0 0 o9 h9 0 0 12 [(4, .int (nI k)), (2, .float (zIt (fun b s => FP.fadd s (zDf (zSh shd (zAt lot (nI b) y)) (zSh shd (zAt lot (nI b + 1) y)))) k FP.fconst0)), (3, .int (nI (c - 1))), (0, .ref 1), (1, .int y)] [] (zHp (c, r, w, lim, tol, cart, wov, lot, sew, mis, cnt, col, len, lef, sbt, shd) X Y out) := by
    intro d
    induction d with
    | zero => intro k hk hd; exact absurd hd (by omega)
    | succ d ih =>
      intro k hk_k hd_k
      have ih12 := ih
      clear ih
      refine z_iload 0 dX4_contrastOf_12 rfl ?_
      refine z_iload_n 2 dX4_contrastOf_14 rfl rfl ?_
      refine z_icmp_ge (tgt := 39) dX4_contrastOf_15 (by decide) (fun c_15 => ?_) (fun c_15 => ?_)
      · skip
        have hx_k := zge (by omega) hk_k c_15
        have hx_k := zge (by omega) hk_k c_15
        refine z_iload_n 2 dX4_contrastOf_39 rfl rfl ?_
        refine z_if_le (tgt := 50) dX4_contrastOf_40 (by decide) (fun c_40 => ?_) (fun c_40 => ?_)
        · skip
          refine z_fconst0 dX4_contrastOf_50 ?_
          exact z_fret rfl dX4_contrastOf_51 (zo_f ho9 (by first | (rw [zCon, if_neg (fun q => c_40 (by rw [q]; decide)), hx_k]; rfl) | (rw [zCon, if_pos (Nat.eq_zero_of_not_pos fun q => nI_nle q (by omega) c_40)]))) (zo_h hh9 (by rfl)) (Nat.zero_le _) (Nat.zero_le _)
        · skip
          refine z_fload_n 1 dX4_contrastOf_43 rfl rfl ?_
          refine z_iload_n 2 dX4_contrastOf_44 rfl rfl ?_
          refine z_i2f dX4_contrastOf_45 ?_
          refine z_fdiv dX4_contrastOf_46 (by exact (fp_div (zCs_ok hs _) (Nat.pos_of_ne_zero fun q => c_40 (by rw [q]; decide)) (by omega)).1) ?_
          refine z_goto (tgt := 51) dX4_contrastOf_47 (by decide) ?_
          exact z_fret rfl dX4_contrastOf_51 (zo_f ho9 (by first | (rw [zCon, if_neg (fun q => c_40 (by rw [q]; decide)), hx_k]; rfl) | (rw [zCon, if_pos (Nat.eq_zero_of_not_pos fun q => nI_nle q (by omega) c_40)]))) (zo_h hh9 (by rfl)) (Nat.zero_le _) (Nat.zero_le _)
      · skip
        have hx_k := zlt' (by omega) hk_k c_15
        have hx_k := zlt' (by omega) hk_k c_15
        refine z_fload_n 1 dX4_contrastOf_18 rfl rfl ?_
        refine z_aload_n 3 dX4_contrastOf_19 rfl rfl ?_
        refine z_iload 0 dX4_contrastOf_20 rfl ?_
        refine z_iload_n 4 dX4_contrastOf_22 rfl rfl ?_
        refine z_iload 0 dX4_contrastOf_23 rfl ?_
        refine z_iconst (v := 1) dX4_contrastOf_25 (by decide) ?_
        refine z_iadd dX4_contrastOf_26 ?_
        refine z_iload_n 4 dX4_contrastOf_27 rfl rfl ?_
        refine z_callV (N := mX4_difference) 4 [.int (nI k), .int y, .int ((nI k) + 1), .int y] [.float (zIt (fun b s => FP.fadd s (zDf (zSh shd (zAt lot (nI b) y)) (zSh shd (zAt lot (nI b + 1) y)))) k FP.fconst0)] lX4_difference ⟨zw_326, zw_328, zw_12⟩ rfl rfl rfl rfl (Nat.le_of_ble_eq_true rfl) (by decide) ⟨zlt, zlt⟩ ⟨Nat.zero_le _, Nat.zero_le _⟩ (fun _ => rfl) (c_difference hG hc hr hw hn hs (nI k) y ((nI k) + 1) y) dX4_contrastOf_28 ?_
        refine z_fadd dX4_contrastOf_31 (by exact (fp_add (zCs_ok hs _) (fp_df (zSh_ok hs _) (zSh_ok hs _))).1) ?_
        refine z_fstore_n (lv' := [(2, .float (FP.fadd (zIt (fun b s => FP.fadd s (zDf (zSh shd (zAt lot (nI b) y)) (zSh shd (zAt lot (nI b + 1) y)))) k FP.fconst0) (zDf (zSh shd (zAt lot (nI k) y)) (zSh shd (zAt lot ((nI k) + 1) y))))), (4, .int (nI k)), (3, .int (nI (c - 1))), (0, .ref 1), (1, .int y)]) dX4_contrastOf_32 rfl (by decide) rfl ?_
        refine z_iinc (v := nI (k + 1)) (lv' := [(4, .int (nI (k + 1))), (2, .float (FP.fadd (zIt (fun b s => FP.fadd s (zDf (zSh shd (zAt lot (nI b) y)) (zSh shd (zAt lot (nI b + 1) y)))) k FP.fconst0) (zDf (zSh shd (zAt lot (nI k) y)) (zSh shd (zAt lot ((nI k) + 1) y))))), (3, .int (nI (c - 1))), (0, .ref 1), (1, .int y)]) 1 dX4_contrastOf_33 rfl (nI_1 k) (by decide) rfl ?_
        refine z_goto (tgt := 12) dX4_contrastOf_36 (by decide) ?_
        refine z_sub [0, 1, 2, 3, 4] (lv' := [(4, .int (nI (k + 1))), (2, .float (FP.fadd (zIt (fun b s => FP.fadd s (zDf (zSh shd (zAt lot (nI b) y)) (zSh shd (zAt lot (nI b + 1) y)))) k FP.fconst0) (zDf (zSh shd (zAt lot (nI k) y)) (zSh shd (zAt lot ((nI k) + 1) y))))), (3, .int (nI (c - 1))), (0, .ref 1), (1, .int y)]) rfl ?_
        refine z_eqs (lv2 := [(4, .int (nI (k + 1))), (2, .float (zIt (fun b s => FP.fadd s (zDf (zSh shd (zAt lot (nI b) y)) (zSh shd (zAt lot (nI b + 1) y)))) (k + 1) FP.fconst0)), (3, .int (nI (c - 1))), (0, .ref 1), (1, .int y)]) (h2 := (zHp (c, r, w, lim, tol, cart, wov, lot, sew, mis, cnt, col, len, lef, sbt, shd) X Y out)) (by rfl) (by rfl) ?_
        exact ih12 (k + 1) (by omega) (by omega)
  refine z_sub [0, 2, 1, 3, 4] (lv' := [(4, .int 0), (2, .float (FP.fconst0)), (3, .int (nI (c - 1))), (0, .ref 1), (1, .int y)]) rfl ?_
  refine z_eqs (lv2 := [(4, .int (nI 0)), (2, .float (zIt (fun b s => FP.fadd s (zDf (zSh shd (zAt lot (nI b) y)) (zSh shd (zAt lot (nI b + 1) y)))) 0 FP.fconst0)), (3, .int (nI (c - 1))), (0, .ref 1), (1, .int y)]) (h2 := (zHp (c, r, w, lim, tol, cart, wov, lot, sew, mis, cnt, col, len, lef, sbt, shd) X Y out)) (by rfl) (by rfl) ?_
  exact L12_1 ((c - 1) + 1) 0 (Nat.zero_le _) (by omega)

def zG1 (wov lot : Nat → Int32) (shd : Nat → UInt32) (c w b y : Nat) : UInt32 := zGp wov lot shd c w (nI b) (nI y) (nI b + 1) (nI y)
def zG2 (wov lot : Nat → Int32) (shd : Nat → UInt32) (c w b y : Nat) : UInt32 := zGp wov lot shd c w (nI b) (nI y) (nI b) (nI y + 1)
def zGa (wov lot : Nat → Int32) (shd : Nat → UInt32) (c w : Nat) (t : UInt32) : Nat := zSN (fun y => zSN (fun b => (if zGt (zG1 wov lot shd c w b y) t then 1 else 0) + (if zGt (zG2 wov lot shd c w b y) t then 1 else 0)) c) w
def zWg (wov lot : Nat → Int32) (shd : Nat → UInt32) (c w : Nat) : UInt32 := zIt (fun y s => zIt (fun b s => if zGt (zG2 wov lot shd c w b y) (if zGt (zG1 wov lot shd c w b y) s then zG1 wov lot shd c w b y else s) then zG2 wov lot shd c w b y else (if zGt (zG1 wov lot shd c w b y) s then zG1 wov lot shd c w b y else s)) c s) w FP.fconst0
theorem zGt_t {x y : UInt32} (h : ¬ Op.cmpValue (FP.fcmp x y) .l ≤ 0) : zGt x y = true := decide_eq_true (Int32.not_le.mp h)
theorem zGt_f {x y : UInt32} (h : Op.cmpValue (FP.fcmp x y) .l ≤ 0) : zGt x y = false := decide_eq_false (Int32.not_lt.mpr h)

theorem zGa_s {f : Nat → Nat} {n : Nat} (A : Nat) {x y : Int32} (h : x + y = nI (f n)) : nI (A + zSN f n) + x + y = nI (A + zSN f (n + 1)) := by
  rw [Int32.add_assoc, h, nI_add, Nat.add_assoc]; rfl

set_option maxHeartbeats 4000000 in
set_option maxRecDepth 100000 in
theorem c_gaps {G : zT} {c r w lim cnt : Nat} {tol : Int32} {cart wov lot sew mis col len lef sbt : Nat → Int32} {shd : Nat → UInt32} {X : zXr} {Y : zYr} {out : Nat → Int64} (hG : zAl G = false) (hc : c ≤ 20) (hr : r ≤ 16) (hw : w ≤ r) (hn : cnt ≤ 16) (hs : ∀ j, zFinS (shd j)) (t : UInt32) : zRun G mX4_gapsAbove 0 0 [.ref 1, .float t] (zHp (c, r, w, lim, tol, cart, wov, lot, sew, mis, cnt, col, len, lef, sbt, shd) X Y out) (.inr (some (.int (nI (zGa wov lot shd c w t))))) (zHp (c, r, w, lim, tol, cart, wov, lot, sew, mis, cnt, col, len, lef, sbt, shd) X Y out) := by
  refine zRun_of (by decide +kernel) rfl rfl (Nat.le_of_ble_eq_true rfl) ?_
  suffices hs : ∀ (o9 : zO) (h9 : zH), (Sum.inr (some (.int (nI (zGa wov lot shd c w t)))) : zO) = o9 → (zHp (c, r, w, lim, tol, cart, wov, lot, sew, mis, cnt, col, len, lef, sbt, shd) X Y out) = h9 → zPW G mX4_gapsAbove 0 0 o9 h9 0 0 0 [(0, .ref 1), (1, .float t)] [] (zHp (c, r, w, lim, tol, cart, wov, lot, sew, mis, cnt, col, len, lef, sbt, shd) X Y out) from hs _ _ rfl rfl
  intro o9 h9 ho9 hh9
  refine z_iconst (v := 0) dX4_gapsAbove_0 (by decide) ?_
  refine z_istore_n (lv' := [(2, .int 0), (0, .ref 1), (1, .float t)]) dX4_gapsAbove_1 rfl (by decide) rfl ?_
  refine z_iconst (v := 0) dX4_gapsAbove_2 (by decide) ?_
  refine z_istore_n (lv' := [(3, .int 0), (2, .int 0), (0, .ref 1), (1, .float t)]) dX4_gapsAbove_3 rfl (by decide) rfl ?_
  have L4_1 : ∀ (d k : Nat), k ≤ w → w + 1 ≤ k + d → zPW G mX4_gapsAbove 0 0 o9 h9 0 0 4 [(3, .int (nI k)), (2, .int (nI (zSN (fun y => zSN (fun b => (if zGt (zG1 wov lot shd c w b y) t then 1 else 0) + (if zGt (zG2 wov lot shd c w b y) t then 1 else 0)) c) k))), (0, .ref 1), (1, .float t)] [] (zHp (c, r, w, lim, tol, cart, wov, lot, sew, mis, cnt, col, len, lef, sbt, shd) X Y out) := by
    intro d
    induction d with
    | zero => intro k hk hd; exact absurd hd (by omega)
    | succ d ih =>
      intro k hk_k hd_k
      have ih4 := ih
      clear ih
      refine z_iload_n 0 dX4_gapsAbove_4 rfl rfl ?_
      refine z_aload_n 2 dX4_gapsAbove_5 rfl rfl ?_
      refine z_get (v := .int (nI w)) 2 rfl rfl inX4 (by decide) zw_134 rfl rfl dX4_gapsAbove_6 ?_
      refine z_icmp_ge (tgt := 86) dX4_gapsAbove_9 (by decide) (fun c_9 => ?_) (fun c_9 => ?_)
      · skip
        have hx_k := zge (by omega) hk_k c_9
        refine z_iload_n 1 dX4_gapsAbove_86 rfl rfl ?_
        exact z_iret rfl dX4_gapsAbove_87 (zo_i ho9 (by rw [zGa, hx_k])) (zo_h hh9 (by rfl)) (Nat.zero_le _) (Nat.zero_le _)
      · skip
        have hx_k := zlt' (by omega) hk_k c_9
        refine z_iconst (v := 0) dX4_gapsAbove_12 (by decide) ?_
        refine z_istore (lv' := [(4, .int 0), (3, .int (nI k)), (2, .int (nI (zSN (fun y => zSN (fun b => (if zGt (zG1 wov lot shd c w b y) t then 1 else 0) + (if zGt (zG2 wov lot shd c w b y) t then 1 else 0)) c) k))), (0, .ref 1), (1, .float t)]) dX4_gapsAbove_13 (by decide) rfl ?_
        have L15_2 : ∀ (d j : Nat), j ≤ c → c + 1 ≤ j + d → zPW G mX4_gapsAbove 0 0 o9 h9 0 0 15 [(4, .int (nI j)), (2, .int (nI (zSN (fun y => zSN (fun b => (if zGt (zG1 wov lot shd c w b y) t then 1 else 0) + (if zGt (zG2 wov lot shd c w b y) t then 1 else 0)) c) k + zSN (fun b => (if zGt (zG1 wov lot shd c w b k) t then 1 else 0) + (if zGt (zG2 wov lot shd c w b k) t then 1 else 0)) j))), (3, .int (nI k)), (0, .ref 1), (1, .float t)] [] (zHp (c, r, w, lim, tol, cart, wov, lot, sew, mis, cnt, col, len, lef, sbt, shd) X Y out) := by
          intro d
          induction d with
          | zero => intro j hk hd; exact absurd hd (by omega)
          | succ d ih =>
            intro j hk_j hd_j
            have ih15 := ih
            clear ih
            refine z_iload 0 dX4_gapsAbove_15 rfl ?_
            refine z_aload_n 3 dX4_gapsAbove_17 rfl rfl ?_
            refine z_get (v := .int (nI c)) 0 rfl rfl inX4 (by decide) zw_130 rfl rfl dX4_gapsAbove_18 ?_
            refine z_icmp_ge (tgt := 80) dX4_gapsAbove_21 (by decide) (fun c_21 => ?_) (fun c_21 => ?_)
            · skip
              have hx_j := zge (by omega) hk_j c_21
              refine z_iinc (v := nI (k + 1)) (lv' := [(3, .int (nI (k + 1))), (4, .int (nI j)), (2, .int (nI (zSN (fun y => zSN (fun b => (if zGt (zG1 wov lot shd c w b y) t then 1 else 0) + (if zGt (zG2 wov lot shd c w b y) t then 1 else 0)) c) k + zSN (fun b => (if zGt (zG1 wov lot shd c w b k) t then 1 else 0) + (if zGt (zG2 wov lot shd c w b k) t then 1 else 0)) j))), (0, .ref 1), (1, .float t)]) 2 dX4_gapsAbove_80 rfl (nI_1 k) (by decide) rfl ?_
              refine z_goto (tgt := 4) dX4_gapsAbove_83 (by decide) ?_
              refine z_sub [0, 2, 3, 4] (lv' := [(3, .int (nI (k + 1))), (2, .int (nI (zSN (fun y => zSN (fun b => (if zGt (zG1 wov lot shd c w b y) t then 1 else 0) + (if zGt (zG2 wov lot shd c w b y) t then 1 else 0)) c) k + zSN (fun b => (if zGt (zG1 wov lot shd c w b k) t then 1 else 0) + (if zGt (zG2 wov lot shd c w b k) t then 1 else 0)) j))), (0, .ref 1), (1, .float t)]) rfl ?_
              refine z_eqs (lv2 := [(3, .int (nI (k + 1))), (2, .int (nI (zSN (fun y => zSN (fun b => (if zGt (zG1 wov lot shd c w b y) t then 1 else 0) + (if zGt (zG2 wov lot shd c w b y) t then 1 else 0)) c) (k + 1)))), (0, .ref 1), (1, .float t)]) (h2 := (zHp (c, r, w, lim, tol, cart, wov, lot, sew, mis, cnt, col, len, lef, sbt, shd) X Y out)) (by rw [hx_j]; rfl) (by rfl) ?_
              exact ih4 (k + 1) (by omega) (by omega)
            · skip
              have hx_j := zlt' (by omega) hk_j c_21
              refine z_iload_n 1 dX4_gapsAbove_24 rfl rfl ?_
              refine z_aload_n 3 dX4_gapsAbove_25 rfl rfl ?_
              refine z_iload 0 dX4_gapsAbove_26 rfl ?_
              refine z_iload_n 2 dX4_gapsAbove_28 rfl rfl ?_
              refine z_iload 0 dX4_gapsAbove_29 rfl ?_
              refine z_iconst (v := 1) dX4_gapsAbove_31 (by decide) ?_
              refine z_iadd dX4_gapsAbove_32 ?_
              refine z_iload_n 2 dX4_gapsAbove_33 rfl rfl ?_
              refine z_callV (N := mX4_gap) 4 [.int (nI j), .int (nI k), .int ((nI j) + 1), .int (nI k)] [.int (nI (zSN (fun y => zSN (fun b => (if zGt (zG1 wov lot shd c w b y) t then 1 else 0) + (if zGt (zG2 wov lot shd c w b y) t then 1 else 0)) c) k + zSN (fun b => (if zGt (zG1 wov lot shd c w b k) t then 1 else 0) + (if zGt (zG2 wov lot shd c w b k) t then 1 else 0)) j))] lX4_gap ⟨zw_314, zw_316, zw_9⟩ rfl rfl rfl rfl (Nat.le_of_ble_eq_true rfl) (by decide) ⟨zlt, zlt⟩ ⟨Nat.zero_le _, Nat.zero_le _⟩ (fun _ => rfl) (c_gap hG hc hr hw hn hs (nI j) (nI k) ((nI j) + 1) (nI k)) dX4_gapsAbove_34 ?_
              refine z_fload_n 4 dX4_gapsAbove_37 rfl rfl ?_
              refine z_fcmp dX4_gapsAbove_38 ?_
              refine z_if_le (tgt := 46) dX4_gapsAbove_39 (by decide) (fun c_39 => ?_) (fun c_39 => ?_)
              · skip
                have g1 := zGt_f c_39
                refine z_iconst (v := 0) dX4_gapsAbove_46 (by decide) ?_
                refine z_iadd dX4_gapsAbove_47 ?_
                refine z_istore_n (lv' := [(2, .int ((nI (zSN (fun y => zSN (fun b => (if zGt (zG1 wov lot shd c w b y) t then 1 else 0) + (if zGt (zG2 wov lot shd c w b y) t then 1 else 0)) c) k + zSN (fun b => (if zGt (zG1 wov lot shd c w b k) t then 1 else 0) + (if zGt (zG2 wov lot shd c w b k) t then 1 else 0)) j)) + 0)), (4, .int (nI j)), (3, .int (nI k)), (0, .ref 1), (1, .float t)]) dX4_gapsAbove_48 rfl (by decide) rfl ?_
                refine z_iload_n 0 dX4_gapsAbove_49 rfl rfl ?_
                refine z_aload_n 3 dX4_gapsAbove_50 rfl rfl ?_
                refine z_iload 1 dX4_gapsAbove_51 rfl ?_
                refine z_iload_n 2 dX4_gapsAbove_53 rfl rfl ?_
                refine z_iload 1 dX4_gapsAbove_54 rfl ?_
                refine z_iload_n 2 dX4_gapsAbove_56 rfl rfl ?_
                refine z_iconst (v := 1) dX4_gapsAbove_57 (by decide) ?_
                refine z_iadd dX4_gapsAbove_58 ?_
                refine z_callV (N := mX4_gap) 4 [.int (nI j), .int (nI k), .int (nI j), .int ((nI k) + 1)] [.int ((nI (zSN (fun y => zSN (fun b => (if zGt (zG1 wov lot shd c w b y) t then 1 else 0) + (if zGt (zG2 wov lot shd c w b y) t then 1 else 0)) c) k + zSN (fun b => (if zGt (zG1 wov lot shd c w b k) t then 1 else 0) + (if zGt (zG2 wov lot shd c w b k) t then 1 else 0)) j)) + 0)] lX4_gap ⟨zw_314, zw_316, zw_9⟩ rfl rfl rfl rfl (Nat.le_of_ble_eq_true rfl) (by decide) ⟨zlt, zlt⟩ ⟨Nat.zero_le _, Nat.zero_le _⟩ (fun _ => rfl) (c_gap hG hc hr hw hn hs (nI j) (nI k) (nI j) ((nI k) + 1)) dX4_gapsAbove_59 ?_
                refine z_fload_n 4 dX4_gapsAbove_62 rfl rfl ?_
                refine z_fcmp dX4_gapsAbove_63 ?_
                refine z_if_le (tgt := 71) dX4_gapsAbove_64 (by decide) (fun c_64 => ?_) (fun c_64 => ?_)
                · skip
                  have g2 := zGt_f c_64
                  refine z_iconst (v := 0) dX4_gapsAbove_71 (by decide) ?_
                  refine z_iadd dX4_gapsAbove_72 ?_
                  refine z_istore_n (lv' := [(2, .int (((nI (zSN (fun y => zSN (fun b => (if zGt (zG1 wov lot shd c w b y) t then 1 else 0) + (if zGt (zG2 wov lot shd c w b y) t then 1 else 0)) c) k + zSN (fun b => (if zGt (zG1 wov lot shd c w b k) t then 1 else 0) + (if zGt (zG2 wov lot shd c w b k) t then 1 else 0)) j)) + 0) + 0)), (4, .int (nI j)), (3, .int (nI k)), (0, .ref 1), (1, .float t)]) dX4_gapsAbove_73 rfl (by decide) rfl ?_
                  refine z_iinc (v := nI (j + 1)) (lv' := [(4, .int (nI (j + 1))), (2, .int (((nI (zSN (fun y => zSN (fun b => (if zGt (zG1 wov lot shd c w b y) t then 1 else 0) + (if zGt (zG2 wov lot shd c w b y) t then 1 else 0)) c) k + zSN (fun b => (if zGt (zG1 wov lot shd c w b k) t then 1 else 0) + (if zGt (zG2 wov lot shd c w b k) t then 1 else 0)) j)) + 0) + 0)), (3, .int (nI k)), (0, .ref 1), (1, .float t)]) 1 dX4_gapsAbove_74 rfl (nI_1 j) (by decide) rfl ?_
                  refine z_goto (tgt := 15) dX4_gapsAbove_77 (by decide) ?_
                  refine z_sub [0, 1, 2, 3, 4] (lv' := [(4, .int (nI (j + 1))), (2, .int (((nI (zSN (fun y => zSN (fun b => (if zGt (zG1 wov lot shd c w b y) t then 1 else 0) + (if zGt (zG2 wov lot shd c w b y) t then 1 else 0)) c) k + zSN (fun b => (if zGt (zG1 wov lot shd c w b k) t then 1 else 0) + (if zGt (zG2 wov lot shd c w b k) t then 1 else 0)) j)) + 0) + 0)), (3, .int (nI k)), (0, .ref 1), (1, .float t)]) rfl ?_
                  refine z_eqs (lv2 := [(4, .int (nI (j + 1))), (2, .int (nI (zSN (fun y => zSN (fun b => (if zGt (zG1 wov lot shd c w b y) t then 1 else 0) + (if zGt (zG2 wov lot shd c w b y) t then 1 else 0)) c) k + zSN (fun b => (if zGt (zG1 wov lot shd c w b k) t then 1 else 0) + (if zGt (zG2 wov lot shd c w b k) t then 1 else 0)) (j + 1)))), (3, .int (nI k)), (0, .ref 1), (1, .float t)]) (h2 := (zHp (c, r, w, lim, tol, cart, wov, lot, sew, mis, cnt, col, len, lef, sbt, shd) X Y out)) (by rw [zGa_s (f := (fun b => (if zGt (zG1 wov lot shd c w b k) t then 1 else 0) + (if zGt (zG2 wov lot shd c w b k) t then 1 else 0))) _ (by first | (show _ = nI ((if _ then 1 else 0) + (if _ then 1 else 0)); simp only [zG1, zG2, *]; decide))]) (by rfl) ?_
                  exact ih15 (j + 1) (by omega) (by omega)
                · skip
                  have g2 := zGt_t c_64
                  refine z_iconst (v := 1) dX4_gapsAbove_67 (by decide) ?_
                  refine z_goto (tgt := 72) dX4_gapsAbove_68 (by decide) ?_
                  refine z_iadd dX4_gapsAbove_72 ?_
                  refine z_istore_n (lv' := [(2, .int (((nI (zSN (fun y => zSN (fun b => (if zGt (zG1 wov lot shd c w b y) t then 1 else 0) + (if zGt (zG2 wov lot shd c w b y) t then 1 else 0)) c) k + zSN (fun b => (if zGt (zG1 wov lot shd c w b k) t then 1 else 0) + (if zGt (zG2 wov lot shd c w b k) t then 1 else 0)) j)) + 0) + 1)), (4, .int (nI j)), (3, .int (nI k)), (0, .ref 1), (1, .float t)]) dX4_gapsAbove_73 rfl (by decide) rfl ?_
                  refine z_iinc (v := nI (j + 1)) (lv' := [(4, .int (nI (j + 1))), (2, .int (((nI (zSN (fun y => zSN (fun b => (if zGt (zG1 wov lot shd c w b y) t then 1 else 0) + (if zGt (zG2 wov lot shd c w b y) t then 1 else 0)) c) k + zSN (fun b => (if zGt (zG1 wov lot shd c w b k) t then 1 else 0) + (if zGt (zG2 wov lot shd c w b k) t then 1 else 0)) j)) + 0) + 1)), (3, .int (nI k)), (0, .ref 1), (1, .float t)]) 1 dX4_gapsAbove_74 rfl (nI_1 j) (by decide) rfl ?_
                  refine z_goto (tgt := 15) dX4_gapsAbove_77 (by decide) ?_
                  refine z_sub [0, 1, 2, 3, 4] (lv' := [(4, .int (nI (j + 1))), (2, .int (((nI (zSN (fun y => zSN (fun b => (if zGt (zG1 wov lot shd c w b y) t then 1 else 0) + (if zGt (zG2 wov lot shd c w b y) t then 1 else 0)) c) k + zSN (fun b => (if zGt (zG1 wov lot shd c w b k) t then 1 else 0) + (if zGt (zG2 wov lot shd c w b k) t then 1 else 0)) j)) + 0) + 1)), (3, .int (nI k)), (0, .ref 1), (1, .float t)]) rfl ?_
                  refine z_eqs (lv2 := [(4, .int (nI (j + 1))), (2, .int (nI (zSN (fun y => zSN (fun b => (if zGt (zG1 wov lot shd c w b y) t then 1 else 0) + (if zGt (zG2 wov lot shd c w b y) t then 1 else 0)) c) k + zSN (fun b => (if zGt (zG1 wov lot shd c w b k) t then 1 else 0) + (if zGt (zG2 wov lot shd c w b k) t then 1 else 0)) (j + 1)))), (3, .int (nI k)), (0, .ref 1), (1, .float t)]) (h2 := (zHp (c, r, w, lim, tol, cart, wov, lot, sew, mis, cnt, col, len, lef, sbt, shd) X Y out)) (by rw [zGa_s (f := (fun b => (if zGt (zG1 wov lot shd c w b k) t then 1 else 0) + (if zGt (zG2 wov lot shd c w b k) t then 1 else 0))) _ (by first | (show _ = nI ((if _ then 1 else 0) + (if _ then 1 else 0)); simp only [zG1, zG2, *]; decide))]) (by rfl) ?_
                  exact ih15 (j + 1) (by omega) (by omega)
              · skip
                have g1 := zGt_t c_39
                refine z_iconst (v := 1) dX4_gapsAbove_42 (by decide) ?_
                refine z_goto (tgt := 47) dX4_gapsAbove_43 (by decide) ?_
                refine z_iadd dX4_gapsAbove_47 ?_
                refine z_istore_n (lv' := [(2, .int ((nI (zSN (fun y => zSN (fun b => (if zGt (zG1 wov lot shd c w b y) t then 1 else 0) + (if zGt (zG2 wov lot shd c w b y) t then 1 else 0)) c) k + zSN (fun b => (if zGt (zG1 wov lot shd c w b k) t then 1 else 0) + (if zGt (zG2 wov lot shd c w b k) t then 1 else 0)) j)) + 1)), (4, .int (nI j)), (3, .int (nI k)), (0, .ref 1), (1, .float t)]) dX4_gapsAbove_48 rfl (by decide) rfl ?_
                refine z_iload_n 0 dX4_gapsAbove_49 rfl rfl ?_
                refine z_aload_n 3 dX4_gapsAbove_50 rfl rfl ?_
                refine z_iload 1 dX4_gapsAbove_51 rfl ?_
                refine z_iload_n 2 dX4_gapsAbove_53 rfl rfl ?_
                refine z_iload 1 dX4_gapsAbove_54 rfl ?_
                refine z_iload_n 2 dX4_gapsAbove_56 rfl rfl ?_
                refine z_iconst (v := 1) dX4_gapsAbove_57 (by decide) ?_
                refine z_iadd dX4_gapsAbove_58 ?_
                refine z_callV (N := mX4_gap) 4 [.int (nI j), .int (nI k), .int (nI j), .int ((nI k) + 1)] [.int ((nI (zSN (fun y => zSN (fun b => (if zGt (zG1 wov lot shd c w b y) t then 1 else 0) + (if zGt (zG2 wov lot shd c w b y) t then 1 else 0)) c) k + zSN (fun b => (if zGt (zG1 wov lot shd c w b k) t then 1 else 0) + (if zGt (zG2 wov lot shd c w b k) t then 1 else 0)) j)) + 1)] lX4_gap ⟨zw_314, zw_316, zw_9⟩ rfl rfl rfl rfl (Nat.le_of_ble_eq_true rfl) (by decide) ⟨zlt, zlt⟩ ⟨Nat.zero_le _, Nat.zero_le _⟩ (fun _ => rfl) (c_gap hG hc hr hw hn hs (nI j) (nI k) (nI j) ((nI k) + 1)) dX4_gapsAbove_59 ?_
                refine z_fload_n 4 dX4_gapsAbove_62 rfl rfl ?_
                refine z_fcmp dX4_gapsAbove_63 ?_
                refine z_if_le (tgt := 71) dX4_gapsAbove_64 (by decide) (fun c_64 => ?_) (fun c_64 => ?_)
                · skip
                  have g2 := zGt_f c_64
                  refine z_iconst (v := 0) dX4_gapsAbove_71 (by decide) ?_
                  refine z_iadd dX4_gapsAbove_72 ?_
                  refine z_istore_n (lv' := [(2, .int (((nI (zSN (fun y => zSN (fun b => (if zGt (zG1 wov lot shd c w b y) t then 1 else 0) + (if zGt (zG2 wov lot shd c w b y) t then 1 else 0)) c) k + zSN (fun b => (if zGt (zG1 wov lot shd c w b k) t then 1 else 0) + (if zGt (zG2 wov lot shd c w b k) t then 1 else 0)) j)) + 1) + 0)), (4, .int (nI j)), (3, .int (nI k)), (0, .ref 1), (1, .float t)]) dX4_gapsAbove_73 rfl (by decide) rfl ?_
                  refine z_iinc (v := nI (j + 1)) (lv' := [(4, .int (nI (j + 1))), (2, .int (((nI (zSN (fun y => zSN (fun b => (if zGt (zG1 wov lot shd c w b y) t then 1 else 0) + (if zGt (zG2 wov lot shd c w b y) t then 1 else 0)) c) k + zSN (fun b => (if zGt (zG1 wov lot shd c w b k) t then 1 else 0) + (if zGt (zG2 wov lot shd c w b k) t then 1 else 0)) j)) + 1) + 0)), (3, .int (nI k)), (0, .ref 1), (1, .float t)]) 1 dX4_gapsAbove_74 rfl (nI_1 j) (by decide) rfl ?_
                  refine z_goto (tgt := 15) dX4_gapsAbove_77 (by decide) ?_
                  refine z_sub [0, 1, 2, 3, 4] (lv' := [(4, .int (nI (j + 1))), (2, .int (((nI (zSN (fun y => zSN (fun b => (if zGt (zG1 wov lot shd c w b y) t then 1 else 0) + (if zGt (zG2 wov lot shd c w b y) t then 1 else 0)) c) k + zSN (fun b => (if zGt (zG1 wov lot shd c w b k) t then 1 else 0) + (if zGt (zG2 wov lot shd c w b k) t then 1 else 0)) j)) + 1) + 0)), (3, .int (nI k)), (0, .ref 1), (1, .float t)]) rfl ?_
                  refine z_eqs (lv2 := [(4, .int (nI (j + 1))), (2, .int (nI (zSN (fun y => zSN (fun b => (if zGt (zG1 wov lot shd c w b y) t then 1 else 0) + (if zGt (zG2 wov lot shd c w b y) t then 1 else 0)) c) k + zSN (fun b => (if zGt (zG1 wov lot shd c w b k) t then 1 else 0) + (if zGt (zG2 wov lot shd c w b k) t then 1 else 0)) (j + 1)))), (3, .int (nI k)), (0, .ref 1), (1, .float t)]) (h2 := (zHp (c, r, w, lim, tol, cart, wov, lot, sew, mis, cnt, col, len, lef, sbt, shd) X Y out)) (by rw [zGa_s (f := (fun b => (if zGt (zG1 wov lot shd c w b k) t then 1 else 0) + (if zGt (zG2 wov lot shd c w b k) t then 1 else 0))) _ (by first | (show _ = nI ((if _ then 1 else 0) + (if _ then 1 else 0)); simp only [zG1, zG2, *]; decide))]) (by rfl) ?_
                  exact ih15 (j + 1) (by omega) (by omega)
                · skip
                  have g2 := zGt_t c_64
                  refine z_iconst (v := 1) dX4_gapsAbove_67 (by decide) ?_
                  refine z_goto (tgt := 72) dX4_gapsAbove_68 (by decide) ?_
                  refine z_iadd dX4_gapsAbove_72 ?_
                  refine z_istore_n (lv' := [(2, .int (((nI (zSN (fun y => zSN (fun b => (if zGt (zG1 wov lot shd c w b y) t then 1 else 0) + (if zGt (zG2 wov lot shd c w b y) t then 1 else 0)) c) k + zSN (fun b => (if zGt (zG1 wov lot shd c w b k) t then 1 else 0) + (if zGt (zG2 wov lot shd c w b k) t then 1 else 0)) j)) + 1) + 1)), (4, .int (nI j)), (3, .int (nI k)), (0, .ref 1), (1, .float t)]) dX4_gapsAbove_73 rfl (by decide) rfl ?_
                  refine z_iinc (v := nI (j + 1)) (lv' := [(4, .int (nI (j + 1))), (2, .int (((nI (zSN (fun y => zSN (fun b => (if zGt (zG1 wov lot shd c w b y) t then 1 else 0) + (if zGt (zG2 wov lot shd c w b y) t then 1 else 0)) c) k + zSN (fun b => (if zGt (zG1 wov lot shd c w b k) t then 1 else 0) + (if zGt (zG2 wov lot shd c w b k) t then 1 else 0)) j)) + 1) + 1)), (3, .int (nI k)), (0, .ref 1), (1, .float t)]) 1 dX4_gapsAbove_74 rfl (nI_1 j) (by decide) rfl ?_
                  refine z_goto (tgt := 15) dX4_gapsAbove_77 (by decide) ?_
                  refine z_sub [0, 1, 2, 3, 4] (lv' := [(4, .int (nI (j + 1))), (2, .int (((nI (zSN (fun y => zSN (fun b => (if zGt (zG1 wov lot shd c w b y) t then 1 else 0) + (if zGt (zG2 wov lot shd c w b y) t then 1 else 0)) c) k + zSN (fun b => (if zGt (zG1 wov lot shd c w b k) t then 1 else 0) + (if zGt (zG2 wov lot shd c w b k) t then 1 else 0)) j)) + 1) + 1)), (3, .int (nI k)), (0, .ref 1), (1, .float t)]) rfl ?_
                  refine z_eqs (lv2 := [(4, .int (nI (j + 1))), (2, .int (nI (zSN (fun y => zSN (fun b => (if zGt (zG1 wov lot shd c w b y) t then 1 else 0) + (if zGt (zG2 wov lot shd c w b y) t then 1 else 0)) c) k + zSN (fun b => (if zGt (zG1 wov lot shd c w b k) t then 1 else 0) + (if zGt (zG2 wov lot shd c w b k) t then 1 else 0)) (j + 1)))), (3, .int (nI k)), (0, .ref 1), (1, .float t)]) (h2 := (zHp (c, r, w, lim, tol, cart, wov, lot, sew, mis, cnt, col, len, lef, sbt, shd) X Y out)) (by rw [zGa_s (f := (fun b => (if zGt (zG1 wov lot shd c w b k) t then 1 else 0) + (if zGt (zG2 wov lot shd c w b k) t then 1 else 0))) _ (by first | (show _ = nI ((if _ then 1 else 0) + (if _ then 1 else 0)); simp only [zG1, zG2, *]; decide))]) (by rfl) ?_
                  exact ih15 (j + 1) (by omega) (by omega)
        refine z_sub [0, 2, 1, 3, 4] (lv' := [(4, .int 0), (2, .int (nI (zSN (fun y => zSN (fun b => (if zGt (zG1 wov lot shd c w b y) t then 1 else 0) + (if zGt (zG2 wov lot shd c w b y) t then 1 else 0)) c) k))), (3, .int (nI k)), (0, .ref 1), (1, .float t)]) rfl ?_
        refine z_eqs (lv2 := [(4, .int (nI 0)), (2, .int (nI (zSN (fun y => zSN (fun b => (if zGt (zG1 wov lot shd c w b y) t then 1 else 0) + (if zGt (zG2 wov lot shd c w b y) t then 1 else 0)) c) k + zSN (fun b => (if zGt (zG1 wov lot shd c w b k) t then 1 else 0) + (if zGt (zG2 wov lot shd c w b k) t then 1 else 0)) 0))), (3, .int (nI k)), (0, .ref 1), (1, .float t)]) (h2 := (zHp (c, r, w, lim, tol, cart, wov, lot, sew, mis, cnt, col, len, lef, sbt, shd) X Y out)) (by rfl) (by rfl) ?_
        exact L15_2 (c + 1) 0 (Nat.zero_le _) (by omega)
  refine z_sub [0, 1, 2, 3] (lv' := [(3, .int 0), (2, .int 0), (0, .ref 1), (1, .float t)]) rfl ?_
  refine z_eqs (lv2 := [(3, .int (nI 0)), (2, .int (nI (zSN (fun y => zSN (fun b => (if zGt (zG1 wov lot shd c w b y) t then 1 else 0) + (if zGt (zG2 wov lot shd c w b y) t then 1 else 0)) c) 0))), (0, .ref 1), (1, .float t)]) (h2 := (zHp (c, r, w, lim, tol, cart, wov, lot, sew, mis, cnt, col, len, lef, sbt, shd) X Y out)) (by rfl) (by rfl) ?_
  exact L4_1 (w + 1) 0 (Nat.zero_le _) (by omega)

set_option maxHeartbeats 4000000 in
set_option maxRecDepth 100000 in
theorem c_widest {G : zT} {c r w lim cnt : Nat} {tol : Int32} {cart wov lot sew mis col len lef sbt : Nat → Int32} {shd : Nat → UInt32} {X : zXr} {Y : zYr} {out : Nat → Int64} (hG : zAl G = false) (hc : c ≤ 20) (hr : r ≤ 16) (hw : w ≤ r) (hn : cnt ≤ 16) (hs : ∀ j, zFinS (shd j))  : zRun G mX4_widestGap 0 0 [.ref 1] (zHp (c, r, w, lim, tol, cart, wov, lot, sew, mis, cnt, col, len, lef, sbt, shd) X Y out) (.inr (some (.float (zWg wov lot shd c w)))) (zHp (c, r, w, lim, tol, cart, wov, lot, sew, mis, cnt, col, len, lef, sbt, shd) X Y out) := by
  refine zRun_of (by decide +kernel) rfl rfl (Nat.le_of_ble_eq_true rfl) ?_
  suffices hs : ∀ (o9 : zO) (h9 : zH), (Sum.inr (some (.float (zWg wov lot shd c w))) : zO) = o9 → (zHp (c, r, w, lim, tol, cart, wov, lot, sew, mis, cnt, col, len, lef, sbt, shd) X Y out) = h9 → zPW G mX4_widestGap 0 0 o9 h9 0 0 0 [(0, .ref 1)] [] (zHp (c, r, w, lim, tol, cart, wov, lot, sew, mis, cnt, col, len, lef, sbt, shd) X Y out) from hs _ _ rfl rfl
  intro o9 h9 ho9 hh9
  refine z_fconst0 dX4_widestGap_0 ?_
  refine z_fstore_n (lv' := [(1, .float (FP.fconst0)), (0, .ref 1)]) dX4_widestGap_1 rfl (by decide) rfl ?_
  refine z_iconst (v := 0) dX4_widestGap_2 (by decide) ?_
  refine z_istore_n (lv' := [(2, .int 0), (1, .float (FP.fconst0)), (0, .ref 1)]) dX4_widestGap_3 rfl (by decide) rfl ?_
  have L4_1 : ∀ (d k : Nat), k ≤ w → w + 1 ≤ k + d → zPW G mX4_widestGap 0 0 o9 h9 0 0 4 [(2, .int (nI k)), (1, .float (zIt (fun y s => zIt (fun b s => if zGt (zG2 wov lot shd c w b y) (if zGt (zG1 wov lot shd c w b y) s then zG1 wov lot shd c w b y else s) then zG2 wov lot shd c w b y else (if zGt (zG1 wov lot shd c w b y) s then zG1 wov lot shd c w b y else s)) c s) k FP.fconst0)), (0, .ref 1)] [] (zHp (c, r, w, lim, tol, cart, wov, lot, sew, mis, cnt, col, len, lef, sbt, shd) X Y out) := by
    intro d
    induction d with
    | zero => intro k hk hd; exact absurd hd (by omega)
    | succ d ih =>
      intro k hk_k hd_k
      have ih4 := ih
      clear ih
      refine z_iload_n 0 dX4_widestGap_4 rfl rfl ?_
      refine z_aload_n 2 dX4_widestGap_5 rfl rfl ?_
      refine z_get (v := .int (nI w)) 2 rfl rfl inX4 (by decide) zw_134 rfl rfl dX4_widestGap_6 ?_
      refine z_icmp_ge (tgt := 86) dX4_widestGap_9 (by decide) (fun c_9 => ?_) (fun c_9 => ?_)
      · skip
        have hx_k := zge (by omega) hk_k c_9
        refine z_fload_n 1 dX4_widestGap_86 rfl rfl ?_
        exact z_fret rfl dX4_widestGap_87 (zo_f ho9 (by rw [zWg, hx_k])) (zo_h hh9 (by rfl)) (Nat.zero_le _) (Nat.zero_le _)
      · skip
        have hx_k := zlt' (by omega) hk_k c_9
        refine z_iconst (v := 0) dX4_widestGap_12 (by decide) ?_
        refine z_istore_n (lv' := [(3, .int 0), (2, .int (nI k)), (1, .float (zIt (fun y s => zIt (fun b s => if zGt (zG2 wov lot shd c w b y) (if zGt (zG1 wov lot shd c w b y) s then zG1 wov lot shd c w b y else s) then zG2 wov lot shd c w b y else (if zGt (zG1 wov lot shd c w b y) s then zG1 wov lot shd c w b y else s)) c s) k FP.fconst0)), (0, .ref 1)]) dX4_widestGap_13 rfl (by decide) rfl ?_
        have L14_2 : ∀ (d j : Nat), j ≤ c → c + 1 ≤ j + d → zPW G mX4_widestGap 0 0 o9 h9 0 0 14 [(3, .int (nI j)), (1, .float (zIt (fun b s => if zGt (zG2 wov lot shd c w b k) (if zGt (zG1 wov lot shd c w b k) s then zG1 wov lot shd c w b k else s) then zG2 wov lot shd c w b k else (if zGt (zG1 wov lot shd c w b k) s then zG1 wov lot shd c w b k else s)) j (zIt (fun y s => zIt (fun b s => if zGt (zG2 wov lot shd c w b y) (if zGt (zG1 wov lot shd c w b y) s then zG1 wov lot shd c w b y else s) then zG2 wov lot shd c w b y else (if zGt (zG1 wov lot shd c w b y) s then zG1 wov lot shd c w b y else s)) c s) k FP.fconst0))), (2, .int (nI k)), (0, .ref 1)] [] (zHp (c, r, w, lim, tol, cart, wov, lot, sew, mis, cnt, col, len, lef, sbt, shd) X Y out) := by
          intro d
          induction d with
          | zero => intro j hk hd; exact absurd hd (by omega)
          | succ d ih =>
            intro j hk_j hd_j
            have ih14 := ih
            clear ih
            refine z_iload_n 0 dX4_widestGap_14 rfl rfl ?_
            refine z_aload_n 3 dX4_widestGap_15 rfl rfl ?_
            refine z_get (v := .int (nI c)) 0 rfl rfl inX4 (by decide) zw_130 rfl rfl dX4_widestGap_16 ?_
            refine z_icmp_ge (tgt := 80) dX4_widestGap_19 (by decide) (fun c_19 => ?_) (fun c_19 => ?_)
            · skip
              have hx_j := zge (by omega) hk_j c_19
              refine z_iinc (v := nI (k + 1)) (lv' := [(2, .int (nI (k + 1))), (3, .int (nI j)), (1, .float (zIt (fun b s => if zGt (zG2 wov lot shd c w b k) (if zGt (zG1 wov lot shd c w b k) s then zG1 wov lot shd c w b k else s) then zG2 wov lot shd c w b k else (if zGt (zG1 wov lot shd c w b k) s then zG1 wov lot shd c w b k else s)) j (zIt (fun y s => zIt (fun b s => if zGt (zG2 wov lot shd c w b y) (if zGt (zG1 wov lot shd c w b y) s then zG1 wov lot shd c w b y else s) then zG2 wov lot shd c w b y else (if zGt (zG1 wov lot shd c w b y) s then zG1 wov lot shd c w b y else s)) c s) k FP.fconst0))), (0, .ref 1)]) 2 dX4_widestGap_80 rfl (nI_1 k) (by decide) rfl ?_
              refine z_goto (tgt := 4) dX4_widestGap_83 (by decide) ?_
              refine z_sub [0, 2, 3] (lv' := [(2, .int (nI (k + 1))), (1, .float (zIt (fun b s => if zGt (zG2 wov lot shd c w b k) (if zGt (zG1 wov lot shd c w b k) s then zG1 wov lot shd c w b k else s) then zG2 wov lot shd c w b k else (if zGt (zG1 wov lot shd c w b k) s then zG1 wov lot shd c w b k else s)) j (zIt (fun y s => zIt (fun b s => if zGt (zG2 wov lot shd c w b y) (if zGt (zG1 wov lot shd c w b y) s then zG1 wov lot shd c w b y else s) then zG2 wov lot shd c w b y else (if zGt (zG1 wov lot shd c w b y) s then zG1 wov lot shd c w b y else s)) c s) k FP.fconst0))), (0, .ref 1)]) rfl ?_
              refine z_eqs (lv2 := [(2, .int (nI (k + 1))), (1, .float (zIt (fun y s => zIt (fun b s => if zGt (zG2 wov lot shd c w b y) (if zGt (zG1 wov lot shd c w b y) s then zG1 wov lot shd c w b y else s) then zG2 wov lot shd c w b y else (if zGt (zG1 wov lot shd c w b y) s then zG1 wov lot shd c w b y else s)) c s) (k + 1) FP.fconst0)), (0, .ref 1)]) (h2 := (zHp (c, r, w, lim, tol, cart, wov, lot, sew, mis, cnt, col, len, lef, sbt, shd) X Y out)) (by rw [hx_j]; rfl) (by rfl) ?_
              exact ih4 (k + 1) (by omega) (by omega)
            · skip
              have hx_j := zlt' (by omega) hk_j c_19
              refine z_aload_n 3 dX4_widestGap_22 rfl rfl ?_
              refine z_iload_n 0 dX4_widestGap_23 rfl rfl ?_
              refine z_iload_n 2 dX4_widestGap_24 rfl rfl ?_
              refine z_iload_n 0 dX4_widestGap_25 rfl rfl ?_
              refine z_iconst (v := 1) dX4_widestGap_26 (by decide) ?_
              refine z_iadd dX4_widestGap_27 ?_
              refine z_iload_n 2 dX4_widestGap_28 rfl rfl ?_
              refine z_callV (N := mX4_gap) 4 [.int (nI j), .int (nI k), .int ((nI j) + 1), .int (nI k)] [] lX4_gap ⟨zw_314, zw_316, zw_9⟩ rfl rfl rfl rfl (Nat.le_of_ble_eq_true rfl) (by decide) ⟨zlt, zlt⟩ ⟨Nat.zero_le _, Nat.zero_le _⟩ (fun _ => rfl) (c_gap hG hc hr hw hn hs (nI j) (nI k) ((nI j) + 1) (nI k)) dX4_widestGap_29 ?_
              refine z_top (v2 := .float (zG1 wov lot shd c w j k)) (by rfl) ?_
              refine z_fstore (lv' := [(4, .float (zG1 wov lot shd c w j k)), (3, .int (nI j)), (1, .float (zIt (fun b s => if zGt (zG2 wov lot shd c w b k) (if zGt (zG1 wov lot shd c w b k) s then zG1 wov lot shd c w b k else s) then zG2 wov lot shd c w b k else (if zGt (zG1 wov lot shd c w b k) s then zG1 wov lot shd c w b k else s)) j (zIt (fun y s => zIt (fun b s => if zGt (zG2 wov lot shd c w b y) (if zGt (zG1 wov lot shd c w b y) s then zG1 wov lot shd c w b y else s) then zG2 wov lot shd c w b y else (if zGt (zG1 wov lot shd c w b y) s then zG1 wov lot shd c w b y else s)) c s) k FP.fconst0))), (2, .int (nI k)), (0, .ref 1)]) dX4_widestGap_32 (by decide) rfl ?_
              refine z_aload_n 4 dX4_widestGap_34 rfl rfl ?_
              refine z_iload_n 1 dX4_widestGap_35 rfl rfl ?_
              refine z_iload_n 3 dX4_widestGap_36 rfl rfl ?_
              refine z_iload_n 1 dX4_widestGap_37 rfl rfl ?_
              refine z_iload_n 3 dX4_widestGap_38 rfl rfl ?_
              refine z_iconst (v := 1) dX4_widestGap_39 (by decide) ?_
              refine z_iadd dX4_widestGap_40 ?_
              refine z_callV (N := mX4_gap) 4 [.int (nI j), .int (nI k), .int (nI j), .int ((nI k) + 1)] [] lX4_gap ⟨zw_314, zw_316, zw_9⟩ rfl rfl rfl rfl (Nat.le_of_ble_eq_true rfl) (by decide) ⟨zlt, zlt⟩ ⟨Nat.zero_le _, Nat.zero_le _⟩ (fun _ => rfl) (c_gap hG hc hr hw hn hs (nI j) (nI k) (nI j) ((nI k) + 1)) dX4_widestGap_41 ?_
              refine z_top (v2 := .float (zG2 wov lot shd c w j k)) (by rfl) ?_
              refine z_fstore (lv' := [(5, .float (zG2 wov lot shd c w j k)), (4, .float (zG1 wov lot shd c w j k)), (3, .int (nI j)), (1, .float (zIt (fun b s => if zGt (zG2 wov lot shd c w b k) (if zGt (zG1 wov lot shd c w b k) s then zG1 wov lot shd c w b k else s) then zG2 wov lot shd c w b k else (if zGt (zG1 wov lot shd c w b k) s then zG1 wov lot shd c w b k else s)) j (zIt (fun y s => zIt (fun b s => if zGt (zG2 wov lot shd c w b y) (if zGt (zG1 wov lot shd c w b y) s then zG1 wov lot shd c w b y else s) then zG2 wov lot shd c w b y else (if zGt (zG1 wov lot shd c w b y) s then zG1 wov lot shd c w b y else s)) c s) k FP.fconst0))), (2, .int (nI k)), (0, .ref 1)]) dX4_widestGap_44 (by decide) rfl ?_
              refine z_fload 1 dX4_widestGap_46 rfl ?_
              refine z_fload_n 3 dX4_widestGap_48 rfl rfl ?_
              refine z_fcmp dX4_widestGap_49 ?_
              refine z_if_le (tgt := 58) dX4_widestGap_50 (by decide) (fun c_50 => ?_) (fun c_50 => ?_)
              · skip
                have g1 := zGt_f c_50
                refine z_fload_n 3 dX4_widestGap_58 rfl rfl ?_
                refine z_fstore_n (lv' := [(1, .float (zIt (fun b s => if zGt (zG2 wov lot shd c w b k) (if zGt (zG1 wov lot shd c w b k) s then zG1 wov lot shd c w b k else s) then zG2 wov lot shd c w b k else (if zGt (zG1 wov lot shd c w b k) s then zG1 wov lot shd c w b k else s)) j (zIt (fun y s => zIt (fun b s => if zGt (zG2 wov lot shd c w b y) (if zGt (zG1 wov lot shd c w b y) s then zG1 wov lot shd c w b y else s) then zG2 wov lot shd c w b y else (if zGt (zG1 wov lot shd c w b y) s then zG1 wov lot shd c w b y else s)) c s) k FP.fconst0))), (5, .float (zG2 wov lot shd c w j k)), (4, .float (zG1 wov lot shd c w j k)), (3, .int (nI j)), (2, .int (nI k)), (0, .ref 1)]) dX4_widestGap_59 rfl (by decide) rfl ?_
                refine z_fload 1 dX4_widestGap_60 rfl ?_
                refine z_fload_n 0 dX4_widestGap_62 rfl rfl ?_
                refine z_fcmp dX4_widestGap_63 ?_
                refine z_if_le (tgt := 72) dX4_widestGap_64 (by decide) (fun c_64 => ?_) (fun c_64 => ?_)
                · skip
                  have g2 := zGt_f c_64
                  refine z_fload_n 0 dX4_widestGap_72 rfl rfl ?_
                  refine z_fstore_n (lv' := [(1, .float (zIt (fun b s => if zGt (zG2 wov lot shd c w b k) (if zGt (zG1 wov lot shd c w b k) s then zG1 wov lot shd c w b k else s) then zG2 wov lot shd c w b k else (if zGt (zG1 wov lot shd c w b k) s then zG1 wov lot shd c w b k else s)) j (zIt (fun y s => zIt (fun b s => if zGt (zG2 wov lot shd c w b y) (if zGt (zG1 wov lot shd c w b y) s then zG1 wov lot shd c w b y else s) then zG2 wov lot shd c w b y else (if zGt (zG1 wov lot shd c w b y) s then zG1 wov lot shd c w b y else s)) c s) k FP.fconst0))), (5, .float (zG2 wov lot shd c w j k)), (4, .float (zG1 wov lot shd c w j k)), (3, .int (nI j)), (2, .int (nI k)), (0, .ref 1)]) dX4_widestGap_73 rfl (by decide) rfl ?_
                  refine z_iinc (v := nI (j + 1)) (lv' := [(3, .int (nI (j + 1))), (1, .float (zIt (fun b s => if zGt (zG2 wov lot shd c w b k) (if zGt (zG1 wov lot shd c w b k) s then zG1 wov lot shd c w b k else s) then zG2 wov lot shd c w b k else (if zGt (zG1 wov lot shd c w b k) s then zG1 wov lot shd c w b k else s)) j (zIt (fun y s => zIt (fun b s => if zGt (zG2 wov lot shd c w b y) (if zGt (zG1 wov lot shd c w b y) s then zG1 wov lot shd c w b y else s) then zG2 wov lot shd c w b y else (if zGt (zG1 wov lot shd c w b y) s then zG1 wov lot shd c w b y else s)) c s) k FP.fconst0))), (5, .float (zG2 wov lot shd c w j k)), (4, .float (zG1 wov lot shd c w j k)), (2, .int (nI k)), (0, .ref 1)]) 3 dX4_widestGap_74 rfl (nI_1 j) (by decide) rfl ?_
                  refine z_goto (tgt := 14) dX4_widestGap_77 (by decide) ?_
                  refine z_sub [0, 1, 4, 5] (lv' := [(3, .int (nI (j + 1))), (1, .float (zIt (fun b s => if zGt (zG2 wov lot shd c w b k) (if zGt (zG1 wov lot shd c w b k) s then zG1 wov lot shd c w b k else s) then zG2 wov lot shd c w b k else (if zGt (zG1 wov lot shd c w b k) s then zG1 wov lot shd c w b k else s)) j (zIt (fun y s => zIt (fun b s => if zGt (zG2 wov lot shd c w b y) (if zGt (zG1 wov lot shd c w b y) s then zG1 wov lot shd c w b y else s) then zG2 wov lot shd c w b y else (if zGt (zG1 wov lot shd c w b y) s then zG1 wov lot shd c w b y else s)) c s) k FP.fconst0))), (2, .int (nI k)), (0, .ref 1)]) rfl ?_
                  refine z_eqs (lv2 := [(3, .int (nI (j + 1))), (1, .float (zIt (fun b s => if zGt (zG2 wov lot shd c w b k) (if zGt (zG1 wov lot shd c w b k) s then zG1 wov lot shd c w b k else s) then zG2 wov lot shd c w b k else (if zGt (zG1 wov lot shd c w b k) s then zG1 wov lot shd c w b k else s)) (j + 1) (zIt (fun y s => zIt (fun b s => if zGt (zG2 wov lot shd c w b y) (if zGt (zG1 wov lot shd c w b y) s then zG1 wov lot shd c w b y else s) then zG2 wov lot shd c w b y else (if zGt (zG1 wov lot shd c w b y) s then zG1 wov lot shd c w b y else s)) c s) k FP.fconst0))), (2, .int (nI k)), (0, .ref 1)]) (h2 := (zHp (c, r, w, lim, tol, cart, wov, lot, sew, mis, cnt, col, len, lef, sbt, shd) X Y out)) (by simp only [zIt, g1, g2, if_true, if_false, Bool.false_eq_true]) (by rfl) ?_
                  exact ih14 (j + 1) (by omega) (by omega)
                · skip
                  have g2 := zGt_t c_64
                  refine z_fload 1 dX4_widestGap_67 rfl ?_
                  refine z_goto (tgt := 73) dX4_widestGap_69 (by decide) ?_
                  refine z_fstore_n (lv' := [(1, .float (zG2 wov lot shd c w j k)), (5, .float (zG2 wov lot shd c w j k)), (4, .float (zG1 wov lot shd c w j k)), (3, .int (nI j)), (2, .int (nI k)), (0, .ref 1)]) dX4_widestGap_73 rfl (by decide) rfl ?_
                  refine z_iinc (v := nI (j + 1)) (lv' := [(3, .int (nI (j + 1))), (1, .float (zG2 wov lot shd c w j k)), (5, .float (zG2 wov lot shd c w j k)), (4, .float (zG1 wov lot shd c w j k)), (2, .int (nI k)), (0, .ref 1)]) 3 dX4_widestGap_74 rfl (nI_1 j) (by decide) rfl ?_
                  refine z_goto (tgt := 14) dX4_widestGap_77 (by decide) ?_
                  refine z_sub [0, 1, 4, 5] (lv' := [(3, .int (nI (j + 1))), (1, .float (zG2 wov lot shd c w j k)), (2, .int (nI k)), (0, .ref 1)]) rfl ?_
                  refine z_eqs (lv2 := [(3, .int (nI (j + 1))), (1, .float (zIt (fun b s => if zGt (zG2 wov lot shd c w b k) (if zGt (zG1 wov lot shd c w b k) s then zG1 wov lot shd c w b k else s) then zG2 wov lot shd c w b k else (if zGt (zG1 wov lot shd c w b k) s then zG1 wov lot shd c w b k else s)) (j + 1) (zIt (fun y s => zIt (fun b s => if zGt (zG2 wov lot shd c w b y) (if zGt (zG1 wov lot shd c w b y) s then zG1 wov lot shd c w b y else s) then zG2 wov lot shd c w b y else (if zGt (zG1 wov lot shd c w b y) s then zG1 wov lot shd c w b y else s)) c s) k FP.fconst0))), (2, .int (nI k)), (0, .ref 1)]) (h2 := (zHp (c, r, w, lim, tol, cart, wov, lot, sew, mis, cnt, col, len, lef, sbt, shd) X Y out)) (by simp only [zIt, g1, g2, if_true, if_false, Bool.false_eq_true]) (by rfl) ?_
                  exact ih14 (j + 1) (by omega) (by omega)
              · skip
                have g1 := zGt_t c_50
                refine z_fload 1 dX4_widestGap_53 rfl ?_
                refine z_goto (tgt := 59) dX4_widestGap_55 (by decide) ?_
                refine z_fstore_n (lv' := [(1, .float (zG1 wov lot shd c w j k)), (5, .float (zG2 wov lot shd c w j k)), (4, .float (zG1 wov lot shd c w j k)), (3, .int (nI j)), (2, .int (nI k)), (0, .ref 1)]) dX4_widestGap_59 rfl (by decide) rfl ?_
                refine z_fload 1 dX4_widestGap_60 rfl ?_
                refine z_fload_n 0 dX4_widestGap_62 rfl rfl ?_
                refine z_fcmp dX4_widestGap_63 ?_
                refine z_if_le (tgt := 72) dX4_widestGap_64 (by decide) (fun c_64 => ?_) (fun c_64 => ?_)
                · skip
                  have g2 := zGt_f c_64
                  refine z_fload_n 0 dX4_widestGap_72 rfl rfl ?_
                  refine z_fstore_n (lv' := [(1, .float (zG1 wov lot shd c w j k)), (5, .float (zG2 wov lot shd c w j k)), (4, .float (zG1 wov lot shd c w j k)), (3, .int (nI j)), (2, .int (nI k)), (0, .ref 1)]) dX4_widestGap_73 rfl (by decide) rfl ?_
                  refine z_iinc (v := nI (j + 1)) (lv' := [(3, .int (nI (j + 1))), (1, .float (zG1 wov lot shd c w j k)), (5, .float (zG2 wov lot shd c w j k)), (4, .float (zG1 wov lot shd c w j k)), (2, .int (nI k)), (0, .ref 1)]) 3 dX4_widestGap_74 rfl (nI_1 j) (by decide) rfl ?_
                  refine z_goto (tgt := 14) dX4_widestGap_77 (by decide) ?_
                  refine z_sub [0, 1, 4, 5] (lv' := [(3, .int (nI (j + 1))), (1, .float (zG1 wov lot shd c w j k)), (2, .int (nI k)), (0, .ref 1)]) rfl ?_
                  refine z_eqs (lv2 := [(3, .int (nI (j + 1))), (1, .float (zIt (fun b s => if zGt (zG2 wov lot shd c w b k) (if zGt (zG1 wov lot shd c w b k) s then zG1 wov lot shd c w b k else s) then zG2 wov lot shd c w b k else (if zGt (zG1 wov lot shd c w b k) s then zG1 wov lot shd c w b k else s)) (j + 1) (zIt (fun y s => zIt (fun b s => if zGt (zG2 wov lot shd c w b y) (if zGt (zG1 wov lot shd c w b y) s then zG1 wov lot shd c w b y else s) then zG2 wov lot shd c w b y else (if zGt (zG1 wov lot shd c w b y) s then zG1 wov lot shd c w b y else s)) c s) k FP.fconst0))), (2, .int (nI k)), (0, .ref 1)]) (h2 := (zHp (c, r, w, lim, tol, cart, wov, lot, sew, mis, cnt, col, len, lef, sbt, shd) X Y out)) (by simp only [zIt, g1, g2, if_true, if_false, Bool.false_eq_true]) (by rfl) ?_
                  exact ih14 (j + 1) (by omega) (by omega)
                · skip
                  have g2 := zGt_t c_64
                  refine z_fload 1 dX4_widestGap_67 rfl ?_
                  refine z_goto (tgt := 73) dX4_widestGap_69 (by decide) ?_
                  refine z_fstore_n (lv' := [(1, .float (zG2 wov lot shd c w j k)), (5, .float (zG2 wov lot shd c w j k)), (4, .float (zG1 wov lot shd c w j k)), (3, .int (nI j)), (2, .int (nI k)), (0, .ref 1)]) dX4_widestGap_73 rfl (by decide) rfl ?_
                  refine z_iinc (v := nI (j + 1)) (lv' := [(3, .int (nI (j + 1))), (1, .float (zG2 wov lot shd c w j k)), (5, .float (zG2 wov lot shd c w j k)), (4, .float (zG1 wov lot shd c w j k)), (2, .int (nI k)), (0, .ref 1)]) 3 dX4_widestGap_74 rfl (nI_1 j) (by decide) rfl ?_
                  refine z_goto (tgt := 14) dX4_widestGap_77 (by decide) ?_
                  refine z_sub [0, 1, 4, 5] (lv' := [(3, .int (nI (j + 1))), (1, .float (zG2 wov lot shd c w j k)), (2, .int (nI k)), (0, .ref 1)]) rfl ?_
                  refine z_eqs (lv2 := [(3, .int (nI (j + 1))), (1, .float (zIt (fun b s => if zGt (zG2 wov lot shd c w b k) (if zGt (zG1 wov lot shd c w b k) s then zG1 wov lot shd c w b k else s) then zG2 wov lot shd c w b k else (if zGt (zG1 wov lot shd c w b k) s then zG1 wov lot shd c w b k else s)) (j + 1) (zIt (fun y s => zIt (fun b s => if zGt (zG2 wov lot shd c w b y) (if zGt (zG1 wov lot shd c w b y) s then zG1 wov lot shd c w b y else s) then zG2 wov lot shd c w b y else (if zGt (zG1 wov lot shd c w b y) s then zG1 wov lot shd c w b y else s)) c s) k FP.fconst0))), (2, .int (nI k)), (0, .ref 1)]) (h2 := (zHp (c, r, w, lim, tol, cart, wov, lot, sew, mis, cnt, col, len, lef, sbt, shd) X Y out)) (by simp only [zIt, g1, g2, if_true, if_false, Bool.false_eq_true]) (by rfl) ?_
                  exact ih14 (j + 1) (by omega) (by omega)
        refine z_sub [0, 2, 1, 3] (lv' := [(3, .int 0), (1, .float (zIt (fun y s => zIt (fun b s => if zGt (zG2 wov lot shd c w b y) (if zGt (zG1 wov lot shd c w b y) s then zG1 wov lot shd c w b y else s) then zG2 wov lot shd c w b y else (if zGt (zG1 wov lot shd c w b y) s then zG1 wov lot shd c w b y else s)) c s) k FP.fconst0)), (2, .int (nI k)), (0, .ref 1)]) rfl ?_
        refine z_eqs (lv2 := [(3, .int (nI 0)), (1, .float (zIt (fun b s => if zGt (zG2 wov lot shd c w b k) (if zGt (zG1 wov lot shd c w b k) s then zG1 wov lot shd c w b k else s) then zG2 wov lot shd c w b k else (if zGt (zG1 wov lot shd c w b k) s then zG1 wov lot shd c w b k else s)) 0 (zIt (fun y s => zIt (fun b s => if zGt (zG2 wov lot shd c w b y) (if zGt (zG1 wov lot shd c w b y) s then zG1 wov lot shd c w b y else s) then zG2 wov lot shd c w b y else (if zGt (zG1 wov lot shd c w b y) s then zG1 wov lot shd c w b y else s)) c s) k FP.fconst0))), (2, .int (nI k)), (0, .ref 1)]) (h2 := (zHp (c, r, w, lim, tol, cart, wov, lot, sew, mis, cnt, col, len, lef, sbt, shd) X Y out)) (by rfl) (by rfl) ?_
        exact L14_2 (c + 1) 0 (Nat.zero_le _) (by omega)
  refine z_sub [0, 1, 2] (lv' := [(2, .int 0), (1, .float (FP.fconst0)), (0, .ref 1)]) rfl ?_
  refine z_eqs (lv2 := [(2, .int (nI 0)), (1, .float (zIt (fun y s => zIt (fun b s => if zGt (zG2 wov lot shd c w b y) (if zGt (zG1 wov lot shd c w b y) s then zG1 wov lot shd c w b y else s) then zG2 wov lot shd c w b y else (if zGt (zG1 wov lot shd c w b y) s then zG1 wov lot shd c w b y else s)) c s) 0 FP.fconst0)), (0, .ref 1)]) (h2 := (zHp (c, r, w, lim, tol, cart, wov, lot, sew, mis, cnt, col, len, lef, sbt, shd) X Y out)) (by rfl) (by rfl) ?_
  exact L4_1 (w + 1) 0 (Nat.zero_le _) (by omega)

